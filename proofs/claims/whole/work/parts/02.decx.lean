theorem dJ6_bitCount_0f7a4_0 : decode cJ6_bitCount_0f7a4 0 = .ok (.iload_n 0, 1) := by decide +kernel
theorem dJ6_bitCount_0f7a4_1 : decode cJ6_bitCount_0f7a4 1 = .ok (.iload_n 0, 1) := by decide +kernel
theorem dJ6_bitCount_0f7a4_2 : decode cJ6_bitCount_0f7a4 2 = .ok (.iconst 1, 1) := by decide +kernel
theorem dJ6_bitCount_0f7a4_3 : decode cJ6_bitCount_0f7a4 3 = .ok (.iushr, 1) := by decide +kernel
theorem dJ6_bitCount_0f7a4_4 : decode cJ6_bitCount_0f7a4 4 = .ok (.ldc_w 265, 3) := by decide +kernel
theorem dJ6_bitCount_0f7a4_7 : decode cJ6_bitCount_0f7a4 7 = .ok (.iand, 1) := by decide +kernel
theorem dJ6_bitCount_0f7a4_8 : decode cJ6_bitCount_0f7a4 8 = .ok (.isub, 1) := by decide +kernel
theorem dJ6_bitCount_0f7a4_9 : decode cJ6_bitCount_0f7a4 9 = .ok (.istore_n 0, 1) := by decide +kernel
theorem dJ6_bitCount_0f7a4_10 : decode cJ6_bitCount_0f7a4 10 = .ok (.iload_n 0, 1) := by decide +kernel
theorem dJ6_bitCount_0f7a4_11 : decode cJ6_bitCount_0f7a4 11 = .ok (.ldc_w 266, 3) := by decide +kernel
theorem dJ6_bitCount_0f7a4_14 : decode cJ6_bitCount_0f7a4 14 = .ok (.iand, 1) := by decide +kernel
theorem dJ6_bitCount_0f7a4_15 : decode cJ6_bitCount_0f7a4 15 = .ok (.iload_n 0, 1) := by decide +kernel
theorem dJ6_bitCount_0f7a4_16 : decode cJ6_bitCount_0f7a4 16 = .ok (.iconst 2, 1) := by decide +kernel
theorem dJ6_bitCount_0f7a4_17 : decode cJ6_bitCount_0f7a4 17 = .ok (.iushr, 1) := by decide +kernel
theorem dJ6_bitCount_0f7a4_18 : decode cJ6_bitCount_0f7a4 18 = .ok (.ldc_w 266, 3) := by decide +kernel
theorem dJ6_bitCount_0f7a4_21 : decode cJ6_bitCount_0f7a4 21 = .ok (.iand, 1) := by decide +kernel
theorem dJ6_bitCount_0f7a4_22 : decode cJ6_bitCount_0f7a4 22 = .ok (.iadd, 1) := by decide +kernel
theorem dJ6_bitCount_0f7a4_23 : decode cJ6_bitCount_0f7a4 23 = .ok (.istore_n 0, 1) := by decide +kernel
theorem dJ6_bitCount_0f7a4_24 : decode cJ6_bitCount_0f7a4 24 = .ok (.iload_n 0, 1) := by decide +kernel
theorem dJ6_bitCount_0f7a4_25 : decode cJ6_bitCount_0f7a4 25 = .ok (.iload_n 0, 1) := by decide +kernel
theorem dJ6_bitCount_0f7a4_26 : decode cJ6_bitCount_0f7a4 26 = .ok (.iconst 4, 1) := by decide +kernel
theorem dJ6_bitCount_0f7a4_27 : decode cJ6_bitCount_0f7a4 27 = .ok (.iushr, 1) := by decide +kernel
theorem dJ6_bitCount_0f7a4_28 : decode cJ6_bitCount_0f7a4 28 = .ok (.iadd, 1) := by decide +kernel
theorem dJ6_bitCount_0f7a4_29 : decode cJ6_bitCount_0f7a4 29 = .ok (.ldc_w 267, 3) := by decide +kernel
theorem dJ6_bitCount_0f7a4_32 : decode cJ6_bitCount_0f7a4 32 = .ok (.iand, 1) := by decide +kernel
theorem dJ6_bitCount_0f7a4_33 : decode cJ6_bitCount_0f7a4 33 = .ok (.istore_n 0, 1) := by decide +kernel
theorem dJ6_bitCount_0f7a4_34 : decode cJ6_bitCount_0f7a4 34 = .ok (.iload_n 0, 1) := by decide +kernel
theorem dJ6_bitCount_0f7a4_35 : decode cJ6_bitCount_0f7a4 35 = .ok (.iload_n 0, 1) := by decide +kernel
theorem dJ6_bitCount_0f7a4_36 : decode cJ6_bitCount_0f7a4 36 = .ok (.bipush 8, 2) := by decide +kernel
theorem dJ6_bitCount_0f7a4_38 : decode cJ6_bitCount_0f7a4 38 = .ok (.iushr, 1) := by decide +kernel
theorem dJ6_bitCount_0f7a4_39 : decode cJ6_bitCount_0f7a4 39 = .ok (.iadd, 1) := by decide +kernel
theorem dJ6_bitCount_0f7a4_40 : decode cJ6_bitCount_0f7a4 40 = .ok (.istore_n 0, 1) := by decide +kernel
theorem dJ6_bitCount_0f7a4_41 : decode cJ6_bitCount_0f7a4 41 = .ok (.iload_n 0, 1) := by decide +kernel
theorem dJ6_bitCount_0f7a4_42 : decode cJ6_bitCount_0f7a4 42 = .ok (.iload_n 0, 1) := by decide +kernel
theorem dJ6_bitCount_0f7a4_43 : decode cJ6_bitCount_0f7a4 43 = .ok (.bipush 16, 2) := by decide +kernel
theorem dJ6_bitCount_0f7a4_45 : decode cJ6_bitCount_0f7a4 45 = .ok (.iushr, 1) := by decide +kernel
theorem dJ6_bitCount_0f7a4_46 : decode cJ6_bitCount_0f7a4 46 = .ok (.iadd, 1) := by decide +kernel
theorem dJ6_bitCount_0f7a4_47 : decode cJ6_bitCount_0f7a4 47 = .ok (.istore_n 0, 1) := by decide +kernel
theorem dJ6_bitCount_0f7a4_48 : decode cJ6_bitCount_0f7a4 48 = .ok (.iload_n 0, 1) := by decide +kernel
theorem dJ6_bitCount_0f7a4_49 : decode cJ6_bitCount_0f7a4 49 = .ok (.bipush 63, 2) := by decide +kernel
theorem dJ6_bitCount_0f7a4_51 : decode cJ6_bitCount_0f7a4 51 = .ok (.iand, 1) := by decide +kernel
theorem dJ6_bitCount_0f7a4_52 : decode cJ6_bitCount_0f7a4 52 = .ok (.ireturn, 1) := by decide +kernel
theorem dJ9_max_7cf53_0 : decode cJ9_max_7cf53 0 = .ok (.iload_n 0, 1) := by decide +kernel
theorem dJ9_max_7cf53_1 : decode cJ9_max_7cf53 1 = .ok (.iload_n 1, 1) := by decide +kernel
theorem dJ9_max_7cf53_2 : decode cJ9_max_7cf53 2 = .ok (.if_icmp .lt 7, 3) := by decide +kernel
theorem dJ9_max_7cf53_5 : decode cJ9_max_7cf53 5 = .ok (.iload_n 0, 1) := by decide +kernel
theorem dJ9_max_7cf53_6 : decode cJ9_max_7cf53 6 = .ok (.goto 4, 3) := by decide +kernel
theorem dJ9_max_7cf53_9 : decode cJ9_max_7cf53 9 = .ok (.iload_n 1, 1) := by decide +kernel
theorem dJ9_max_7cf53_10 : decode cJ9_max_7cf53 10 = .ok (.ireturn, 1) := by decide +kernel
theorem dJ9_min_7cf53_0 : decode cJ9_min_7cf53 0 = .ok (.iload_n 0, 1) := by decide +kernel
theorem dJ9_min_7cf53_1 : decode cJ9_min_7cf53 1 = .ok (.iload_n 1, 1) := by decide +kernel
theorem dJ9_min_7cf53_2 : decode cJ9_min_7cf53 2 = .ok (.if_icmp .gt 7, 3) := by decide +kernel
theorem dJ9_min_7cf53_5 : decode cJ9_min_7cf53 5 = .ok (.iload_n 0, 1) := by decide +kernel
theorem dJ9_min_7cf53_6 : decode cJ9_min_7cf53 6 = .ok (.goto 4, 3) := by decide +kernel
theorem dJ9_min_7cf53_9 : decode cJ9_min_7cf53 9 = .ok (.iload_n 1, 1) := by decide +kernel
theorem dJ9_min_7cf53_10 : decode cJ9_min_7cf53 10 = .ok (.ireturn, 1) := by decide +kernel
theorem dJ0_length_8abf5_0 : decode cJ0_length_8abf5 0 = .ok (.aload_n 0, 1) := by decide +kernel
theorem dJ0_length_8abf5_1 : decode cJ0_length_8abf5 1 = .ok (.getfield 9, 3) := by decide +kernel
theorem dJ0_length_8abf5_4 : decode cJ0_length_8abf5 4 = .ok (.arraylength, 1) := by decide +kernel
theorem dJ0_length_8abf5_5 : decode cJ0_length_8abf5 5 = .ok (.aload_n 0, 1) := by decide +kernel
theorem dJ0_length_8abf5_6 : decode cJ0_length_8abf5 6 = .ok (.invokevirtual 335, 3) := by decide +kernel
theorem dJ0_length_8abf5_9 : decode cJ0_length_8abf5 9 = .ok (.ishr, 1) := by decide +kernel
theorem dJ0_length_8abf5_10 : decode cJ0_length_8abf5 10 = .ok (.ireturn, 1) := by decide +kernel
theorem dJ0_charAt_5068e_0 : decode cJ0_charAt_5068e 0 = .ok (.aload_n 0, 1) := by decide +kernel
theorem dJ0_charAt_5068e_1 : decode cJ0_charAt_5068e 1 = .ok (.invokevirtual 492, 3) := by decide +kernel
theorem dJ0_charAt_5068e_4 : decode cJ0_charAt_5068e 4 = .ok (.ifCond .eq 12, 3) := by decide +kernel
theorem dJ0_charAt_5068e_7 : decode cJ0_charAt_5068e 7 = .ok (.aload_n 0, 1) := by decide +kernel
theorem dJ0_charAt_5068e_8 : decode cJ0_charAt_5068e 8 = .ok (.getfield 9, 3) := by decide +kernel
theorem dJ0_charAt_5068e_11 : decode cJ0_charAt_5068e 11 = .ok (.iload_n 1, 1) := by decide +kernel
theorem dJ0_charAt_5068e_12 : decode cJ0_charAt_5068e 12 = .ok (.invokestatic 495, 3) := by decide +kernel
theorem dJ0_charAt_5068e_15 : decode cJ0_charAt_5068e 15 = .ok (.ireturn, 1) := by decide +kernel
theorem dJ0_charAt_5068e_16 : decode cJ0_charAt_5068e 16 = .ok (.aload_n 0, 1) := by decide +kernel
theorem dJ0_charAt_5068e_17 : decode cJ0_charAt_5068e 17 = .ok (.getfield 9, 3) := by decide +kernel
theorem dJ0_charAt_5068e_20 : decode cJ0_charAt_5068e 20 = .ok (.iload_n 1, 1) := by decide +kernel
theorem dJ0_charAt_5068e_21 : decode cJ0_charAt_5068e 21 = .ok (.invokestatic 498, 3) := by decide +kernel
theorem dJ0_charAt_5068e_24 : decode cJ0_charAt_5068e 24 = .ok (.ireturn, 1) := by decide +kernel
theorem dJ0_coder_7d493_0 : decode cJ0_coder_7d493 0 = .ok (.getstatic 38, 3) := by decide +kernel
theorem dJ0_coder_7d493_3 : decode cJ0_coder_7d493 3 = .ok (.ifCond .eq 10, 3) := by decide +kernel
theorem dJ0_coder_7d493_6 : decode cJ0_coder_7d493 6 = .ok (.aload_n 0, 1) := by decide +kernel
theorem dJ0_coder_7d493_7 : decode cJ0_coder_7d493 7 = .ok (.getfield 15, 3) := by decide +kernel
theorem dJ0_coder_7d493_10 : decode cJ0_coder_7d493 10 = .ok (.goto 4, 3) := by decide +kernel
theorem dJ0_coder_7d493_13 : decode cJ0_coder_7d493 13 = .ok (.iconst 1, 1) := by decide +kernel
theorem dJ0_coder_7d493_14 : decode cJ0_coder_7d493 14 = .ok (.ireturn, 1) := by decide +kernel
theorem dJ0_isLatin1_aae02_0 : decode cJ0_isLatin1_aae02 0 = .ok (.getstatic 38, 3) := by decide +kernel
theorem dJ0_isLatin1_aae02_3 : decode cJ0_isLatin1_aae02 3 = .ok (.ifCond .eq 14, 3) := by decide +kernel
theorem dJ0_isLatin1_aae02_6 : decode cJ0_isLatin1_aae02 6 = .ok (.aload_n 0, 1) := by decide +kernel
theorem dJ0_isLatin1_aae02_7 : decode cJ0_isLatin1_aae02 7 = .ok (.getfield 15, 3) := by decide +kernel
theorem dJ0_isLatin1_aae02_10 : decode cJ0_isLatin1_aae02 10 = .ok (.ifCond .ne 7, 3) := by decide +kernel
theorem dJ0_isLatin1_aae02_13 : decode cJ0_isLatin1_aae02 13 = .ok (.iconst 1, 1) := by decide +kernel
theorem dJ0_isLatin1_aae02_14 : decode cJ0_isLatin1_aae02 14 = .ok (.goto 4, 3) := by decide +kernel
theorem dJ0_isLatin1_aae02_17 : decode cJ0_isLatin1_aae02 17 = .ok (.iconst 0, 1) := by decide +kernel
theorem dJ0_isLatin1_aae02_18 : decode cJ0_isLatin1_aae02 18 = .ok (.ireturn, 1) := by decide +kernel
theorem dJ0_checkIndex_df160_0 : decode cJ0_checkIndex_df160 0 = .ok (.iload_n 0, 1) := by decide +kernel
theorem dJ0_checkIndex_df160_1 : decode cJ0_checkIndex_df160 1 = .ok (.iload_n 1, 1) := by decide +kernel
theorem dJ0_checkIndex_df160_2 : decode cJ0_checkIndex_df160 2 = .ok (.getstatic 1053, 3) := by decide +kernel
theorem dJ0_checkIndex_df160_5 : decode cJ0_checkIndex_df160 5 = .ok (.invokestatic 1059, 3) := by decide +kernel
theorem dJ0_checkIndex_df160_8 : decode cJ0_checkIndex_df160 8 = .ok (.pop, 1) := by decide +kernel
theorem dJ0_checkIndex_df160_9 : decode cJ0_checkIndex_df160 9 = .ok (.return_, 1) := by decide +kernel
theorem dJ1_charAt_3b067_0 : decode cJ1_charAt_3b067 0 = .ok (.iload_n 1, 1) := by decide +kernel
theorem dJ1_charAt_3b067_1 : decode cJ1_charAt_3b067 1 = .ok (.aload_n 0, 1) := by decide +kernel
theorem dJ1_charAt_3b067_2 : decode cJ1_charAt_3b067 2 = .ok (.arraylength, 1) := by decide +kernel
theorem dJ1_charAt_3b067_3 : decode cJ1_charAt_3b067 3 = .ok (.invokestatic 9, 3) := by decide +kernel
theorem dJ1_charAt_3b067_6 : decode cJ1_charAt_3b067 6 = .ok (.aload_n 0, 1) := by decide +kernel
theorem dJ1_charAt_3b067_7 : decode cJ1_charAt_3b067 7 = .ok (.iload_n 1, 1) := by decide +kernel
theorem dJ1_charAt_3b067_8 : decode cJ1_charAt_3b067 8 = .ok (.baload, 1) := by decide +kernel
theorem dJ1_charAt_3b067_9 : decode cJ1_charAt_3b067 9 = .ok (.sipush 255, 3) := by decide +kernel
theorem dJ1_charAt_3b067_12 : decode cJ1_charAt_3b067 12 = .ok (.iand, 1) := by decide +kernel
theorem dJ1_charAt_3b067_13 : decode cJ1_charAt_3b067 13 = .ok (.i2c, 1) := by decide +kernel
theorem dJ1_charAt_3b067_14 : decode cJ1_charAt_3b067 14 = .ok (.ireturn, 1) := by decide +kernel
theorem dJ2_getChar_3b067_0 : decode cJ2_getChar_3b067 0 = .ok (.getstatic 44, 3) := by decide +kernel
theorem dJ2_getChar_3b067_3 : decode cJ2_getChar_3b067 3 = .ok (.ifCond .ne 25, 3) := by decide +kernel
theorem dJ2_getChar_3b067_6 : decode cJ2_getChar_3b067 6 = .ok (.iload_n 1, 1) := by decide +kernel
theorem dJ2_getChar_3b067_7 : decode cJ2_getChar_3b067 7 = .ok (.ifCond .lt 11, 3) := by decide +kernel
theorem dJ2_getChar_3b067_10 : decode cJ2_getChar_3b067 10 = .ok (.iload_n 1, 1) := by decide +kernel
theorem dJ2_getChar_3b067_11 : decode cJ2_getChar_3b067 11 = .ok (.aload_n 0, 1) := by decide +kernel
theorem dJ2_getChar_3b067_12 : decode cJ2_getChar_3b067 12 = .ok (.invokestatic 48, 3) := by decide +kernel
theorem dJ2_getChar_3b067_15 : decode cJ2_getChar_3b067 15 = .ok (.if_icmp .lt 13, 3) := by decide +kernel
theorem dJ2_getChar_3b067_18 : decode cJ2_getChar_3b067 18 = .ok (.new 52, 3) := by decide +kernel
theorem dJ2_getChar_3b067_21 : decode cJ2_getChar_3b067 21 = .ok (.dup, 1) := by decide +kernel
theorem dJ2_getChar_3b067_22 : decode cJ2_getChar_3b067 22 = .ok (.ldc 54, 2) := by decide +kernel
theorem dJ2_getChar_3b067_24 : decode cJ2_getChar_3b067 24 = .ok (.invokespecial 56, 3) := by decide +kernel
theorem dJ2_getChar_3b067_27 : decode cJ2_getChar_3b067 27 = .ok (.athrow, 1) := by decide +kernel
theorem dJ2_getChar_3b067_28 : decode cJ2_getChar_3b067 28 = .ok (.iload_n 1, 1) := by decide +kernel
theorem dJ2_getChar_3b067_29 : decode cJ2_getChar_3b067 29 = .ok (.iconst 1, 1) := by decide +kernel
theorem dJ2_getChar_3b067_30 : decode cJ2_getChar_3b067 30 = .ok (.ishl, 1) := by decide +kernel
theorem dJ2_getChar_3b067_31 : decode cJ2_getChar_3b067 31 = .ok (.istore_n 1, 1) := by decide +kernel
theorem dJ2_getChar_3b067_32 : decode cJ2_getChar_3b067 32 = .ok (.aload_n 0, 1) := by decide +kernel
theorem dJ2_getChar_3b067_33 : decode cJ2_getChar_3b067 33 = .ok (.iload_n 1, 1) := by decide +kernel
theorem dJ2_getChar_3b067_34 : decode cJ2_getChar_3b067 34 = .ok (.iinc 1 1, 3) := by decide +kernel
theorem dJ2_getChar_3b067_37 : decode cJ2_getChar_3b067 37 = .ok (.baload, 1) := by decide +kernel
theorem dJ2_getChar_3b067_38 : decode cJ2_getChar_3b067 38 = .ok (.sipush 255, 3) := by decide +kernel
theorem dJ2_getChar_3b067_41 : decode cJ2_getChar_3b067 41 = .ok (.iand, 1) := by decide +kernel
theorem dJ2_getChar_3b067_42 : decode cJ2_getChar_3b067 42 = .ok (.getstatic 59, 3) := by decide +kernel
theorem dJ2_getChar_3b067_45 : decode cJ2_getChar_3b067 45 = .ok (.ishl, 1) := by decide +kernel
theorem dJ2_getChar_3b067_46 : decode cJ2_getChar_3b067 46 = .ok (.aload_n 0, 1) := by decide +kernel
theorem dJ2_getChar_3b067_47 : decode cJ2_getChar_3b067 47 = .ok (.iload_n 1, 1) := by decide +kernel
theorem dJ2_getChar_3b067_48 : decode cJ2_getChar_3b067 48 = .ok (.baload, 1) := by decide +kernel
theorem dJ2_getChar_3b067_49 : decode cJ2_getChar_3b067 49 = .ok (.sipush 255, 3) := by decide +kernel
theorem dJ2_getChar_3b067_52 : decode cJ2_getChar_3b067 52 = .ok (.iand, 1) := by decide +kernel
theorem dJ2_getChar_3b067_53 : decode cJ2_getChar_3b067 53 = .ok (.getstatic 63, 3) := by decide +kernel
theorem dJ2_getChar_3b067_56 : decode cJ2_getChar_3b067 56 = .ok (.ishl, 1) := by decide +kernel
theorem dJ2_getChar_3b067_57 : decode cJ2_getChar_3b067 57 = .ok (.ior, 1) := by decide +kernel
theorem dJ2_getChar_3b067_58 : decode cJ2_getChar_3b067 58 = .ok (.i2c, 1) := by decide +kernel
theorem dJ2_getChar_3b067_59 : decode cJ2_getChar_3b067 59 = .ok (.ireturn, 1) := by decide +kernel
theorem dJ2_length_9d52b_0 : decode cJ2_length_9d52b 0 = .ok (.aload_n 0, 1) := by decide +kernel
theorem dJ2_length_9d52b_1 : decode cJ2_length_9d52b 1 = .ok (.arraylength, 1) := by decide +kernel
theorem dJ2_length_9d52b_2 : decode cJ2_length_9d52b 2 = .ok (.iconst 1, 1) := by decide +kernel
theorem dJ2_length_9d52b_3 : decode cJ2_length_9d52b 3 = .ok (.ishr, 1) := by decide +kernel
theorem dJ2_length_9d52b_4 : decode cJ2_length_9d52b 4 = .ok (.ireturn, 1) := by decide +kernel
theorem dJ2_charAt_3b067_0 : decode cJ2_charAt_3b067 0 = .ok (.iload_n 1, 1) := by decide +kernel
theorem dJ2_charAt_3b067_1 : decode cJ2_charAt_3b067 1 = .ok (.aload_n 0, 1) := by decide +kernel
theorem dJ2_charAt_3b067_2 : decode cJ2_charAt_3b067 2 = .ok (.invokestatic 67, 3) := by decide +kernel
theorem dJ2_charAt_3b067_5 : decode cJ2_charAt_3b067 5 = .ok (.aload_n 0, 1) := by decide +kernel
theorem dJ2_charAt_3b067_6 : decode cJ2_charAt_3b067 6 = .ok (.iload_n 1, 1) := by decide +kernel
theorem dJ2_charAt_3b067_7 : decode cJ2_charAt_3b067 7 = .ok (.invokestatic 71, 3) := by decide +kernel
theorem dJ2_charAt_3b067_10 : decode cJ2_charAt_3b067 10 = .ok (.ireturn, 1) := by decide +kernel
theorem dJ2_checkIndex_2214a_0 : decode cJ2_checkIndex_2214a 0 = .ok (.iload_n 0, 1) := by decide +kernel
theorem dJ2_checkIndex_2214a_1 : decode cJ2_checkIndex_2214a 1 = .ok (.aload_n 1, 1) := by decide +kernel
theorem dJ2_checkIndex_2214a_2 : decode cJ2_checkIndex_2214a 2 = .ok (.invokestatic 48, 3) := by decide +kernel
theorem dJ2_checkIndex_2214a_5 : decode cJ2_checkIndex_2214a 5 = .ok (.invokestatic 414, 3) := by decide +kernel
theorem dJ2_checkIndex_2214a_8 : decode cJ2_checkIndex_2214a 8 = .ok (.return_, 1) := by decide +kernel
theorem dJ7_fill_d0a16_0 : decode cJ7_fill_d0a16 0 = .ok (.iconst 0, 1) := by decide +kernel
theorem dJ7_fill_d0a16_1 : decode cJ7_fill_d0a16 1 = .ok (.istore_n 3, 1) := by decide +kernel
theorem dJ7_fill_d0a16_2 : decode cJ7_fill_d0a16 2 = .ok (.aload_n 0, 1) := by decide +kernel
theorem dJ7_fill_d0a16_3 : decode cJ7_fill_d0a16 3 = .ok (.arraylength, 1) := by decide +kernel
theorem dJ7_fill_d0a16_4 : decode cJ7_fill_d0a16 4 = .ok (.istore 4, 2) := by decide +kernel
theorem dJ7_fill_d0a16_6 : decode cJ7_fill_d0a16 6 = .ok (.iload_n 3, 1) := by decide +kernel
theorem dJ7_fill_d0a16_7 : decode cJ7_fill_d0a16 7 = .ok (.iload 4, 2) := by decide +kernel
theorem dJ7_fill_d0a16_9 : decode cJ7_fill_d0a16 9 = .ok (.if_icmp .ge 13, 3) := by decide +kernel
theorem dJ7_fill_d0a16_12 : decode cJ7_fill_d0a16 12 = .ok (.aload_n 0, 1) := by decide +kernel
theorem dJ7_fill_d0a16_13 : decode cJ7_fill_d0a16 13 = .ok (.iload_n 3, 1) := by decide +kernel
theorem dJ7_fill_d0a16_14 : decode cJ7_fill_d0a16 14 = .ok (.lload_n 1, 1) := by decide +kernel
theorem dJ7_fill_d0a16_15 : decode cJ7_fill_d0a16 15 = .ok (.lastore, 1) := by decide +kernel
theorem dJ7_fill_d0a16_16 : decode cJ7_fill_d0a16 16 = .ok (.iinc 3 1, 3) := by decide +kernel
theorem dJ7_fill_d0a16_19 : decode cJ7_fill_d0a16 19 = .ok (.goto (-13), 3) := by decide +kernel
theorem dJ7_fill_d0a16_22 : decode cJ7_fill_d0a16 22 = .ok (.return_, 1) := by decide +kernel
theorem dJ7_fill_53178_0 : decode cJ7_fill_53178 0 = .ok (.iconst 0, 1) := by decide +kernel
theorem dJ7_fill_53178_1 : decode cJ7_fill_53178 1 = .ok (.istore_n 2, 1) := by decide +kernel
theorem dJ7_fill_53178_2 : decode cJ7_fill_53178 2 = .ok (.aload_n 0, 1) := by decide +kernel
theorem dJ7_fill_53178_3 : decode cJ7_fill_53178 3 = .ok (.arraylength, 1) := by decide +kernel
theorem dJ7_fill_53178_4 : decode cJ7_fill_53178 4 = .ok (.istore_n 3, 1) := by decide +kernel
theorem dJ7_fill_53178_5 : decode cJ7_fill_53178 5 = .ok (.iload_n 2, 1) := by decide +kernel
theorem dJ7_fill_53178_6 : decode cJ7_fill_53178 6 = .ok (.iload_n 3, 1) := by decide +kernel
theorem dJ7_fill_53178_7 : decode cJ7_fill_53178 7 = .ok (.if_icmp .ge 13, 3) := by decide +kernel
theorem dJ7_fill_53178_10 : decode cJ7_fill_53178 10 = .ok (.aload_n 0, 1) := by decide +kernel
theorem dJ7_fill_53178_11 : decode cJ7_fill_53178 11 = .ok (.iload_n 2, 1) := by decide +kernel
theorem dJ7_fill_53178_12 : decode cJ7_fill_53178 12 = .ok (.iload_n 1, 1) := by decide +kernel
theorem dJ7_fill_53178_13 : decode cJ7_fill_53178 13 = .ok (.iastore, 1) := by decide +kernel
theorem dJ7_fill_53178_14 : decode cJ7_fill_53178 14 = .ok (.iinc 2 1, 3) := by decide +kernel
theorem dJ7_fill_53178_17 : decode cJ7_fill_53178 17 = .ok (.goto (-12), 3) := by decide +kernel
theorem dJ7_fill_53178_20 : decode cJ7_fill_53178 20 = .ok (.return_, 1) := by decide +kernel
theorem dJ3_checkIndex_8e157_0 : decode cJ3_checkIndex_8e157 0 = .ok (.iload_n 0, 1) := by decide +kernel
theorem dJ3_checkIndex_8e157_1 : decode cJ3_checkIndex_8e157 1 = .ok (.ifCond .lt 8, 3) := by decide +kernel
theorem dJ3_checkIndex_8e157_4 : decode cJ3_checkIndex_8e157 4 = .ok (.iload_n 0, 1) := by decide +kernel
theorem dJ3_checkIndex_8e157_5 : decode cJ3_checkIndex_8e157 5 = .ok (.iload_n 1, 1) := by decide +kernel
theorem dJ3_checkIndex_8e157_6 : decode cJ3_checkIndex_8e157 6 = .ok (.if_icmp .lt 10, 3) := by decide +kernel
theorem dJ3_checkIndex_8e157_9 : decode cJ3_checkIndex_8e157 9 = .ok (.aload_n 2, 1) := by decide +kernel
theorem dJ3_checkIndex_8e157_10 : decode cJ3_checkIndex_8e157 10 = .ok (.iload_n 0, 1) := by decide +kernel
theorem dJ3_checkIndex_8e157_11 : decode cJ3_checkIndex_8e157 11 = .ok (.iload_n 1, 1) := by decide +kernel
theorem dJ3_checkIndex_8e157_12 : decode cJ3_checkIndex_8e157 12 = .ok (.invokestatic 95, 3) := by decide +kernel
theorem dJ3_checkIndex_8e157_15 : decode cJ3_checkIndex_8e157 15 = .ok (.athrow, 1) := by decide +kernel
theorem dJ3_checkIndex_8e157_16 : decode cJ3_checkIndex_8e157 16 = .ok (.iload_n 0, 1) := by decide +kernel
theorem dJ3_checkIndex_8e157_17 : decode cJ3_checkIndex_8e157 17 = .ok (.ireturn, 1) := by decide +kernel
theorem dX0_init_0 : decode cX0_init 0 = .ok (.aload_n 0, 1) := by decide +kernel
theorem dX0_init_1 : decode cX0_init 1 = .ok (.invokespecial 3, 3) := by decide +kernel
theorem dX0_init_4 : decode cX0_init 4 = .ok (.aload_n 0, 1) := by decide +kernel
theorem dX0_init_5 : decode cX0_init 5 = .ok (.bipush 25, 2) := by decide +kernel
theorem dX0_init_7 : decode cX0_init 7 = .ok (.newarray .int, 2) := by decide +kernel
theorem dX0_init_9 : decode cX0_init 9 = .ok (.putfield 9, 3) := by decide +kernel
theorem dX0_init_12 : decode cX0_init 12 = .ok (.return_, 1) := by decide +kernel
theorem dX0_clear_0 : decode cX0_clear 0 = .ok (.aload_n 0, 1) := by decide +kernel
theorem dX0_clear_1 : decode cX0_clear 1 = .ok (.iconst 0, 1) := by decide +kernel
theorem dX0_clear_2 : decode cX0_clear 2 = .ok (.putfield 15, 3) := by decide +kernel
theorem dX0_clear_5 : decode cX0_clear 5 = .ok (.aload_n 0, 1) := by decide +kernel
theorem dX0_clear_6 : decode cX0_clear 6 = .ok (.iconst 0, 1) := by decide +kernel
theorem dX0_clear_7 : decode cX0_clear 7 = .ok (.putfield 19, 3) := by decide +kernel
theorem dX0_clear_10 : decode cX0_clear 10 = .ok (.aload_n 0, 1) := by decide +kernel
theorem dX0_clear_11 : decode cX0_clear 11 = .ok (.iconst 0, 1) := by decide +kernel
theorem dX0_clear_12 : decode cX0_clear 12 = .ok (.putfield 22, 3) := by decide +kernel
theorem dX0_clear_15 : decode cX0_clear 15 = .ok (.aload_n 0, 1) := by decide +kernel
theorem dX0_clear_16 : decode cX0_clear 16 = .ok (.iconst 0, 1) := by decide +kernel
theorem dX0_clear_17 : decode cX0_clear 17 = .ok (.putfield 25, 3) := by decide +kernel
theorem dX0_clear_20 : decode cX0_clear 20 = .ok (.aload_n 0, 1) := by decide +kernel
theorem dX0_clear_21 : decode cX0_clear 21 = .ok (.iconst 0, 1) := by decide +kernel
theorem dX0_clear_22 : decode cX0_clear 22 = .ok (.putfield 28, 3) := by decide +kernel
theorem dX0_clear_25 : decode cX0_clear 25 = .ok (.return_, 1) := by decide +kernel
theorem dX0_add_0 : decode cX0_add 0 = .ok (.aload_n 0, 1) := by decide +kernel
theorem dX0_add_1 : decode cX0_add 1 = .ok (.getfield 15, 3) := by decide +kernel
theorem dX0_add_4 : decode cX0_add 4 = .ok (.aload_n 0, 1) := by decide +kernel
theorem dX0_add_5 : decode cX0_add 5 = .ok (.getfield 9, 3) := by decide +kernel
theorem dX0_add_8 : decode cX0_add 8 = .ok (.arraylength, 1) := by decide +kernel
theorem dX0_add_9 : decode cX0_add 9 = .ok (.if_icmp .ge 23, 3) := by decide +kernel
theorem dX0_add_12 : decode cX0_add 12 = .ok (.aload_n 0, 1) := by decide +kernel
theorem dX0_add_13 : decode cX0_add 13 = .ok (.getfield 9, 3) := by decide +kernel
theorem dX0_add_16 : decode cX0_add 16 = .ok (.aload_n 0, 1) := by decide +kernel
theorem dX0_add_17 : decode cX0_add 17 = .ok (.getfield 15, 3) := by decide +kernel
theorem dX0_add_20 : decode cX0_add 20 = .ok (.iload_n 1, 1) := by decide +kernel
theorem dX0_add_21 : decode cX0_add 21 = .ok (.iastore, 1) := by decide +kernel
theorem dX0_add_22 : decode cX0_add 22 = .ok (.aload_n 0, 1) := by decide +kernel
theorem dX0_add_23 : decode cX0_add 23 = .ok (.dup, 1) := by decide +kernel
theorem dX0_add_24 : decode cX0_add 24 = .ok (.getfield 15, 3) := by decide +kernel
theorem dX0_add_27 : decode cX0_add 27 = .ok (.iconst 1, 1) := by decide +kernel
theorem dX0_add_28 : decode cX0_add 28 = .ok (.iadd, 1) := by decide +kernel
theorem dX0_add_29 : decode cX0_add 29 = .ok (.putfield 15, 3) := by decide +kernel
theorem dX0_add_32 : decode cX0_add 32 = .ok (.return_, 1) := by decide +kernel
theorem dX0_value_0 : decode cX0_value 0 = .ok (.iload_n 1, 1) := by decide +kernel
theorem dX0_value_1 : decode cX0_value 1 = .ok (.ifCond .lt 20, 3) := by decide +kernel
theorem dX0_value_4 : decode cX0_value 4 = .ok (.iload_n 1, 1) := by decide +kernel
theorem dX0_value_5 : decode cX0_value 5 = .ok (.aload_n 0, 1) := by decide +kernel
theorem dX0_value_6 : decode cX0_value 6 = .ok (.getfield 15, 3) := by decide +kernel
theorem dX0_value_9 : decode cX0_value 9 = .ok (.if_icmp .ge 12, 3) := by decide +kernel
theorem dX0_value_12 : decode cX0_value 12 = .ok (.aload_n 0, 1) := by decide +kernel
theorem dX0_value_13 : decode cX0_value 13 = .ok (.getfield 9, 3) := by decide +kernel
theorem dX0_value_16 : decode cX0_value 16 = .ok (.iload_n 1, 1) := by decide +kernel
theorem dX0_value_17 : decode cX0_value 17 = .ok (.iaload, 1) := by decide +kernel
theorem dX0_value_18 : decode cX0_value 18 = .ok (.goto 4, 3) := by decide +kernel
theorem dX0_value_21 : decode cX0_value 21 = .ok (.iconst (-1), 1) := by decide +kernel
theorem dX0_value_22 : decode cX0_value 22 = .ok (.ireturn, 1) := by decide +kernel
theorem dX0_gather_0 : decode cX0_gather 0 = .ok (.aload_n 0, 1) := by decide +kernel
theorem dX0_gather_1 : decode cX0_gather 1 = .ok (.invokevirtual 31, 3) := by decide +kernel
theorem dX0_gather_4 : decode cX0_gather 4 = .ok (.iconst 0, 1) := by decide +kernel
theorem dX0_gather_5 : decode cX0_gather 5 = .ok (.istore 5, 2) := by decide +kernel
theorem dX0_gather_7 : decode cX0_gather 7 = .ok (.iconst 0, 1) := by decide +kernel
theorem dX0_gather_8 : decode cX0_gather 8 = .ok (.istore 6, 2) := by decide +kernel
theorem dX0_gather_10 : decode cX0_gather 10 = .ok (.iload 6, 2) := by decide +kernel
theorem dX0_gather_12 : decode cX0_gather 12 = .ok (.aload_n 1, 1) := by decide +kernel
theorem dX0_gather_13 : decode cX0_gather 13 = .ok (.getfield 34, 3) := by decide +kernel
theorem dX0_gather_16 : decode cX0_gather 16 = .ok (.if_icmp .ge 117, 3) := by decide +kernel
theorem dX0_gather_19 : decode cX0_gather 19 = .ok (.aload_n 1, 1) := by decide +kernel
theorem dX0_gather_20 : decode cX0_gather 20 = .ok (.iload 4, 2) := by decide +kernel
theorem dX0_gather_22 : decode cX0_gather 22 = .ok (.iload 6, 2) := by decide +kernel
theorem dX0_gather_24 : decode cX0_gather 24 = .ok (.invokevirtual 37, 3) := by decide +kernel
theorem dX0_gather_27 : decode cX0_gather 27 = .ok (.ifCond .eq 24, 3) := by decide +kernel
theorem dX0_gather_30 : decode cX0_gather 30 = .ok (.aload_n 0, 1) := by decide +kernel
theorem dX0_gather_31 : decode cX0_gather 31 = .ok (.dup, 1) := by decide +kernel
theorem dX0_gather_32 : decode cX0_gather 32 = .ok (.getfield 25, 3) := by decide +kernel
theorem dX0_gather_35 : decode cX0_gather 35 = .ok (.aload_n 0, 1) := by decide +kernel
theorem dX0_gather_36 : decode cX0_gather 36 = .ok (.getfield 28, 3) := by decide +kernel
theorem dX0_gather_39 : decode cX0_gather 39 = .ok (.iadd, 1) := by decide +kernel
theorem dX0_gather_40 : decode cX0_gather 40 = .ok (.putfield 25, 3) := by decide +kernel
theorem dX0_gather_43 : decode cX0_gather 43 = .ok (.aload_n 0, 1) := by decide +kernel
theorem dX0_gather_44 : decode cX0_gather 44 = .ok (.iconst 0, 1) := by decide +kernel
theorem dX0_gather_45 : decode cX0_gather 45 = .ok (.putfield 28, 3) := by decide +kernel
theorem dX0_gather_48 : decode cX0_gather 48 = .ok (.goto 49, 3) := by decide +kernel
theorem dX0_gather_51 : decode cX0_gather 51 = .ok (.aload_n 1, 1) := by decide +kernel
theorem dX0_gather_52 : decode cX0_gather 52 = .ok (.iload_n 2, 1) := by decide +kernel
theorem dX0_gather_53 : decode cX0_gather 53 = .ok (.iload 6, 2) := by decide +kernel
theorem dX0_gather_55 : decode cX0_gather 55 = .ok (.invokevirtual 41, 3) := by decide +kernel
theorem dX0_gather_58 : decode cX0_gather 58 = .ok (.ifCond .eq 39, 3) := by decide +kernel
theorem dX0_gather_61 : decode cX0_gather 61 = .ok (.iload 5, 2) := by decide +kernel
theorem dX0_gather_63 : decode cX0_gather 63 = .ok (.iconst 1, 1) := by decide +kernel
theorem dX0_gather_64 : decode cX0_gather 64 = .ok (.ishl, 1) := by decide +kernel
theorem dX0_gather_65 : decode cX0_gather 65 = .ok (.sipush 255, 3) := by decide +kernel
theorem dX0_gather_68 : decode cX0_gather 68 = .ok (.iand, 1) := by decide +kernel
theorem dX0_gather_69 : decode cX0_gather 69 = .ok (.aload_n 1, 1) := by decide +kernel
theorem dX0_gather_70 : decode cX0_gather 70 = .ok (.iload_n 3, 1) := by decide +kernel
theorem dX0_gather_71 : decode cX0_gather 71 = .ok (.iload 6, 2) := by decide +kernel
theorem dX0_gather_73 : decode cX0_gather 73 = .ok (.invokevirtual 37, 3) := by decide +kernel
theorem dX0_gather_76 : decode cX0_gather 76 = .ok (.ifCond .eq 7, 3) := by decide +kernel
theorem dX0_gather_79 : decode cX0_gather 79 = .ok (.iconst 1, 1) := by decide +kernel
theorem dX0_gather_80 : decode cX0_gather 80 = .ok (.goto 4, 3) := by decide +kernel
theorem dX0_gather_83 : decode cX0_gather 83 = .ok (.iconst 0, 1) := by decide +kernel
theorem dX0_gather_84 : decode cX0_gather 84 = .ok (.ior, 1) := by decide +kernel
theorem dX0_gather_85 : decode cX0_gather 85 = .ok (.istore 5, 2) := by decide +kernel
theorem dX0_gather_87 : decode cX0_gather 87 = .ok (.aload_n 0, 1) := by decide +kernel
theorem dX0_gather_88 : decode cX0_gather 88 = .ok (.dup, 1) := by decide +kernel
theorem dX0_gather_89 : decode cX0_gather 89 = .ok (.getfield 28, 3) := by decide +kernel
theorem dX0_gather_92 : decode cX0_gather 92 = .ok (.iconst 1, 1) := by decide +kernel
theorem dX0_gather_93 : decode cX0_gather 93 = .ok (.iadd, 1) := by decide +kernel
theorem dX0_gather_94 : decode cX0_gather 94 = .ok (.putfield 28, 3) := by decide +kernel
theorem dX0_gather_97 : decode cX0_gather 97 = .ok (.aload_n 0, 1) := by decide +kernel
theorem dX0_gather_98 : decode cX0_gather 98 = .ok (.getfield 28, 3) := by decide +kernel
theorem dX0_gather_101 : decode cX0_gather 101 = .ok (.bipush 8, 2) := by decide +kernel
theorem dX0_gather_103 : decode cX0_gather 103 = .ok (.if_icmp .ne 24, 3) := by decide +kernel
theorem dX0_gather_106 : decode cX0_gather 106 = .ok (.aload_n 0, 1) := by decide +kernel
theorem dX0_gather_107 : decode cX0_gather 107 = .ok (.iload 5, 2) := by decide +kernel
theorem dX0_gather_109 : decode cX0_gather 109 = .ok (.invokevirtual 44, 3) := by decide +kernel
theorem dX0_gather_112 : decode cX0_gather 112 = .ok (.aload_n 0, 1) := by decide +kernel
theorem dX0_gather_113 : decode cX0_gather 113 = .ok (.dup, 1) := by decide +kernel
theorem dX0_gather_114 : decode cX0_gather 114 = .ok (.getfield 19, 3) := by decide +kernel
theorem dX0_gather_117 : decode cX0_gather 117 = .ok (.iconst 1, 1) := by decide +kernel
theorem dX0_gather_118 : decode cX0_gather 118 = .ok (.iadd, 1) := by decide +kernel
theorem dX0_gather_119 : decode cX0_gather 119 = .ok (.putfield 19, 3) := by decide +kernel
theorem dX0_gather_122 : decode cX0_gather 122 = .ok (.aload_n 0, 1) := by decide +kernel
theorem dX0_gather_123 : decode cX0_gather 123 = .ok (.iconst 0, 1) := by decide +kernel
theorem dX0_gather_124 : decode cX0_gather 124 = .ok (.putfield 28, 3) := by decide +kernel
theorem dX0_gather_127 : decode cX0_gather 127 = .ok (.iinc 6 1, 3) := by decide +kernel
theorem dX0_gather_130 : decode cX0_gather 130 = .ok (.goto (-120), 3) := by decide +kernel
theorem dX0_gather_133 : decode cX0_gather 133 = .ok (.return_, 1) := by decide +kernel
theorem dX0_listen_0 : decode cX0_listen 0 = .ok (.aload_n 0, 1) := by decide +kernel
theorem dX0_listen_1 : decode cX0_listen 1 = .ok (.invokevirtual 31, 3) := by decide +kernel
theorem dX0_listen_4 : decode cX0_listen 4 = .ok (.bipush 9, 2) := by decide +kernel
theorem dX0_listen_6 : decode cX0_listen 6 = .ok (.iload_n 3, 1) := by decide +kernel
theorem dX0_listen_7 : decode cX0_listen 7 = .ok (.imul, 1) := by decide +kernel
theorem dX0_listen_8 : decode cX0_listen 8 = .ok (.iload_n 3, 1) := by decide +kernel
theorem dX0_listen_9 : decode cX0_listen 9 = .ok (.iconst 2, 1) := by decide +kernel
theorem dX0_listen_10 : decode cX0_listen 10 = .ok (.idiv, 1) := by decide +kernel
theorem dX0_listen_11 : decode cX0_listen 11 = .ok (.iadd, 1) := by decide +kernel
theorem dX0_listen_12 : decode cX0_listen 12 = .ok (.istore 4, 2) := by decide +kernel
theorem dX0_listen_14 : decode cX0_listen 14 = .ok (.iconst 0, 1) := by decide +kernel
theorem dX0_listen_15 : decode cX0_listen 15 = .ok (.istore 5, 2) := by decide +kernel
theorem dX0_listen_17 : decode cX0_listen 17 = .ok (.iload 5, 2) := by decide +kernel
theorem dX0_listen_19 : decode cX0_listen 19 = .ok (.iload 4, 2) := by decide +kernel
theorem dX0_listen_21 : decode cX0_listen 21 = .ok (.iadd, 1) := by decide +kernel
theorem dX0_listen_22 : decode cX0_listen 22 = .ok (.aload_n 1, 1) := by decide +kernel
theorem dX0_listen_23 : decode cX0_listen 23 = .ok (.getfield 34, 3) := by decide +kernel
theorem dX0_listen_26 : decode cX0_listen 26 = .ok (.if_icmp .ge 55, 3) := by decide +kernel
theorem dX0_listen_29 : decode cX0_listen 29 = .ok (.iload 5, 2) := by decide +kernel
theorem dX0_listen_31 : decode cX0_listen 31 = .ok (.ifCond .ne 15, 3) := by decide +kernel
theorem dX0_listen_34 : decode cX0_listen 34 = .ok (.aload_n 1, 1) := by decide +kernel
theorem dX0_listen_35 : decode cX0_listen 35 = .ok (.iload_n 2, 1) := by decide +kernel
theorem dX0_listen_36 : decode cX0_listen 36 = .ok (.iconst 0, 1) := by decide +kernel
theorem dX0_listen_37 : decode cX0_listen 37 = .ok (.invokevirtual 37, 3) := by decide +kernel
theorem dX0_listen_40 : decode cX0_listen 40 = .ok (.ifCond .eq 19, 3) := by decide +kernel
theorem dX0_listen_43 : decode cX0_listen 43 = .ok (.goto 32, 3) := by decide +kernel
theorem dX0_listen_46 : decode cX0_listen 46 = .ok (.aload_n 1, 1) := by decide +kernel
theorem dX0_listen_47 : decode cX0_listen 47 = .ok (.iload_n 2, 1) := by decide +kernel
theorem dX0_listen_48 : decode cX0_listen 48 = .ok (.iload 5, 2) := by decide +kernel
theorem dX0_listen_50 : decode cX0_listen 50 = .ok (.invokevirtual 48, 3) := by decide +kernel
theorem dX0_listen_53 : decode cX0_listen 53 = .ok (.ifCond .ne 6, 3) := by decide +kernel
theorem dX0_listen_56 : decode cX0_listen 56 = .ok (.goto 19, 3) := by decide +kernel
theorem dX0_listen_59 : decode cX0_listen 59 = .ok (.aload_n 0, 1) := by decide +kernel
theorem dX0_listen_60 : decode cX0_listen 60 = .ok (.aload_n 1, 1) := by decide +kernel
theorem dX0_listen_61 : decode cX0_listen 61 = .ok (.iload_n 2, 1) := by decide +kernel
theorem dX0_listen_62 : decode cX0_listen 62 = .ok (.iload_n 3, 1) := by decide +kernel
theorem dX0_listen_63 : decode cX0_listen 63 = .ok (.iload 5, 2) := by decide +kernel
theorem dX0_listen_65 : decode cX0_listen 65 = .ok (.invokevirtual 51, 3) := by decide +kernel
theorem dX0_listen_68 : decode cX0_listen 68 = .ok (.iload 5, 2) := by decide +kernel
theorem dX0_listen_70 : decode cX0_listen 70 = .ok (.iload 4, 2) := by decide +kernel
theorem dX0_listen_72 : decode cX0_listen 72 = .ok (.iadd, 1) := by decide +kernel
theorem dX0_listen_73 : decode cX0_listen 73 = .ok (.istore 5, 2) := by decide +kernel
theorem dX0_listen_75 : decode cX0_listen 75 = .ok (.iinc 5 1, 3) := by decide +kernel
theorem dX0_listen_78 : decode cX0_listen 78 = .ok (.goto (-61), 3) := by decide +kernel
theorem dX0_listen_81 : decode cX0_listen 81 = .ok (.return_, 1) := by decide +kernel
theorem dX0_takeFrame_0 : decode cX0_takeFrame 0 = .ok (.iload_n 3, 1) := by decide +kernel
theorem dX0_takeFrame_1 : decode cX0_takeFrame 1 = .ok (.iconst 2, 1) := by decide +kernel
theorem dX0_takeFrame_2 : decode cX0_takeFrame 2 = .ok (.idiv, 1) := by decide +kernel
theorem dX0_takeFrame_3 : decode cX0_takeFrame 3 = .ok (.istore 5, 2) := by decide +kernel
theorem dX0_takeFrame_5 : decode cX0_takeFrame 5 = .ok (.aload_n 1, 1) := by decide +kernel
theorem dX0_takeFrame_6 : decode cX0_takeFrame 6 = .ok (.iload_n 2, 1) := by decide +kernel
theorem dX0_takeFrame_7 : decode cX0_takeFrame 7 = .ok (.iload 4, 2) := by decide +kernel
theorem dX0_takeFrame_9 : decode cX0_takeFrame 9 = .ok (.bipush 9, 2) := by decide +kernel
theorem dX0_takeFrame_11 : decode cX0_takeFrame 11 = .ok (.iload_n 3, 1) := by decide +kernel
theorem dX0_takeFrame_12 : decode cX0_takeFrame 12 = .ok (.imul, 1) := by decide +kernel
theorem dX0_takeFrame_13 : decode cX0_takeFrame 13 = .ok (.iadd, 1) := by decide +kernel
theorem dX0_takeFrame_14 : decode cX0_takeFrame 14 = .ok (.iload 5, 2) := by decide +kernel
theorem dX0_takeFrame_16 : decode cX0_takeFrame 16 = .ok (.iadd, 1) := by decide +kernel
theorem dX0_takeFrame_17 : decode cX0_takeFrame 17 = .ok (.invokevirtual 37, 3) := by decide +kernel
theorem dX0_takeFrame_20 : decode cX0_takeFrame 20 = .ok (.ifCond .ne 20, 3) := by decide +kernel
theorem dX0_takeFrame_23 : decode cX0_takeFrame 23 = .ok (.aload_n 0, 1) := by decide +kernel
theorem dX0_takeFrame_24 : decode cX0_takeFrame 24 = .ok (.dup, 1) := by decide +kernel
theorem dX0_takeFrame_25 : decode cX0_takeFrame 25 = .ok (.getfield 22, 3) := by decide +kernel
theorem dX0_takeFrame_28 : decode cX0_takeFrame 28 = .ok (.iconst 1, 1) := by decide +kernel
theorem dX0_takeFrame_29 : decode cX0_takeFrame 29 = .ok (.iadd, 1) := by decide +kernel
theorem dX0_takeFrame_30 : decode cX0_takeFrame 30 = .ok (.putfield 22, 3) := by decide +kernel
theorem dX0_takeFrame_33 : decode cX0_takeFrame 33 = .ok (.aload_n 0, 1) := by decide +kernel
theorem dX0_takeFrame_34 : decode cX0_takeFrame 34 = .ok (.bipush (-5), 2) := by decide +kernel
theorem dX0_takeFrame_36 : decode cX0_takeFrame 36 = .ok (.invokevirtual 44, 3) := by decide +kernel
theorem dX0_takeFrame_39 : decode cX0_takeFrame 39 = .ok (.return_, 1) := by decide +kernel
theorem dX0_takeFrame_40 : decode cX0_takeFrame 40 = .ok (.iconst 0, 1) := by decide +kernel
theorem dX0_takeFrame_41 : decode cX0_takeFrame 41 = .ok (.istore 6, 2) := by decide +kernel
theorem dX0_takeFrame_43 : decode cX0_takeFrame 43 = .ok (.iconst 0, 1) := by decide +kernel
theorem dX0_takeFrame_44 : decode cX0_takeFrame 44 = .ok (.istore 7, 2) := by decide +kernel
theorem dX0_takeFrame_46 : decode cX0_takeFrame 46 = .ok (.iload 7, 2) := by decide +kernel
theorem dX0_takeFrame_48 : decode cX0_takeFrame 48 = .ok (.bipush 8, 2) := by decide +kernel
theorem dX0_takeFrame_50 : decode cX0_takeFrame 50 = .ok (.if_icmp .ge 42, 3) := by decide +kernel
theorem dX0_takeFrame_53 : decode cX0_takeFrame 53 = .ok (.iload 6, 2) := by decide +kernel
theorem dX0_takeFrame_55 : decode cX0_takeFrame 55 = .ok (.aload_n 1, 1) := by decide +kernel
theorem dX0_takeFrame_56 : decode cX0_takeFrame 56 = .ok (.iload_n 2, 1) := by decide +kernel
theorem dX0_takeFrame_57 : decode cX0_takeFrame 57 = .ok (.iload 4, 2) := by decide +kernel
theorem dX0_takeFrame_59 : decode cX0_takeFrame 59 = .ok (.iload 7, 2) := by decide +kernel
theorem dX0_takeFrame_61 : decode cX0_takeFrame 61 = .ok (.iconst 1, 1) := by decide +kernel
theorem dX0_takeFrame_62 : decode cX0_takeFrame 62 = .ok (.iadd, 1) := by decide +kernel
theorem dX0_takeFrame_63 : decode cX0_takeFrame 63 = .ok (.iload_n 3, 1) := by decide +kernel
theorem dX0_takeFrame_64 : decode cX0_takeFrame 64 = .ok (.imul, 1) := by decide +kernel
theorem dX0_takeFrame_65 : decode cX0_takeFrame 65 = .ok (.iadd, 1) := by decide +kernel
theorem dX0_takeFrame_66 : decode cX0_takeFrame 66 = .ok (.iload 5, 2) := by decide +kernel
theorem dX0_takeFrame_68 : decode cX0_takeFrame 68 = .ok (.iadd, 1) := by decide +kernel
theorem dX0_takeFrame_69 : decode cX0_takeFrame 69 = .ok (.invokevirtual 37, 3) := by decide +kernel
theorem dX0_takeFrame_72 : decode cX0_takeFrame 72 = .ok (.ifCond .eq 10, 3) := by decide +kernel
theorem dX0_takeFrame_75 : decode cX0_takeFrame 75 = .ok (.iconst 1, 1) := by decide +kernel
theorem dX0_takeFrame_76 : decode cX0_takeFrame 76 = .ok (.iload 7, 2) := by decide +kernel
theorem dX0_takeFrame_78 : decode cX0_takeFrame 78 = .ok (.ishl, 1) := by decide +kernel
theorem dX0_takeFrame_79 : decode cX0_takeFrame 79 = .ok (.goto 4, 3) := by decide +kernel
theorem dX0_takeFrame_82 : decode cX0_takeFrame 82 = .ok (.iconst 0, 1) := by decide +kernel
theorem dX0_takeFrame_83 : decode cX0_takeFrame 83 = .ok (.ior, 1) := by decide +kernel
theorem dX0_takeFrame_84 : decode cX0_takeFrame 84 = .ok (.istore 6, 2) := by decide +kernel
theorem dX0_takeFrame_86 : decode cX0_takeFrame 86 = .ok (.iinc 7 1, 3) := by decide +kernel
theorem dX0_takeFrame_89 : decode cX0_takeFrame 89 = .ok (.goto (-43), 3) := by decide +kernel
theorem dX0_takeFrame_92 : decode cX0_takeFrame 92 = .ok (.aload_n 0, 1) := by decide +kernel
theorem dX0_takeFrame_93 : decode cX0_takeFrame 93 = .ok (.dup, 1) := by decide +kernel
theorem dX0_takeFrame_94 : decode cX0_takeFrame 94 = .ok (.getfield 19, 3) := by decide +kernel
theorem dX0_takeFrame_97 : decode cX0_takeFrame 97 = .ok (.iconst 1, 1) := by decide +kernel
theorem dX0_takeFrame_98 : decode cX0_takeFrame 98 = .ok (.iadd, 1) := by decide +kernel
theorem dX0_takeFrame_99 : decode cX0_takeFrame 99 = .ok (.putfield 19, 3) := by decide +kernel
theorem dX0_takeFrame_102 : decode cX0_takeFrame 102 = .ok (.aload_n 0, 1) := by decide +kernel
theorem dX0_takeFrame_103 : decode cX0_takeFrame 103 = .ok (.iload 6, 2) := by decide +kernel
theorem dX0_takeFrame_105 : decode cX0_takeFrame 105 = .ok (.invokevirtual 44, 3) := by decide +kernel
theorem dX0_takeFrame_108 : decode cX0_takeFrame 108 = .ok (.return_, 1) := by decide +kernel
theorem dX1_init_0 : decode cX1_init 0 = .ok (.aload_n 0, 1) := by decide +kernel
theorem dX1_init_1 : decode cX1_init 1 = .ok (.invokespecial 3, 3) := by decide +kernel
theorem dX1_init_4 : decode cX1_init 4 = .ok (.aload_n 0, 1) := by decide +kernel
theorem dX1_init_5 : decode cX1_init 5 = .ok (.sipush 256, 3) := by decide +kernel
theorem dX1_init_8 : decode cX1_init 8 = .ok (.newarray .int, 2) := by decide +kernel
theorem dX1_init_10 : decode cX1_init 10 = .ok (.putfield 9, 3) := by decide +kernel
theorem dX1_init_13 : decode cX1_init 13 = .ok (.aload_n 0, 1) := by decide +kernel
theorem dX1_init_14 : decode cX1_init 14 = .ok (.sipush 1024, 3) := by decide +kernel
theorem dX1_init_17 : decode cX1_init 17 = .ok (.newarray .long, 2) := by decide +kernel
theorem dX1_init_19 : decode cX1_init 19 = .ok (.putfield 15, 3) := by decide +kernel
theorem dX1_init_22 : decode cX1_init 22 = .ok (.return_, 1) := by decide +kernel
theorem dX1_tally_0 : decode cX1_tally 0 = .ok (.aload_n 0, 1) := by decide +kernel
theorem dX1_tally_1 : decode cX1_tally 1 = .ok (.getfield 9, 3) := by decide +kernel
theorem dX1_tally_4 : decode cX1_tally 4 = .ok (.iconst 0, 1) := by decide +kernel
theorem dX1_tally_5 : decode cX1_tally 5 = .ok (.invokestatic 19, 3) := by decide +kernel
theorem dX1_tally_8 : decode cX1_tally 8 = .ok (.iconst 0, 1) := by decide +kernel
theorem dX1_tally_9 : decode cX1_tally 9 = .ok (.istore_n 2, 1) := by decide +kernel
theorem dX1_tally_10 : decode cX1_tally 10 = .ok (.iload_n 2, 1) := by decide +kernel
theorem dX1_tally_11 : decode cX1_tally 11 = .ok (.aload_n 1, 1) := by decide +kernel
theorem dX1_tally_12 : decode cX1_tally 12 = .ok (.getfield 25, 3) := by decide +kernel
theorem dX1_tally_15 : decode cX1_tally 15 = .ok (.if_icmp .ge 27, 3) := by decide +kernel
theorem dX1_tally_18 : decode cX1_tally 18 = .ok (.aload_n 0, 1) := by decide +kernel
theorem dX1_tally_19 : decode cX1_tally 19 = .ok (.getfield 9, 3) := by decide +kernel
theorem dX1_tally_22 : decode cX1_tally 22 = .ok (.aload_n 1, 1) := by decide +kernel
theorem dX1_tally_23 : decode cX1_tally 23 = .ok (.iload_n 2, 1) := by decide +kernel
theorem dX1_tally_24 : decode cX1_tally 24 = .ok (.invokevirtual 31, 3) := by decide +kernel
theorem dX1_tally_27 : decode cX1_tally 27 = .ok (.sipush 255, 3) := by decide +kernel
theorem dX1_tally_30 : decode cX1_tally 30 = .ok (.iand, 1) := by decide +kernel
theorem dX1_tally_31 : decode cX1_tally 31 = .ok (.dup2, 1) := by decide +kernel
theorem dX1_tally_32 : decode cX1_tally 32 = .ok (.iaload, 1) := by decide +kernel
theorem dX1_tally_33 : decode cX1_tally 33 = .ok (.iconst 1, 1) := by decide +kernel
theorem dX1_tally_34 : decode cX1_tally 34 = .ok (.iadd, 1) := by decide +kernel
theorem dX1_tally_35 : decode cX1_tally 35 = .ok (.iastore, 1) := by decide +kernel
theorem dX1_tally_36 : decode cX1_tally 36 = .ok (.iinc 2 1, 3) := by decide +kernel
theorem dX1_tally_39 : decode cX1_tally 39 = .ok (.goto (-29), 3) := by decide +kernel
theorem dX1_tally_42 : decode cX1_tally 42 = .ok (.aload_n 0, 1) := by decide +kernel
theorem dX1_tally_43 : decode cX1_tally 43 = .ok (.iconst 0, 1) := by decide +kernel
theorem dX1_tally_44 : decode cX1_tally 44 = .ok (.putfield 35, 3) := by decide +kernel
theorem dX1_tally_47 : decode cX1_tally 47 = .ok (.aload_n 0, 1) := by decide +kernel
theorem dX1_tally_48 : decode cX1_tally 48 = .ok (.bipush (-4), 2) := by decide +kernel
theorem dX1_tally_50 : decode cX1_tally 50 = .ok (.putfield 38, 3) := by decide +kernel
theorem dX1_tally_53 : decode cX1_tally 53 = .ok (.aload_n 0, 1) := by decide +kernel
theorem dX1_tally_54 : decode cX1_tally 54 = .ok (.iconst 0, 1) := by decide +kernel
theorem dX1_tally_55 : decode cX1_tally 55 = .ok (.putfield 41, 3) := by decide +kernel
theorem dX1_tally_58 : decode cX1_tally 58 = .ok (.iconst 0, 1) := by decide +kernel
theorem dX1_tally_59 : decode cX1_tally 59 = .ok (.istore_n 2, 1) := by decide +kernel
theorem dX1_tally_60 : decode cX1_tally 60 = .ok (.iload_n 2, 1) := by decide +kernel
theorem dX1_tally_61 : decode cX1_tally 61 = .ok (.aload_n 0, 1) := by decide +kernel
theorem dX1_tally_62 : decode cX1_tally 62 = .ok (.getfield 9, 3) := by decide +kernel
theorem dX1_tally_65 : decode cX1_tally 65 = .ok (.arraylength, 1) := by decide +kernel
theorem dX1_tally_66 : decode cX1_tally 66 = .ok (.if_icmp .ge 60, 3) := by decide +kernel
theorem dX1_tally_69 : decode cX1_tally 69 = .ok (.aload_n 0, 1) := by decide +kernel
theorem dX1_tally_70 : decode cX1_tally 70 = .ok (.dup, 1) := by decide +kernel
theorem dX1_tally_71 : decode cX1_tally 71 = .ok (.getfield 35, 3) := by decide +kernel
theorem dX1_tally_74 : decode cX1_tally 74 = .ok (.aload_n 0, 1) := by decide +kernel
theorem dX1_tally_75 : decode cX1_tally 75 = .ok (.getfield 9, 3) := by decide +kernel
theorem dX1_tally_78 : decode cX1_tally 78 = .ok (.iload_n 2, 1) := by decide +kernel
theorem dX1_tally_79 : decode cX1_tally 79 = .ok (.iaload, 1) := by decide +kernel
theorem dX1_tally_80 : decode cX1_tally 80 = .ok (.ifCond .le 7, 3) := by decide +kernel
theorem dX1_tally_83 : decode cX1_tally 83 = .ok (.iconst 1, 1) := by decide +kernel
theorem dX1_tally_84 : decode cX1_tally 84 = .ok (.goto 4, 3) := by decide +kernel
theorem dX1_tally_87 : decode cX1_tally 87 = .ok (.iconst 0, 1) := by decide +kernel
theorem dX1_tally_88 : decode cX1_tally 88 = .ok (.iadd, 1) := by decide +kernel
theorem dX1_tally_89 : decode cX1_tally 89 = .ok (.putfield 35, 3) := by decide +kernel
theorem dX1_tally_92 : decode cX1_tally 92 = .ok (.aload_n 0, 1) := by decide +kernel
theorem dX1_tally_93 : decode cX1_tally 93 = .ok (.getfield 9, 3) := by decide +kernel
theorem dX1_tally_96 : decode cX1_tally 96 = .ok (.iload_n 2, 1) := by decide +kernel
theorem dX1_tally_97 : decode cX1_tally 97 = .ok (.iaload, 1) := by decide +kernel
theorem dX1_tally_98 : decode cX1_tally 98 = .ok (.aload_n 0, 1) := by decide +kernel
theorem dX1_tally_99 : decode cX1_tally 99 = .ok (.getfield 41, 3) := by decide +kernel
theorem dX1_tally_102 : decode cX1_tally 102 = .ok (.if_icmp .le 18, 3) := by decide +kernel
theorem dX1_tally_105 : decode cX1_tally 105 = .ok (.aload_n 0, 1) := by decide +kernel
theorem dX1_tally_106 : decode cX1_tally 106 = .ok (.aload_n 0, 1) := by decide +kernel
theorem dX1_tally_107 : decode cX1_tally 107 = .ok (.getfield 9, 3) := by decide +kernel
theorem dX1_tally_110 : decode cX1_tally 110 = .ok (.iload_n 2, 1) := by decide +kernel
theorem dX1_tally_111 : decode cX1_tally 111 = .ok (.iaload, 1) := by decide +kernel
theorem dX1_tally_112 : decode cX1_tally 112 = .ok (.putfield 41, 3) := by decide +kernel
theorem dX1_tally_115 : decode cX1_tally 115 = .ok (.aload_n 0, 1) := by decide +kernel
theorem dX1_tally_116 : decode cX1_tally 116 = .ok (.iload_n 2, 1) := by decide +kernel
theorem dX1_tally_117 : decode cX1_tally 117 = .ok (.putfield 38, 3) := by decide +kernel
theorem dX1_tally_120 : decode cX1_tally 120 = .ok (.iinc 2 1, 3) := by decide +kernel
theorem dX1_tally_123 : decode cX1_tally 123 = .ok (.goto (-63), 3) := by decide +kernel
theorem dX1_tally_126 : decode cX1_tally 126 = .ok (.return_, 1) := by decide +kernel
theorem dX1_unlikePairs_0 : decode cX1_unlikePairs 0 = .ok (.aload_n 0, 1) := by decide +kernel
theorem dX1_unlikePairs_1 : decode cX1_unlikePairs 1 = .ok (.getfield 15, 3) := by decide +kernel
theorem dX1_unlikePairs_4 : decode cX1_unlikePairs 4 = .ok (.lconst 0, 1) := by decide +kernel
theorem dX1_unlikePairs_5 : decode cX1_unlikePairs 5 = .ok (.invokestatic 44, 3) := by decide +kernel
theorem dX1_unlikePairs_8 : decode cX1_unlikePairs 8 = .ok (.iconst 0, 1) := by decide +kernel
theorem dX1_unlikePairs_9 : decode cX1_unlikePairs 9 = .ok (.istore_n 2, 1) := by decide +kernel
theorem dX1_unlikePairs_10 : decode cX1_unlikePairs 10 = .ok (.iconst 1, 1) := by decide +kernel
theorem dX1_unlikePairs_11 : decode cX1_unlikePairs 11 = .ok (.istore_n 3, 1) := by decide +kernel
theorem dX1_unlikePairs_12 : decode cX1_unlikePairs 12 = .ok (.iload_n 3, 1) := by decide +kernel
theorem dX1_unlikePairs_13 : decode cX1_unlikePairs 13 = .ok (.aload_n 1, 1) := by decide +kernel
theorem dX1_unlikePairs_14 : decode cX1_unlikePairs 14 = .ok (.getfield 25, 3) := by decide +kernel
theorem dX1_unlikePairs_17 : decode cX1_unlikePairs 17 = .ok (.if_icmp .ge 89, 3) := by decide +kernel
theorem dX1_unlikePairs_20 : decode cX1_unlikePairs 20 = .ok (.aload_n 1, 1) := by decide +kernel
theorem dX1_unlikePairs_21 : decode cX1_unlikePairs 21 = .ok (.iload_n 3, 1) := by decide +kernel
theorem dX1_unlikePairs_22 : decode cX1_unlikePairs 22 = .ok (.iconst 1, 1) := by decide +kernel
theorem dX1_unlikePairs_23 : decode cX1_unlikePairs 23 = .ok (.isub, 1) := by decide +kernel
theorem dX1_unlikePairs_24 : decode cX1_unlikePairs 24 = .ok (.invokevirtual 31, 3) := by decide +kernel
theorem dX1_unlikePairs_27 : decode cX1_unlikePairs 27 = .ok (.sipush 255, 3) := by decide +kernel
theorem dX1_unlikePairs_30 : decode cX1_unlikePairs 30 = .ok (.iand, 1) := by decide +kernel
theorem dX1_unlikePairs_31 : decode cX1_unlikePairs 31 = .ok (.bipush 8, 2) := by decide +kernel
theorem dX1_unlikePairs_33 : decode cX1_unlikePairs 33 = .ok (.ishl, 1) := by decide +kernel
theorem dX1_unlikePairs_34 : decode cX1_unlikePairs 34 = .ok (.aload_n 1, 1) := by decide +kernel
theorem dX1_unlikePairs_35 : decode cX1_unlikePairs 35 = .ok (.iload_n 3, 1) := by decide +kernel
theorem dX1_unlikePairs_36 : decode cX1_unlikePairs 36 = .ok (.invokevirtual 31, 3) := by decide +kernel
theorem dX1_unlikePairs_39 : decode cX1_unlikePairs 39 = .ok (.sipush 255, 3) := by decide +kernel
theorem dX1_unlikePairs_42 : decode cX1_unlikePairs 42 = .ok (.iand, 1) := by decide +kernel
theorem dX1_unlikePairs_43 : decode cX1_unlikePairs 43 = .ok (.ior, 1) := by decide +kernel
theorem dX1_unlikePairs_44 : decode cX1_unlikePairs 44 = .ok (.istore 4, 2) := by decide +kernel
theorem dX1_unlikePairs_46 : decode cX1_unlikePairs 46 = .ok (.aload_n 1, 1) := by decide +kernel
theorem dX1_unlikePairs_47 : decode cX1_unlikePairs 47 = .ok (.iload_n 3, 1) := by decide +kernel
theorem dX1_unlikePairs_48 : decode cX1_unlikePairs 48 = .ok (.invokevirtual 47, 3) := by decide +kernel
theorem dX1_unlikePairs_51 : decode cX1_unlikePairs 51 = .ok (.ifCond .eq 49, 3) := by decide +kernel
theorem dX1_unlikePairs_54 : decode cX1_unlikePairs 54 = .ok (.aload_n 0, 1) := by decide +kernel
theorem dX1_unlikePairs_55 : decode cX1_unlikePairs 55 = .ok (.getfield 15, 3) := by decide +kernel
theorem dX1_unlikePairs_58 : decode cX1_unlikePairs 58 = .ok (.iload 4, 2) := by decide +kernel
theorem dX1_unlikePairs_60 : decode cX1_unlikePairs 60 = .ok (.bipush 6, 2) := by decide +kernel
theorem dX1_unlikePairs_62 : decode cX1_unlikePairs 62 = .ok (.ishr, 1) := by decide +kernel
theorem dX1_unlikePairs_63 : decode cX1_unlikePairs 63 = .ok (.laload, 1) := by decide +kernel
theorem dX1_unlikePairs_64 : decode cX1_unlikePairs 64 = .ok (.iload 4, 2) := by decide +kernel
theorem dX1_unlikePairs_66 : decode cX1_unlikePairs 66 = .ok (.bipush 63, 2) := by decide +kernel
theorem dX1_unlikePairs_68 : decode cX1_unlikePairs 68 = .ok (.iand, 1) := by decide +kernel
theorem dX1_unlikePairs_69 : decode cX1_unlikePairs 69 = .ok (.lshr, 1) := by decide +kernel
theorem dX1_unlikePairs_70 : decode cX1_unlikePairs 70 = .ok (.lconst 1, 1) := by decide +kernel
theorem dX1_unlikePairs_71 : decode cX1_unlikePairs 71 = .ok (.land, 1) := by decide +kernel
theorem dX1_unlikePairs_72 : decode cX1_unlikePairs 72 = .ok (.lconst 0, 1) := by decide +kernel
theorem dX1_unlikePairs_73 : decode cX1_unlikePairs 73 = .ok (.lcmp, 1) := by decide +kernel
theorem dX1_unlikePairs_74 : decode cX1_unlikePairs 74 = .ok (.ifCond .ne 26, 3) := by decide +kernel
theorem dX1_unlikePairs_77 : decode cX1_unlikePairs 77 = .ok (.aload_n 0, 1) := by decide +kernel
theorem dX1_unlikePairs_78 : decode cX1_unlikePairs 78 = .ok (.getfield 15, 3) := by decide +kernel
theorem dX1_unlikePairs_81 : decode cX1_unlikePairs 81 = .ok (.iload 4, 2) := by decide +kernel
theorem dX1_unlikePairs_83 : decode cX1_unlikePairs 83 = .ok (.bipush 6, 2) := by decide +kernel
theorem dX1_unlikePairs_85 : decode cX1_unlikePairs 85 = .ok (.ishr, 1) := by decide +kernel
theorem dX1_unlikePairs_86 : decode cX1_unlikePairs 86 = .ok (.dup2, 1) := by decide +kernel
theorem dX1_unlikePairs_87 : decode cX1_unlikePairs 87 = .ok (.laload, 1) := by decide +kernel
theorem dX1_unlikePairs_88 : decode cX1_unlikePairs 88 = .ok (.lconst 1, 1) := by decide +kernel
theorem dX1_unlikePairs_89 : decode cX1_unlikePairs 89 = .ok (.iload 4, 2) := by decide +kernel
theorem dX1_unlikePairs_91 : decode cX1_unlikePairs 91 = .ok (.bipush 63, 2) := by decide +kernel
theorem dX1_unlikePairs_93 : decode cX1_unlikePairs 93 = .ok (.iand, 1) := by decide +kernel
theorem dX1_unlikePairs_94 : decode cX1_unlikePairs 94 = .ok (.lshl, 1) := by decide +kernel
theorem dX1_unlikePairs_95 : decode cX1_unlikePairs 95 = .ok (.lor, 1) := by decide +kernel
theorem dX1_unlikePairs_96 : decode cX1_unlikePairs 96 = .ok (.lastore, 1) := by decide +kernel
theorem dX1_unlikePairs_97 : decode cX1_unlikePairs 97 = .ok (.iinc 2 1, 3) := by decide +kernel
theorem dX1_unlikePairs_100 : decode cX1_unlikePairs 100 = .ok (.iinc 3 1, 3) := by decide +kernel
theorem dX1_unlikePairs_103 : decode cX1_unlikePairs 103 = .ok (.goto (-91), 3) := by decide +kernel
theorem dX1_unlikePairs_106 : decode cX1_unlikePairs 106 = .ok (.iload_n 2, 1) := by decide +kernel
theorem dX1_unlikePairs_107 : decode cX1_unlikePairs 107 = .ok (.ireturn, 1) := by decide +kernel
theorem dX2_init_0 : decode cX2_init 0 = .ok (.aload_n 0, 1) := by decide +kernel
theorem dX2_init_1 : decode cX2_init 1 = .ok (.invokespecial 3, 3) := by decide +kernel
theorem dX2_init_4 : decode cX2_init 4 = .ok (.return_, 1) := by decide +kernel
theorem dX2_measure_0 : decode cX2_measure 0 = .ok (.aload_n 0, 1) := by decide +kernel
theorem dX2_measure_1 : decode cX2_measure 1 = .ok (.bipush (-4), 2) := by decide +kernel
theorem dX2_measure_3 : decode cX2_measure 3 = .ok (.putfield 9, 3) := by decide +kernel
theorem dX2_measure_6 : decode cX2_measure 6 = .ok (.aload_n 0, 1) := by decide +kernel
theorem dX2_measure_7 : decode cX2_measure 7 = .ok (.bipush (-4), 2) := by decide +kernel
theorem dX2_measure_9 : decode cX2_measure 9 = .ok (.putfield 15, 3) := by decide +kernel
theorem dX2_measure_12 : decode cX2_measure 12 = .ok (.aload_n 0, 1) := by decide +kernel
theorem dX2_measure_13 : decode cX2_measure 13 = .ok (.bipush (-4), 2) := by decide +kernel
theorem dX2_measure_15 : decode cX2_measure 15 = .ok (.putfield 18, 3) := by decide +kernel
theorem dX2_measure_18 : decode cX2_measure 18 = .ok (.aload_n 0, 1) := by decide +kernel
theorem dX2_measure_19 : decode cX2_measure 19 = .ok (.bipush (-4), 2) := by decide +kernel
theorem dX2_measure_21 : decode cX2_measure 21 = .ok (.putfield 21, 3) := by decide +kernel
theorem dX2_measure_24 : decode cX2_measure 24 = .ok (.aload_n 0, 1) := by decide +kernel
theorem dX2_measure_25 : decode cX2_measure 25 = .ok (.iconst 0, 1) := by decide +kernel
theorem dX2_measure_26 : decode cX2_measure 26 = .ok (.putfield 24, 3) := by decide +kernel
theorem dX2_measure_29 : decode cX2_measure 29 = .ok (.bipush (-4), 2) := by decide +kernel
theorem dX2_measure_31 : decode cX2_measure 31 = .ok (.istore 6, 2) := by decide +kernel
theorem dX2_measure_33 : decode cX2_measure 33 = .ok (.iconst 0, 1) := by decide +kernel
theorem dX2_measure_34 : decode cX2_measure 34 = .ok (.istore 7, 2) := by decide +kernel
theorem dX2_measure_36 : decode cX2_measure 36 = .ok (.iconst 1, 1) := by decide +kernel
theorem dX2_measure_37 : decode cX2_measure 37 = .ok (.istore 8, 2) := by decide +kernel
theorem dX2_measure_39 : decode cX2_measure 39 = .ok (.iload 8, 2) := by decide +kernel
theorem dX2_measure_41 : decode cX2_measure 41 = .ok (.aload_n 1, 1) := by decide +kernel
theorem dX2_measure_42 : decode cX2_measure 42 = .ok (.getfield 27, 3) := by decide +kernel
theorem dX2_measure_45 : decode cX2_measure 45 = .ok (.if_icmp .ge 147, 3) := by decide +kernel
theorem dX2_measure_48 : decode cX2_measure 48 = .ok (.aload_n 1, 1) := by decide +kernel
theorem dX2_measure_49 : decode cX2_measure 49 = .ok (.iload_n 3, 1) := by decide +kernel
theorem dX2_measure_50 : decode cX2_measure 50 = .ok (.iload 8, 2) := by decide +kernel
theorem dX2_measure_52 : decode cX2_measure 52 = .ok (.invokevirtual 32, 3) := by decide +kernel
theorem dX2_measure_55 : decode cX2_measure 55 = .ok (.ifCond .eq 8, 3) := by decide +kernel
theorem dX2_measure_58 : decode cX2_measure 58 = .ok (.iload 8, 2) := by decide +kernel
theorem dX2_measure_60 : decode cX2_measure 60 = .ok (.goto 5, 3) := by decide +kernel
theorem dX2_measure_63 : decode cX2_measure 63 = .ok (.iload 6, 2) := by decide +kernel
theorem dX2_measure_65 : decode cX2_measure 65 = .ok (.istore 6, 2) := by decide +kernel
theorem dX2_measure_67 : decode cX2_measure 67 = .ok (.iload 7, 2) := by decide +kernel
theorem dX2_measure_69 : decode cX2_measure 69 = .ok (.iload 8, 2) := by decide +kernel
theorem dX2_measure_71 : decode cX2_measure 71 = .ok (.if_icmp .le 8, 3) := by decide +kernel
theorem dX2_measure_74 : decode cX2_measure 74 = .ok (.iload 7, 2) := by decide +kernel
theorem dX2_measure_76 : decode cX2_measure 76 = .ok (.goto 12, 3) := by decide +kernel
theorem dX2_measure_79 : decode cX2_measure 79 = .ok (.aload_n 1, 1) := by decide +kernel
theorem dX2_measure_80 : decode cX2_measure 80 = .ok (.iload_n 3, 1) := by decide +kernel
theorem dX2_measure_81 : decode cX2_measure 81 = .ok (.iload 8, 2) := by decide +kernel
theorem dX2_measure_83 : decode cX2_measure 83 = .ok (.iconst 1, 1) := by decide +kernel
theorem dX2_measure_84 : decode cX2_measure 84 = .ok (.iadd, 1) := by decide +kernel
theorem dX2_measure_85 : decode cX2_measure 85 = .ok (.invokestatic 36, 3) := by decide +kernel
theorem dX2_measure_88 : decode cX2_measure 88 = .ok (.istore 7, 2) := by decide +kernel
theorem dX2_measure_90 : decode cX2_measure 90 = .ok (.aload_n 1, 1) := by decide +kernel
theorem dX2_measure_91 : decode cX2_measure 91 = .ok (.iload_n 2, 1) := by decide +kernel
theorem dX2_measure_92 : decode cX2_measure 92 = .ok (.iload 8, 2) := by decide +kernel
theorem dX2_measure_94 : decode cX2_measure 94 = .ok (.invokevirtual 40, 3) := by decide +kernel
theorem dX2_measure_97 : decode cX2_measure 97 = .ok (.ifCond .eq 89, 3) := by decide +kernel
theorem dX2_measure_100 : decode cX2_measure 100 = .ok (.iload 6, 2) := by decide +kernel
theorem dX2_measure_102 : decode cX2_measure 102 = .ok (.ifCond .ge 8, 3) := by decide +kernel
theorem dX2_measure_105 : decode cX2_measure 105 = .ok (.bipush (-4), 2) := by decide +kernel
theorem dX2_measure_107 : decode cX2_measure 107 = .ok (.goto 8, 3) := by decide +kernel
theorem dX2_measure_110 : decode cX2_measure 110 = .ok (.iload 8, 2) := by decide +kernel
theorem dX2_measure_112 : decode cX2_measure 112 = .ok (.iload 6, 2) := by decide +kernel
theorem dX2_measure_114 : decode cX2_measure 114 = .ok (.isub, 1) := by decide +kernel
theorem dX2_measure_115 : decode cX2_measure 115 = .ok (.istore 9, 2) := by decide +kernel
theorem dX2_measure_117 : decode cX2_measure 117 = .ok (.iload 7, 2) := by decide +kernel
theorem dX2_measure_119 : decode cX2_measure 119 = .ok (.aload_n 1, 1) := by decide +kernel
theorem dX2_measure_120 : decode cX2_measure 120 = .ok (.getfield 27, 3) := by decide +kernel
theorem dX2_measure_123 : decode cX2_measure 123 = .ok (.if_icmp .ge 11, 3) := by decide +kernel
theorem dX2_measure_126 : decode cX2_measure 126 = .ok (.iload 7, 2) := by decide +kernel
theorem dX2_measure_128 : decode cX2_measure 128 = .ok (.iload 8, 2) := by decide +kernel
theorem dX2_measure_130 : decode cX2_measure 130 = .ok (.isub, 1) := by decide +kernel
theorem dX2_measure_131 : decode cX2_measure 131 = .ok (.goto 5, 3) := by decide +kernel
theorem dX2_measure_134 : decode cX2_measure 134 = .ok (.bipush (-4), 2) := by decide +kernel
theorem dX2_measure_136 : decode cX2_measure 136 = .ok (.istore 10, 2) := by decide +kernel
theorem dX2_measure_138 : decode cX2_measure 138 = .ok (.aload_n 0, 1) := by decide +kernel
theorem dX2_measure_139 : decode cX2_measure 139 = .ok (.iload 8, 2) := by decide +kernel
theorem dX2_measure_141 : decode cX2_measure 141 = .ok (.iload 9, 2) := by decide +kernel
theorem dX2_measure_143 : decode cX2_measure 143 = .ok (.iload 10, 2) := by decide +kernel
theorem dX2_measure_145 : decode cX2_measure 145 = .ok (.invokevirtual 43, 3) := by decide +kernel
theorem dX2_measure_148 : decode cX2_measure 148 = .ok (.aload_n 0, 1) := by decide +kernel
theorem dX2_measure_149 : decode cX2_measure 149 = .ok (.dup, 1) := by decide +kernel
theorem dX2_measure_150 : decode cX2_measure 150 = .ok (.getfield 24, 3) := by decide +kernel
theorem dX2_measure_153 : decode cX2_measure 153 = .ok (.iload 9, 2) := by decide +kernel
theorem dX2_measure_155 : decode cX2_measure 155 = .ok (.ifCond .lt 10, 3) := by decide +kernel
theorem dX2_measure_158 : decode cX2_measure 158 = .ok (.iload 9, 2) := by decide +kernel
theorem dX2_measure_160 : decode cX2_measure 160 = .ok (.iload 4, 2) := by decide +kernel
theorem dX2_measure_162 : decode cX2_measure 162 = .ok (.if_icmp .lt 15, 3) := by decide +kernel
theorem dX2_measure_165 : decode cX2_measure 165 = .ok (.iload 10, 2) := by decide +kernel
theorem dX2_measure_167 : decode cX2_measure 167 = .ok (.ifCond .lt 14, 3) := by decide +kernel
theorem dX2_measure_170 : decode cX2_measure 170 = .ok (.iload 10, 2) := by decide +kernel
theorem dX2_measure_172 : decode cX2_measure 172 = .ok (.iload 5, 2) := by decide +kernel
theorem dX2_measure_174 : decode cX2_measure 174 = .ok (.if_icmp .ge 7, 3) := by decide +kernel
theorem dX2_measure_177 : decode cX2_measure 177 = .ok (.iconst 1, 1) := by decide +kernel
theorem dX2_measure_178 : decode cX2_measure 178 = .ok (.goto 4, 3) := by decide +kernel
theorem dX2_measure_181 : decode cX2_measure 181 = .ok (.iconst 0, 1) := by decide +kernel
theorem dX2_measure_182 : decode cX2_measure 182 = .ok (.iadd, 1) := by decide +kernel
theorem dX2_measure_183 : decode cX2_measure 183 = .ok (.putfield 24, 3) := by decide +kernel
theorem dX2_measure_186 : decode cX2_measure 186 = .ok (.iinc 8 1, 3) := by decide +kernel
theorem dX2_measure_189 : decode cX2_measure 189 = .ok (.goto (-150), 3) := by decide +kernel
theorem dX2_measure_192 : decode cX2_measure 192 = .ok (.return_, 1) := by decide +kernel
theorem dX2_note_0 : decode cX2_note 0 = .ok (.iload_n 2, 1) := by decide +kernel
theorem dX2_note_1 : decode cX2_note 1 = .ok (.ifCond .lt 28, 3) := by decide +kernel
theorem dX2_note_4 : decode cX2_note 4 = .ok (.aload_n 0, 1) := by decide +kernel
theorem dX2_note_5 : decode cX2_note 5 = .ok (.getfield 9, 3) := by decide +kernel
theorem dX2_note_8 : decode cX2_note 8 = .ok (.ifCond .lt 11, 3) := by decide +kernel
theorem dX2_note_11 : decode cX2_note 11 = .ok (.iload_n 2, 1) := by decide +kernel
theorem dX2_note_12 : decode cX2_note 12 = .ok (.aload_n 0, 1) := by decide +kernel
theorem dX2_note_13 : decode cX2_note 13 = .ok (.getfield 9, 3) := by decide +kernel
theorem dX2_note_16 : decode cX2_note 16 = .ok (.if_icmp .ge 13, 3) := by decide +kernel
theorem dX2_note_19 : decode cX2_note 19 = .ok (.aload_n 0, 1) := by decide +kernel
theorem dX2_note_20 : decode cX2_note 20 = .ok (.iload_n 2, 1) := by decide +kernel
theorem dX2_note_21 : decode cX2_note 21 = .ok (.putfield 9, 3) := by decide +kernel
theorem dX2_note_24 : decode cX2_note 24 = .ok (.aload_n 0, 1) := by decide +kernel
theorem dX2_note_25 : decode cX2_note 25 = .ok (.iload_n 1, 1) := by decide +kernel
theorem dX2_note_26 : decode cX2_note 26 = .ok (.putfield 15, 3) := by decide +kernel
theorem dX2_note_29 : decode cX2_note 29 = .ok (.iload_n 3, 1) := by decide +kernel
theorem dX2_note_30 : decode cX2_note 30 = .ok (.ifCond .lt 28, 3) := by decide +kernel
theorem dX2_note_33 : decode cX2_note 33 = .ok (.aload_n 0, 1) := by decide +kernel
theorem dX2_note_34 : decode cX2_note 34 = .ok (.getfield 18, 3) := by decide +kernel
theorem dX2_note_37 : decode cX2_note 37 = .ok (.ifCond .lt 11, 3) := by decide +kernel
theorem dX2_note_40 : decode cX2_note 40 = .ok (.iload_n 3, 1) := by decide +kernel
theorem dX2_note_41 : decode cX2_note 41 = .ok (.aload_n 0, 1) := by decide +kernel
theorem dX2_note_42 : decode cX2_note 42 = .ok (.getfield 18, 3) := by decide +kernel
theorem dX2_note_45 : decode cX2_note 45 = .ok (.if_icmp .ge 13, 3) := by decide +kernel
theorem dX2_note_48 : decode cX2_note 48 = .ok (.aload_n 0, 1) := by decide +kernel
theorem dX2_note_49 : decode cX2_note 49 = .ok (.iload_n 3, 1) := by decide +kernel
theorem dX2_note_50 : decode cX2_note 50 = .ok (.putfield 18, 3) := by decide +kernel
theorem dX2_note_53 : decode cX2_note 53 = .ok (.aload_n 0, 1) := by decide +kernel
theorem dX2_note_54 : decode cX2_note 54 = .ok (.iload_n 1, 1) := by decide +kernel
theorem dX2_note_55 : decode cX2_note 55 = .ok (.putfield 21, 3) := by decide +kernel
theorem dX2_note_58 : decode cX2_note 58 = .ok (.return_, 1) := by decide +kernel
theorem dX2_firstChange_0 : decode cX2_firstChange 0 = .ok (.iload_n 2, 1) := by decide +kernel
theorem dX2_firstChange_1 : decode cX2_firstChange 1 = .ok (.istore_n 3, 1) := by decide +kernel
theorem dX2_firstChange_2 : decode cX2_firstChange 2 = .ok (.iload_n 3, 1) := by decide +kernel
theorem dX2_firstChange_3 : decode cX2_firstChange 3 = .ok (.aload_n 0, 1) := by decide +kernel
theorem dX2_firstChange_4 : decode cX2_firstChange 4 = .ok (.getfield 27, 3) := by decide +kernel
theorem dX2_firstChange_7 : decode cX2_firstChange 7 = .ok (.if_icmp .ge 20, 3) := by decide +kernel
theorem dX2_firstChange_10 : decode cX2_firstChange 10 = .ok (.aload_n 0, 1) := by decide +kernel
theorem dX2_firstChange_11 : decode cX2_firstChange 11 = .ok (.iload_n 1, 1) := by decide +kernel
theorem dX2_firstChange_12 : decode cX2_firstChange 12 = .ok (.iload_n 3, 1) := by decide +kernel
theorem dX2_firstChange_13 : decode cX2_firstChange 13 = .ok (.invokevirtual 32, 3) := by decide +kernel
theorem dX2_firstChange_16 : decode cX2_firstChange 16 = .ok (.ifCond .eq 5, 3) := by decide +kernel
theorem dX2_firstChange_19 : decode cX2_firstChange 19 = .ok (.iload_n 3, 1) := by decide +kernel
theorem dX2_firstChange_20 : decode cX2_firstChange 20 = .ok (.ireturn, 1) := by decide +kernel
theorem dX2_firstChange_21 : decode cX2_firstChange 21 = .ok (.iinc 3 1, 3) := by decide +kernel
theorem dX2_firstChange_24 : decode cX2_firstChange 24 = .ok (.goto (-22), 3) := by decide +kernel
theorem dX2_firstChange_27 : decode cX2_firstChange 27 = .ok (.aload_n 0, 1) := by decide +kernel
theorem dX2_firstChange_28 : decode cX2_firstChange 28 = .ok (.getfield 27, 3) := by decide +kernel
theorem dX2_firstChange_31 : decode cX2_firstChange 31 = .ok (.ireturn, 1) := by decide +kernel
theorem dX3_init_0 : decode cX3_init 0 = .ok (.aload_n 0, 1) := by decide +kernel
theorem dX3_init_1 : decode cX3_init 1 = .ok (.invokespecial 3, 3) := by decide +kernel
theorem dX3_init_4 : decode cX3_init 4 = .ok (.return_, 1) := by decide +kernel
theorem dX3_measure_0 : decode cX3_measure 0 = .ok (.aload_n 0, 1) := by decide +kernel
theorem dX3_measure_1 : decode cX3_measure 1 = .ok (.iconst 0, 1) := by decide +kernel
theorem dX3_measure_2 : decode cX3_measure 2 = .ok (.putfield 9, 3) := by decide +kernel
theorem dX3_measure_5 : decode cX3_measure 5 = .ok (.aload_n 0, 1) := by decide +kernel
theorem dX3_measure_6 : decode cX3_measure 6 = .ok (.iconst 0, 1) := by decide +kernel
theorem dX3_measure_7 : decode cX3_measure 7 = .ok (.putfield 15, 3) := by decide +kernel
theorem dX3_measure_10 : decode cX3_measure 10 = .ok (.aload_n 0, 1) := by decide +kernel
theorem dX3_measure_11 : decode cX3_measure 11 = .ok (.bipush (-4), 2) := by decide +kernel
theorem dX3_measure_13 : decode cX3_measure 13 = .ok (.putfield 18, 3) := by decide +kernel
theorem dX3_measure_16 : decode cX3_measure 16 = .ok (.aload_n 0, 1) := by decide +kernel
theorem dX3_measure_17 : decode cX3_measure 17 = .ok (.bipush (-4), 2) := by decide +kernel
theorem dX3_measure_19 : decode cX3_measure 19 = .ok (.putfield 21, 3) := by decide +kernel
theorem dX3_measure_22 : decode cX3_measure 22 = .ok (.aload_n 0, 1) := by decide +kernel
theorem dX3_measure_23 : decode cX3_measure 23 = .ok (.bipush (-4), 2) := by decide +kernel
theorem dX3_measure_25 : decode cX3_measure 25 = .ok (.putfield 24, 3) := by decide +kernel
theorem dX3_measure_28 : decode cX3_measure 28 = .ok (.aload_n 0, 1) := by decide +kernel
theorem dX3_measure_29 : decode cX3_measure 29 = .ok (.bipush (-4), 2) := by decide +kernel
theorem dX3_measure_31 : decode cX3_measure 31 = .ok (.putfield 27, 3) := by decide +kernel
theorem dX3_measure_34 : decode cX3_measure 34 = .ok (.iconst 0, 1) := by decide +kernel
theorem dX3_measure_35 : decode cX3_measure 35 = .ok (.istore 5, 2) := by decide +kernel
theorem dX3_measure_37 : decode cX3_measure 37 = .ok (.iconst 1, 1) := by decide +kernel
theorem dX3_measure_38 : decode cX3_measure 38 = .ok (.istore 6, 2) := by decide +kernel
theorem dX3_measure_40 : decode cX3_measure 40 = .ok (.iload 6, 2) := by decide +kernel
theorem dX3_measure_42 : decode cX3_measure 42 = .ok (.aload_n 1, 1) := by decide +kernel
theorem dX3_measure_43 : decode cX3_measure 43 = .ok (.getfield 30, 3) := by decide +kernel
theorem dX3_measure_46 : decode cX3_measure 46 = .ok (.if_icmp .ge 69, 3) := by decide +kernel
theorem dX3_measure_49 : decode cX3_measure 49 = .ok (.aload_n 1, 1) := by decide +kernel
theorem dX3_measure_50 : decode cX3_measure 50 = .ok (.iload_n 2, 1) := by decide +kernel
theorem dX3_measure_51 : decode cX3_measure 51 = .ok (.iload 6, 2) := by decide +kernel
theorem dX3_measure_53 : decode cX3_measure 53 = .ok (.invokevirtual 35, 3) := by decide +kernel
theorem dX3_measure_56 : decode cX3_measure 56 = .ok (.ifCond .ne 6, 3) := by decide +kernel
theorem dX3_measure_59 : decode cX3_measure 59 = .ok (.goto 50, 3) := by decide +kernel
theorem dX3_measure_62 : decode cX3_measure 62 = .ok (.iload 5, 2) := by decide +kernel
theorem dX3_measure_64 : decode cX3_measure 64 = .ok (.ifCond .le 41, 3) := by decide +kernel
theorem dX3_measure_67 : decode cX3_measure 67 = .ok (.iload_n 3, 1) := by decide +kernel
theorem dX3_measure_68 : decode cX3_measure 68 = .ok (.iconst (-1), 1) := by decide +kernel
theorem dX3_measure_69 : decode cX3_measure 69 = .ok (.if_icmp .eq 23, 3) := by decide +kernel
theorem dX3_measure_72 : decode cX3_measure 72 = .ok (.aload_n 1, 1) := by decide +kernel
theorem dX3_measure_73 : decode cX3_measure 73 = .ok (.iload_n 2, 1) := by decide +kernel
theorem dX3_measure_74 : decode cX3_measure 74 = .ok (.iload 5, 2) := by decide +kernel
theorem dX3_measure_76 : decode cX3_measure 76 = .ok (.invokevirtual 39, 3) := by decide +kernel
theorem dX3_measure_79 : decode cX3_measure 79 = .ok (.iload_n 3, 1) := by decide +kernel
theorem dX3_measure_80 : decode cX3_measure 80 = .ok (.iconst 1, 1) := by decide +kernel
theorem dX3_measure_81 : decode cX3_measure 81 = .ok (.if_icmp .ne 7, 3) := by decide +kernel
theorem dX3_measure_84 : decode cX3_measure 84 = .ok (.iconst 1, 1) := by decide +kernel
theorem dX3_measure_85 : decode cX3_measure 85 = .ok (.goto 4, 3) := by decide +kernel
theorem dX3_measure_88 : decode cX3_measure 88 = .ok (.iconst 0, 1) := by decide +kernel
theorem dX3_measure_89 : decode cX3_measure 89 = .ok (.if_icmp .ne 16, 3) := by decide +kernel
theorem dX3_measure_92 : decode cX3_measure 92 = .ok (.aload_n 0, 1) := by decide +kernel
theorem dX3_measure_93 : decode cX3_measure 93 = .ok (.iload 5, 2) := by decide +kernel
theorem dX3_measure_95 : decode cX3_measure 95 = .ok (.iload 6, 2) := by decide +kernel
theorem dX3_measure_97 : decode cX3_measure 97 = .ok (.iload 5, 2) := by decide +kernel
theorem dX3_measure_99 : decode cX3_measure 99 = .ok (.isub, 1) := by decide +kernel
theorem dX3_measure_100 : decode cX3_measure 100 = .ok (.iload 4, 2) := by decide +kernel
theorem dX3_measure_102 : decode cX3_measure 102 = .ok (.invokevirtual 42, 3) := by decide +kernel
theorem dX3_measure_105 : decode cX3_measure 105 = .ok (.iload 6, 2) := by decide +kernel
theorem dX3_measure_107 : decode cX3_measure 107 = .ok (.istore 5, 2) := by decide +kernel
theorem dX3_measure_109 : decode cX3_measure 109 = .ok (.iinc 6 1, 3) := by decide +kernel
theorem dX3_measure_112 : decode cX3_measure 112 = .ok (.goto (-72), 3) := by decide +kernel
theorem dX3_measure_115 : decode cX3_measure 115 = .ok (.return_, 1) := by decide +kernel
theorem dX3_note_0 : decode cX3_note 0 = .ok (.aload_n 0, 1) := by decide +kernel
theorem dX3_note_1 : decode cX3_note 1 = .ok (.getfield 9, 3) := by decide +kernel
theorem dX3_note_4 : decode cX3_note 4 = .ok (.ifCond .eq 11, 3) := by decide +kernel
theorem dX3_note_7 : decode cX3_note 7 = .ok (.iload_n 2, 1) := by decide +kernel
theorem dX3_note_8 : decode cX3_note 8 = .ok (.aload_n 0, 1) := by decide +kernel
theorem dX3_note_9 : decode cX3_note 9 = .ok (.getfield 18, 3) := by decide +kernel
theorem dX3_note_12 : decode cX3_note 12 = .ok (.if_icmp .ge 13, 3) := by decide +kernel
theorem dX3_note_15 : decode cX3_note 15 = .ok (.aload_n 0, 1) := by decide +kernel
theorem dX3_note_16 : decode cX3_note 16 = .ok (.iload_n 2, 1) := by decide +kernel
theorem dX3_note_17 : decode cX3_note 17 = .ok (.putfield 18, 3) := by decide +kernel
theorem dX3_note_20 : decode cX3_note 20 = .ok (.aload_n 0, 1) := by decide +kernel
theorem dX3_note_21 : decode cX3_note 21 = .ok (.iload_n 1, 1) := by decide +kernel
theorem dX3_note_22 : decode cX3_note 22 = .ok (.putfield 21, 3) := by decide +kernel
theorem dX3_note_25 : decode cX3_note 25 = .ok (.aload_n 0, 1) := by decide +kernel
theorem dX3_note_26 : decode cX3_note 26 = .ok (.getfield 9, 3) := by decide +kernel
theorem dX3_note_29 : decode cX3_note 29 = .ok (.ifCond .eq 11, 3) := by decide +kernel
theorem dX3_note_32 : decode cX3_note 32 = .ok (.iload_n 2, 1) := by decide +kernel
theorem dX3_note_33 : decode cX3_note 33 = .ok (.aload_n 0, 1) := by decide +kernel
theorem dX3_note_34 : decode cX3_note 34 = .ok (.getfield 24, 3) := by decide +kernel
theorem dX3_note_37 : decode cX3_note 37 = .ok (.if_icmp .le 13, 3) := by decide +kernel
theorem dX3_note_40 : decode cX3_note 40 = .ok (.aload_n 0, 1) := by decide +kernel
theorem dX3_note_41 : decode cX3_note 41 = .ok (.iload_n 2, 1) := by decide +kernel
theorem dX3_note_42 : decode cX3_note 42 = .ok (.putfield 24, 3) := by decide +kernel
theorem dX3_note_45 : decode cX3_note 45 = .ok (.aload_n 0, 1) := by decide +kernel
theorem dX3_note_46 : decode cX3_note 46 = .ok (.iload_n 1, 1) := by decide +kernel
theorem dX3_note_47 : decode cX3_note 47 = .ok (.putfield 27, 3) := by decide +kernel
theorem dX3_note_50 : decode cX3_note 50 = .ok (.aload_n 0, 1) := by decide +kernel
theorem dX3_note_51 : decode cX3_note 51 = .ok (.dup, 1) := by decide +kernel
theorem dX3_note_52 : decode cX3_note 52 = .ok (.getfield 9, 3) := by decide +kernel
theorem dX3_note_55 : decode cX3_note 55 = .ok (.iconst 1, 1) := by decide +kernel
theorem dX3_note_56 : decode cX3_note 56 = .ok (.iadd, 1) := by decide +kernel
theorem dX3_note_57 : decode cX3_note 57 = .ok (.putfield 9, 3) := by decide +kernel
theorem dX3_note_60 : decode cX3_note 60 = .ok (.aload_n 0, 1) := by decide +kernel
theorem dX3_note_61 : decode cX3_note 61 = .ok (.dup, 1) := by decide +kernel
theorem dX3_note_62 : decode cX3_note 62 = .ok (.getfield 15, 3) := by decide +kernel
theorem dX3_note_65 : decode cX3_note 65 = .ok (.iload_n 2, 1) := by decide +kernel
theorem dX3_note_66 : decode cX3_note 66 = .ok (.iload_n 3, 1) := by decide +kernel
theorem dX3_note_67 : decode cX3_note 67 = .ok (.if_icmp .ge 7, 3) := by decide +kernel
theorem dX3_note_70 : decode cX3_note 70 = .ok (.iconst 1, 1) := by decide +kernel
theorem dX3_note_71 : decode cX3_note 71 = .ok (.goto 4, 3) := by decide +kernel
theorem dX3_note_74 : decode cX3_note 74 = .ok (.iconst 0, 1) := by decide +kernel
theorem dX3_note_75 : decode cX3_note 75 = .ok (.iadd, 1) := by decide +kernel
theorem dX3_note_76 : decode cX3_note 76 = .ok (.putfield 15, 3) := by decide +kernel
theorem dX3_note_79 : decode cX3_note 79 = .ok (.return_, 1) := by decide +kernel
theorem dX4_init_0 : decode cX4_init 0 = .ok (.aload_n 0, 1) := by decide +kernel
theorem dX4_init_1 : decode cX4_init 1 = .ok (.invokespecial 3, 3) := by decide +kernel
theorem dX4_init_4 : decode cX4_init 4 = .ok (.aload_n 0, 1) := by decide +kernel
theorem dX4_init_5 : decode cX4_init 5 = .ok (.new 9, 3) := by decide +kernel
theorem dX4_init_8 : decode cX4_init 8 = .ok (.dup, 1) := by decide +kernel
theorem dX4_init_9 : decode cX4_init 9 = .ok (.invokespecial 11, 3) := by decide +kernel
theorem dX4_init_12 : decode cX4_init 12 = .ok (.putfield 12, 3) := by decide +kernel
theorem dX4_init_15 : decode cX4_init 15 = .ok (.aload_n 0, 1) := by decide +kernel
theorem dX4_init_16 : decode cX4_init 16 = .ok (.new 18, 3) := by decide +kernel
theorem dX4_init_19 : decode cX4_init 19 = .ok (.dup, 1) := by decide +kernel
theorem dX4_init_20 : decode cX4_init 20 = .ok (.invokespecial 20, 3) := by decide +kernel
theorem dX4_init_23 : decode cX4_init 23 = .ok (.putfield 21, 3) := by decide +kernel
theorem dX4_init_26 : decode cX4_init 26 = .ok (.return_, 1) := by decide +kernel
theorem dX4_readAll_0 : decode cX4_readAll 0 = .ok (.aload_n 0, 1) := by decide +kernel
theorem dX4_readAll_1 : decode cX4_readAll 1 = .ok (.invokevirtual 25, 3) := by decide +kernel
theorem dX4_readAll_4 : decode cX4_readAll 4 = .ok (.iconst 0, 1) := by decide +kernel
theorem dX4_readAll_5 : decode cX4_readAll 5 = .ok (.istore_n 1, 1) := by decide +kernel
theorem dX4_readAll_6 : decode cX4_readAll 6 = .ok (.iload_n 1, 1) := by decide +kernel
theorem dX4_readAll_7 : decode cX4_readAll 7 = .ok (.sipush 400, 3) := by decide +kernel
theorem dX4_readAll_10 : decode cX4_readAll 10 = .ok (.if_icmp .ge 101, 3) := by decide +kernel
theorem dX4_readAll_13 : decode cX4_readAll 13 = .ok (.aload_n 0, 1) := by decide +kernel
theorem dX4_readAll_14 : decode cX4_readAll 14 = .ok (.getfield 28, 3) := by decide +kernel
theorem dX4_readAll_17 : decode cX4_readAll 17 = .ok (.ifCond .ne 94, 3) := by decide +kernel
theorem dX4_readAll_20 : decode cX4_readAll 20 = .ok (.aload_n 0, 1) := by decide +kernel
theorem dX4_readAll_21 : decode cX4_readAll 21 = .ok (.getfield 32, 3) := by decide +kernel
theorem dX4_readAll_24 : decode cX4_readAll 24 = .ok (.ifCond .eq 87, 3) := by decide +kernel
theorem dX4_readAll_27 : decode cX4_readAll 27 = .ok (.aload_n 0, 1) := by decide +kernel
theorem dX4_readAll_28 : decode cX4_readAll 28 = .ok (.dup, 1) := by decide +kernel
theorem dX4_readAll_29 : decode cX4_readAll 29 = .ok (.getfield 35, 3) := by decide +kernel
theorem dX4_readAll_32 : decode cX4_readAll 32 = .ok (.iconst 1, 1) := by decide +kernel
theorem dX4_readAll_33 : decode cX4_readAll 33 = .ok (.iadd, 1) := by decide +kernel
theorem dX4_readAll_34 : decode cX4_readAll 34 = .ok (.putfield 35, 3) := by decide +kernel
theorem dX4_readAll_37 : decode cX4_readAll 37 = .ok (.aload_n 0, 1) := by decide +kernel
theorem dX4_readAll_38 : decode cX4_readAll 38 = .ok (.getfield 32, 3) := by decide +kernel
theorem dX4_readAll_41 : decode cX4_readAll 41 = .ok (.tableswitch 59 4 7 #[31, 38, 45, 52], 31) := by decide +kernel
theorem dX4_readAll_72 : decode cX4_readAll 72 = .ok (.aload_n 0, 1) := by decide +kernel
theorem dX4_readAll_73 : decode cX4_readAll 73 = .ok (.invokevirtual 38, 3) := by decide +kernel
theorem dX4_readAll_76 : decode cX4_readAll 76 = .ok (.goto 29, 3) := by decide +kernel
theorem dX4_readAll_79 : decode cX4_readAll 79 = .ok (.aload_n 0, 1) := by decide +kernel
theorem dX4_readAll_80 : decode cX4_readAll 80 = .ok (.invokevirtual 41, 3) := by decide +kernel
theorem dX4_readAll_83 : decode cX4_readAll 83 = .ok (.goto 22, 3) := by decide +kernel
theorem dX4_readAll_86 : decode cX4_readAll 86 = .ok (.aload_n 0, 1) := by decide +kernel
theorem dX4_readAll_87 : decode cX4_readAll 87 = .ok (.invokevirtual 44, 3) := by decide +kernel
theorem dX4_readAll_90 : decode cX4_readAll 90 = .ok (.goto 15, 3) := by decide +kernel
theorem dX4_readAll_93 : decode cX4_readAll 93 = .ok (.aload_n 0, 1) := by decide +kernel
theorem dX4_readAll_94 : decode cX4_readAll 94 = .ok (.invokevirtual 47, 3) := by decide +kernel
theorem dX4_readAll_97 : decode cX4_readAll 97 = .ok (.goto 8, 3) := by decide +kernel
theorem dX4_readAll_100 : decode cX4_readAll 100 = .ok (.aload_n 0, 1) := by decide +kernel
theorem dX4_readAll_101 : decode cX4_readAll 101 = .ok (.iconst 2, 1) := by decide +kernel
theorem dX4_readAll_102 : decode cX4_readAll 102 = .ok (.invokevirtual 50, 3) := by decide +kernel
theorem dX4_readAll_105 : decode cX4_readAll 105 = .ok (.iinc 1 1, 3) := by decide +kernel
theorem dX4_readAll_108 : decode cX4_readAll 108 = .ok (.goto (-102), 3) := by decide +kernel
theorem dX4_readAll_111 : decode cX4_readAll 111 = .ok (.aload_n 0, 1) := by decide +kernel
theorem dX4_readAll_112 : decode cX4_readAll 112 = .ok (.getfield 21, 3) := by decide +kernel
theorem dX4_readAll_115 : decode cX4_readAll 115 = .ok (.invokevirtual 54, 3) := by decide +kernel
theorem dX4_readAll_118 : decode cX4_readAll 118 = .ok (.ifCond .ne 20, 3) := by decide +kernel
theorem dX4_readAll_121 : decode cX4_readAll 121 = .ok (.aload_n 0, 1) := by decide +kernel
theorem dX4_readAll_122 : decode cX4_readAll 122 = .ok (.getfield 21, 3) := by decide +kernel
theorem dX4_readAll_125 : decode cX4_readAll 125 = .ok (.getfield 58, 3) := by decide +kernel
theorem dX4_readAll_128 : decode cX4_readAll 128 = .ok (.aload_n 0, 1) := by decide +kernel
theorem dX4_readAll_129 : decode cX4_readAll 129 = .ok (.getfield 21, 3) := by decide +kernel
theorem dX4_readAll_132 : decode cX4_readAll 132 = .ok (.getfield 61, 3) := by decide +kernel
theorem dX4_readAll_135 : decode cX4_readAll 135 = .ok (.if_icmp .lt 9, 3) := by decide +kernel
theorem dX4_readAll_138 : decode cX4_readAll 138 = .ok (.aload_n 0, 1) := by decide +kernel
theorem dX4_readAll_139 : decode cX4_readAll 139 = .ok (.bipush 6, 2) := by decide +kernel
theorem dX4_readAll_141 : decode cX4_readAll 141 = .ok (.invokevirtual 50, 3) := by decide +kernel
theorem dX4_readAll_144 : decode cX4_readAll 144 = .ok (.return_, 1) := by decide +kernel
theorem dX4_exchange_0 : decode cX4_exchange 0 = .ok (.aload_n 0, 1) := by decide +kernel
theorem dX4_exchange_1 : decode cX4_exchange 1 = .ok (.getfield 21, 3) := by decide +kernel
theorem dX4_exchange_4 : decode cX4_exchange 4 = .ok (.astore_n 2, 1) := by decide +kernel
theorem dX4_exchange_5 : decode cX4_exchange 5 = .ok (.aload_n 0, 1) := by decide +kernel
theorem dX4_exchange_6 : decode cX4_exchange 6 = .ok (.aload_n 1, 1) := by decide +kernel
theorem dX4_exchange_7 : decode cX4_exchange 7 = .ok (.putfield 21, 3) := by decide +kernel
theorem dX4_exchange_10 : decode cX4_exchange 10 = .ok (.aload_n 2, 1) := by decide +kernel
theorem dX4_exchange_11 : decode cX4_exchange 11 = .ok (.areturn, 1) := by decide +kernel
theorem dX4_begin_0 : decode cX4_begin 0 = .ok (.aload_n 0, 1) := by decide +kernel
theorem dX4_begin_1 : decode cX4_begin 1 = .ok (.getfield 21, 3) := by decide +kernel
theorem dX4_begin_4 : decode cX4_begin 4 = .ok (.invokevirtual 64, 3) := by decide +kernel
theorem dX4_begin_7 : decode cX4_begin 7 = .ok (.aload_n 0, 1) := by decide +kernel
theorem dX4_begin_8 : decode cX4_begin 8 = .ok (.iconst 0, 1) := by decide +kernel
theorem dX4_begin_9 : decode cX4_begin 9 = .ok (.putfield 67, 3) := by decide +kernel
theorem dX4_begin_12 : decode cX4_begin 12 = .ok (.aload_n 0, 1) := by decide +kernel
theorem dX4_begin_13 : decode cX4_begin 13 = .ok (.iconst 0, 1) := by decide +kernel
theorem dX4_begin_14 : decode cX4_begin 14 = .ok (.putfield 71, 3) := by decide +kernel
theorem dX4_begin_17 : decode cX4_begin 17 = .ok (.aload_n 0, 1) := by decide +kernel
theorem dX4_begin_18 : decode cX4_begin 18 = .ok (.iconst 0, 1) := by decide +kernel
theorem dX4_begin_19 : decode cX4_begin 19 = .ok (.putfield 28, 3) := by decide +kernel
theorem dX4_begin_22 : decode cX4_begin 22 = .ok (.aload_n 0, 1) := by decide +kernel
theorem dX4_begin_23 : decode cX4_begin 23 = .ok (.iconst 0, 1) := by decide +kernel
theorem dX4_begin_24 : decode cX4_begin 24 = .ok (.putfield 74, 3) := by decide +kernel
theorem dX4_begin_27 : decode cX4_begin 27 = .ok (.aload_n 0, 1) := by decide +kernel
theorem dX4_begin_28 : decode cX4_begin 28 = .ok (.iconst 0, 1) := by decide +kernel
theorem dX4_begin_29 : decode cX4_begin 29 = .ok (.putfield 35, 3) := by decide +kernel
theorem dX4_begin_32 : decode cX4_begin 32 = .ok (.aload_n 0, 1) := by decide +kernel
theorem dX4_begin_33 : decode cX4_begin 33 = .ok (.iconst (-1), 1) := by decide +kernel
theorem dX4_begin_34 : decode cX4_begin 34 = .ok (.putfield 77, 3) := by decide +kernel
theorem dX4_begin_37 : decode cX4_begin 37 = .ok (.aload_n 0, 1) := by decide +kernel
theorem dX4_begin_38 : decode cX4_begin 38 = .ok (.invokevirtual 80, 3) := by decide +kernel
theorem dX4_begin_41 : decode cX4_begin 41 = .ok (.return_, 1) := by decide +kernel
theorem dX4_readState_0 : decode cX4_readState 0 = .ok (.aload_n 0, 1) := by decide +kernel
theorem dX4_readState_1 : decode cX4_readState 1 = .ok (.getfield 21, 3) := by decide +kernel
theorem dX4_readState_4 : decode cX4_readState 4 = .ok (.getfield 83, 3) := by decide +kernel
theorem dX4_readState_7 : decode cX4_readState 7 = .ok (.istore_n 1, 1) := by decide +kernel
theorem dX4_readState_8 : decode cX4_readState 8 = .ok (.iload_n 1, 1) := by decide +kernel
theorem dX4_readState_9 : decode cX4_readState 9 = .ok (.bipush 8, 2) := by decide +kernel
theorem dX4_readState_11 : decode cX4_readState 11 = .ok (.if_icmp .lt 9, 3) := by decide +kernel
theorem dX4_readState_14 : decode cX4_readState 14 = .ok (.aload_n 0, 1) := by decide +kernel
theorem dX4_readState_15 : decode cX4_readState 15 = .ok (.iconst 5, 1) := by decide +kernel
theorem dX4_readState_16 : decode cX4_readState 16 = .ok (.invokevirtual 50, 3) := by decide +kernel
theorem dX4_readState_19 : decode cX4_readState 19 = .ok (.return_, 1) := by decide +kernel
theorem dX4_readState_20 : decode cX4_readState 20 = .ok (.aload_n 0, 1) := by decide +kernel
theorem dX4_readState_21 : decode cX4_readState 21 = .ok (.getfield 21, 3) := by decide +kernel
theorem dX4_readState_24 : decode cX4_readState 24 = .ok (.iload_n 1, 1) := by decide +kernel
theorem dX4_readState_25 : decode cX4_readState 25 = .ok (.iconst 1, 1) := by decide +kernel
theorem dX4_readState_26 : decode cX4_readState 26 = .ok (.iadd, 1) := by decide +kernel
theorem dX4_readState_27 : decode cX4_readState 27 = .ok (.putfield 83, 3) := by decide +kernel
theorem dX4_readState_30 : decode cX4_readState 30 = .ok (.iconst 0, 1) := by decide +kernel
theorem dX4_readState_31 : decode cX4_readState 31 = .ok (.istore_n 2, 1) := by decide +kernel
theorem dX4_readState_32 : decode cX4_readState 32 = .ok (.iload_n 2, 1) := by decide +kernel
theorem dX4_readState_33 : decode cX4_readState 33 = .ok (.iconst 3, 1) := by decide +kernel
theorem dX4_readState_34 : decode cX4_readState 34 = .ok (.if_icmp .ge 35, 3) := by decide +kernel
theorem dX4_readState_37 : decode cX4_readState 37 = .ok (.aload_n 0, 1) := by decide +kernel
theorem dX4_readState_38 : decode cX4_readState 38 = .ok (.invokevirtual 80, 3) := by decide +kernel
theorem dX4_readState_41 : decode cX4_readState 41 = .ok (.aload_n 0, 1) := by decide +kernel
theorem dX4_readState_42 : decode cX4_readState 42 = .ok (.iload_n 1, 1) := by decide +kernel
theorem dX4_readState_43 : decode cX4_readState 43 = .ok (.iload_n 2, 1) := by decide +kernel
theorem dX4_readState_44 : decode cX4_readState 44 = .ok (.invokevirtual 86, 3) := by decide +kernel
theorem dX4_readState_47 : decode cX4_readState 47 = .ok (.aload_n 0, 1) := by decide +kernel
theorem dX4_readState_48 : decode cX4_readState 48 = .ok (.getfield 32, 3) := by decide +kernel
theorem dX4_readState_51 : decode cX4_readState 51 = .ok (.bipush 124, 2) := by decide +kernel
theorem dX4_readState_53 : decode cX4_readState 53 = .ok (.if_icmp .eq 10, 3) := by decide +kernel
theorem dX4_readState_56 : decode cX4_readState 56 = .ok (.aload_n 0, 1) := by decide +kernel
theorem dX4_readState_57 : decode cX4_readState 57 = .ok (.bipush 59, 2) := by decide +kernel
theorem dX4_readState_59 : decode cX4_readState 59 = .ok (.invokevirtual 90, 3) := by decide +kernel
theorem dX4_readState_62 : decode cX4_readState 62 = .ok (.return_, 1) := by decide +kernel
theorem dX4_readState_63 : decode cX4_readState 63 = .ok (.iinc 2 1, 3) := by decide +kernel
theorem dX4_readState_66 : decode cX4_readState 66 = .ok (.goto (-34), 3) := by decide +kernel
theorem dX4_readState_69 : decode cX4_readState 69 = .ok (.aload_n 0, 1) := by decide +kernel
theorem dX4_readState_70 : decode cX4_readState 70 = .ok (.iconst 5, 1) := by decide +kernel
theorem dX4_readState_71 : decode cX4_readState 71 = .ok (.invokevirtual 50, 3) := by decide +kernel
theorem dX4_readState_74 : decode cX4_readState 74 = .ok (.return_, 1) := by decide +kernel
theorem dX4_readBranch_0 : decode cX4_readBranch 0 = .ok (.aload_n 0, 1) := by decide +kernel
theorem dX4_readBranch_1 : decode cX4_readBranch 1 = .ok (.iload_n 1, 1) := by decide +kernel
theorem dX4_readBranch_2 : decode cX4_readBranch 2 = .ok (.iconst 3, 1) := by decide +kernel
theorem dX4_readBranch_3 : decode cX4_readBranch 3 = .ok (.imul, 1) := by decide +kernel
theorem dX4_readBranch_4 : decode cX4_readBranch 4 = .ok (.iload_n 2, 1) := by decide +kernel
theorem dX4_readBranch_5 : decode cX4_readBranch 5 = .ok (.iadd, 1) := by decide +kernel
theorem dX4_readBranch_6 : decode cX4_readBranch 6 = .ok (.invokevirtual 93, 3) := by decide +kernel
theorem dX4_readBranch_9 : decode cX4_readBranch 9 = .ok (.iconst 1, 1) := by decide +kernel
theorem dX4_readBranch_10 : decode cX4_readBranch 10 = .ok (.istore_n 3, 1) := by decide +kernel
theorem dX4_readBranch_11 : decode cX4_readBranch 11 = .ok (.aload_n 0, 1) := by decide +kernel
theorem dX4_readBranch_12 : decode cX4_readBranch 12 = .ok (.getfield 32, 3) := by decide +kernel
theorem dX4_readBranch_15 : decode cX4_readBranch 15 = .ok (.bipush 8, 2) := by decide +kernel
theorem dX4_readBranch_17 : decode cX4_readBranch 17 = .ok (.if_icmp .ne 15, 3) := by decide +kernel
theorem dX4_readBranch_20 : decode cX4_readBranch 20 = .ok (.aload_n 0, 1) := by decide +kernel
theorem dX4_readBranch_21 : decode cX4_readBranch 21 = .ok (.invokevirtual 80, 3) := by decide +kernel
theorem dX4_readBranch_24 : decode cX4_readBranch 24 = .ok (.aload_n 0, 1) := by decide +kernel
theorem dX4_readBranch_25 : decode cX4_readBranch 25 = .ok (.iconst 1, 1) := by decide +kernel
theorem dX4_readBranch_26 : decode cX4_readBranch 26 = .ok (.bipush 99, 2) := by decide +kernel
theorem dX4_readBranch_28 : decode cX4_readBranch 28 = .ok (.invokevirtual 96, 3) := by decide +kernel
theorem dX4_readBranch_31 : decode cX4_readBranch 31 = .ok (.istore_n 3, 1) := by decide +kernel
theorem dX4_readBranch_32 : decode cX4_readBranch 32 = .ok (.aload_n 0, 1) := by decide +kernel
theorem dX4_readBranch_33 : decode cX4_readBranch 33 = .ok (.bipush 9, 2) := by decide +kernel
theorem dX4_readBranch_35 : decode cX4_readBranch 35 = .ok (.invokevirtual 90, 3) := by decide +kernel
theorem dX4_readBranch_38 : decode cX4_readBranch 38 = .ok (.bipush 8, 2) := by decide +kernel
theorem dX4_readBranch_40 : decode cX4_readBranch 40 = .ok (.istore 4, 2) := by decide +kernel
theorem dX4_readBranch_42 : decode cX4_readBranch 42 = .ok (.aload_n 0, 1) := by decide +kernel
theorem dX4_readBranch_43 : decode cX4_readBranch 43 = .ok (.getfield 32, 3) := by decide +kernel
theorem dX4_readBranch_46 : decode cX4_readBranch 46 = .ok (.bipush 10, 2) := by decide +kernel
theorem dX4_readBranch_48 : decode cX4_readBranch 48 = .ok (.if_icmp .ne 10, 3) := by decide +kernel
theorem dX4_readBranch_51 : decode cX4_readBranch 51 = .ok (.aload_n 0, 1) := by decide +kernel
theorem dX4_readBranch_52 : decode cX4_readBranch 52 = .ok (.invokevirtual 80, 3) := by decide +kernel
theorem dX4_readBranch_55 : decode cX4_readBranch 55 = .ok (.goto 12, 3) := by decide +kernel
theorem dX4_readBranch_58 : decode cX4_readBranch 58 = .ok (.aload_n 0, 1) := by decide +kernel
theorem dX4_readBranch_59 : decode cX4_readBranch 59 = .ok (.iconst 0, 1) := by decide +kernel
theorem dX4_readBranch_60 : decode cX4_readBranch 60 = .ok (.bipush 7, 2) := by decide +kernel
theorem dX4_readBranch_62 : decode cX4_readBranch 62 = .ok (.invokevirtual 96, 3) := by decide +kernel
theorem dX4_readBranch_65 : decode cX4_readBranch 65 = .ok (.istore 4, 2) := by decide +kernel
theorem dX4_readBranch_67 : decode cX4_readBranch 67 = .ok (.aload_n 0, 1) := by decide +kernel
theorem dX4_readBranch_68 : decode cX4_readBranch 68 = .ok (.getfield 21, 3) := by decide +kernel
theorem dX4_readBranch_71 : decode cX4_readBranch 71 = .ok (.iload_n 1, 1) := by decide +kernel
theorem dX4_readBranch_72 : decode cX4_readBranch 72 = .ok (.iload_n 2, 1) := by decide +kernel
theorem dX4_readBranch_73 : decode cX4_readBranch 73 = .ok (.iload_n 3, 1) := by decide +kernel
theorem dX4_readBranch_74 : decode cX4_readBranch 74 = .ok (.iload 4, 2) := by decide +kernel
theorem dX4_readBranch_76 : decode cX4_readBranch 76 = .ok (.invokevirtual 100, 3) := by decide +kernel
theorem dX4_readBranch_79 : decode cX4_readBranch 79 = .ok (.return_, 1) := by decide +kernel
theorem dX4_readKeep_0 : decode cX4_readKeep 0 = .ok (.aload_n 0, 1) := by decide +kernel
theorem dX4_readKeep_1 : decode cX4_readKeep 1 = .ok (.getfield 21, 3) := by decide +kernel
theorem dX4_readKeep_4 : decode cX4_readKeep 4 = .ok (.bipush 24, 2) := by decide +kernel
theorem dX4_readKeep_6 : decode cX4_readKeep 6 = .ok (.invokevirtual 104, 3) := by decide +kernel
theorem dX4_readKeep_9 : decode cX4_readKeep 9 = .ok (.ifCond .le 9, 3) := by decide +kernel
theorem dX4_readKeep_12 : decode cX4_readKeep 12 = .ok (.aload_n 0, 1) := by decide +kernel
theorem dX4_readKeep_13 : decode cX4_readKeep 13 = .ok (.iconst 4, 1) := by decide +kernel
theorem dX4_readKeep_14 : decode cX4_readKeep 14 = .ok (.invokevirtual 50, 3) := by decide +kernel
theorem dX4_readKeep_17 : decode cX4_readKeep 17 = .ok (.return_, 1) := by decide +kernel
theorem dX4_readKeep_18 : decode cX4_readKeep 18 = .ok (.aload_n 0, 1) := by decide +kernel
theorem dX4_readKeep_19 : decode cX4_readKeep 19 = .ok (.invokevirtual 80, 3) := by decide +kernel
theorem dX4_readKeep_22 : decode cX4_readKeep 22 = .ok (.aload_n 0, 1) := by decide +kernel
theorem dX4_readKeep_23 : decode cX4_readKeep 23 = .ok (.bipush 24, 2) := by decide +kernel
theorem dX4_readKeep_25 : decode cX4_readKeep 25 = .ok (.invokevirtual 93, 3) := by decide +kernel
theorem dX4_readKeep_28 : decode cX4_readKeep 28 = .ok (.aload_n 0, 1) := by decide +kernel
theorem dX4_readKeep_29 : decode cX4_readKeep 29 = .ok (.bipush 59, 2) := by decide +kernel
theorem dX4_readKeep_31 : decode cX4_readKeep 31 = .ok (.invokevirtual 90, 3) := by decide +kernel
theorem dX4_readKeep_34 : decode cX4_readKeep 34 = .ok (.return_, 1) := by decide +kernel
theorem dX4_readDepth_0 : decode cX4_readDepth 0 = .ok (.aload_n 0, 1) := by decide +kernel
theorem dX4_readDepth_1 : decode cX4_readDepth 1 = .ok (.getfield 67, 3) := by decide +kernel
theorem dX4_readDepth_4 : decode cX4_readDepth 4 = .ok (.ifCond .eq 9, 3) := by decide +kernel
theorem dX4_readDepth_7 : decode cX4_readDepth 7 = .ok (.aload_n 0, 1) := by decide +kernel
theorem dX4_readDepth_8 : decode cX4_readDepth 8 = .ok (.iconst 4, 1) := by decide +kernel
theorem dX4_readDepth_9 : decode cX4_readDepth 9 = .ok (.invokevirtual 50, 3) := by decide +kernel
theorem dX4_readDepth_12 : decode cX4_readDepth 12 = .ok (.return_, 1) := by decide +kernel
theorem dX4_readDepth_13 : decode cX4_readDepth 13 = .ok (.aload_n 0, 1) := by decide +kernel
theorem dX4_readDepth_14 : decode cX4_readDepth 14 = .ok (.iconst 1, 1) := by decide +kernel
theorem dX4_readDepth_15 : decode cX4_readDepth 15 = .ok (.putfield 67, 3) := by decide +kernel
theorem dX4_readDepth_18 : decode cX4_readDepth 18 = .ok (.aload_n 0, 1) := by decide +kernel
theorem dX4_readDepth_19 : decode cX4_readDepth 19 = .ok (.invokevirtual 80, 3) := by decide +kernel
theorem dX4_readDepth_22 : decode cX4_readDepth 22 = .ok (.aload_n 0, 1) := by decide +kernel
theorem dX4_readDepth_23 : decode cX4_readDepth 23 = .ok (.getfield 21, 3) := by decide +kernel
theorem dX4_readDepth_26 : decode cX4_readDepth 26 = .ok (.aload_n 0, 1) := by decide +kernel
theorem dX4_readDepth_27 : decode cX4_readDepth 27 = .ok (.iconst 1, 1) := by decide +kernel
theorem dX4_readDepth_28 : decode cX4_readDepth 28 = .ok (.sipush 400, 3) := by decide +kernel
theorem dX4_readDepth_31 : decode cX4_readDepth 31 = .ok (.invokevirtual 96, 3) := by decide +kernel
theorem dX4_readDepth_34 : decode cX4_readDepth 34 = .ok (.putfield 61, 3) := by decide +kernel
theorem dX4_readDepth_37 : decode cX4_readDepth 37 = .ok (.aload_n 0, 1) := by decide +kernel
theorem dX4_readDepth_38 : decode cX4_readDepth 38 = .ok (.bipush 59, 2) := by decide +kernel
theorem dX4_readDepth_40 : decode cX4_readDepth 40 = .ok (.invokevirtual 90, 3) := by decide +kernel
theorem dX4_readDepth_43 : decode cX4_readDepth 43 = .ok (.return_, 1) := by decide +kernel
theorem dX4_readAhead_0 : decode cX4_readAhead 0 = .ok (.aload_n 0, 1) := by decide +kernel
theorem dX4_readAhead_1 : decode cX4_readAhead 1 = .ok (.getfield 71, 3) := by decide +kernel
theorem dX4_readAhead_4 : decode cX4_readAhead 4 = .ok (.ifCond .eq 9, 3) := by decide +kernel
theorem dX4_readAhead_7 : decode cX4_readAhead 7 = .ok (.aload_n 0, 1) := by decide +kernel
theorem dX4_readAhead_8 : decode cX4_readAhead 8 = .ok (.iconst 4, 1) := by decide +kernel
theorem dX4_readAhead_9 : decode cX4_readAhead 9 = .ok (.invokevirtual 50, 3) := by decide +kernel
theorem dX4_readAhead_12 : decode cX4_readAhead 12 = .ok (.return_, 1) := by decide +kernel
theorem dX4_readAhead_13 : decode cX4_readAhead 13 = .ok (.aload_n 0, 1) := by decide +kernel
theorem dX4_readAhead_14 : decode cX4_readAhead 14 = .ok (.iconst 1, 1) := by decide +kernel
theorem dX4_readAhead_15 : decode cX4_readAhead 15 = .ok (.putfield 71, 3) := by decide +kernel
theorem dX4_readAhead_18 : decode cX4_readAhead 18 = .ok (.aload_n 0, 1) := by decide +kernel
theorem dX4_readAhead_19 : decode cX4_readAhead 19 = .ok (.invokevirtual 80, 3) := by decide +kernel
theorem dX4_readAhead_22 : decode cX4_readAhead 22 = .ok (.aload_n 0, 1) := by decide +kernel
theorem dX4_readAhead_23 : decode cX4_readAhead 23 = .ok (.getfield 21, 3) := by decide +kernel
theorem dX4_readAhead_26 : decode cX4_readAhead 26 = .ok (.aload_n 0, 1) := by decide +kernel
theorem dX4_readAhead_27 : decode cX4_readAhead 27 = .ok (.iconst 0, 1) := by decide +kernel
theorem dX4_readAhead_28 : decode cX4_readAhead 28 = .ok (.sipush 399, 3) := by decide +kernel
theorem dX4_readAhead_31 : decode cX4_readAhead 31 = .ok (.invokevirtual 96, 3) := by decide +kernel
theorem dX4_readAhead_34 : decode cX4_readAhead 34 = .ok (.putfield 58, 3) := by decide +kernel
theorem dX4_readAhead_37 : decode cX4_readAhead 37 = .ok (.aload_n 0, 1) := by decide +kernel
theorem dX4_readAhead_38 : decode cX4_readAhead 38 = .ok (.bipush 59, 2) := by decide +kernel
theorem dX4_readAhead_40 : decode cX4_readAhead 40 = .ok (.invokevirtual 90, 3) := by decide +kernel
theorem dX4_readAhead_43 : decode cX4_readAhead 43 = .ok (.return_, 1) := by decide +kernel
theorem dX4_readCondition_0 : decode cX4_readCondition 0 = .ok (.iconst 0, 1) := by decide +kernel
theorem dX4_readCondition_1 : decode cX4_readCondition 1 = .ok (.istore_n 2, 1) := by decide +kernel
theorem dX4_readCondition_2 : decode cX4_readCondition 2 = .ok (.iload_n 2, 1) := by decide +kernel
theorem dX4_readCondition_3 : decode cX4_readCondition 3 = .ok (.iconst 3, 1) := by decide +kernel
theorem dX4_readCondition_4 : decode cX4_readCondition 4 = .ok (.if_icmp .ge 83, 3) := by decide +kernel
theorem dX4_readCondition_7 : decode cX4_readCondition 7 = .ok (.iload_n 2, 1) := by decide +kernel
theorem dX4_readCondition_8 : decode cX4_readCondition 8 = .ok (.ifCond .le 7, 3) := by decide +kernel
theorem dX4_readCondition_11 : decode cX4_readCondition 11 = .ok (.aload_n 0, 1) := by decide +kernel
theorem dX4_readCondition_12 : decode cX4_readCondition 12 = .ok (.invokevirtual 80, 3) := by decide +kernel
theorem dX4_readCondition_15 : decode cX4_readCondition 15 = .ok (.aload_n 0, 1) := by decide +kernel
theorem dX4_readCondition_16 : decode cX4_readCondition 16 = .ok (.getfield 32, 3) := by decide +kernel
theorem dX4_readCondition_19 : decode cX4_readCondition 19 = .ok (.bipush 20, 2) := by decide +kernel
theorem dX4_readCondition_21 : decode cX4_readCondition 21 = .ok (.isub, 1) := by decide +kernel
theorem dX4_readCondition_22 : decode cX4_readCondition 22 = .ok (.istore_n 3, 1) := by decide +kernel
theorem dX4_readCondition_23 : decode cX4_readCondition 23 = .ok (.iload_n 3, 1) := by decide +kernel
theorem dX4_readCondition_24 : decode cX4_readCondition 24 = .ok (.ifCond .lt 9, 3) := by decide +kernel
theorem dX4_readCondition_27 : decode cX4_readCondition 27 = .ok (.iload_n 3, 1) := by decide +kernel
theorem dX4_readCondition_28 : decode cX4_readCondition 28 = .ok (.bipush 6, 2) := by decide +kernel
theorem dX4_readCondition_30 : decode cX4_readCondition 30 = .ok (.if_icmp .le 9, 3) := by decide +kernel
theorem dX4_readCondition_33 : decode cX4_readCondition 33 = .ok (.aload_n 0, 1) := by decide +kernel
theorem dX4_readCondition_34 : decode cX4_readCondition 34 = .ok (.iconst 2, 1) := by decide +kernel
theorem dX4_readCondition_35 : decode cX4_readCondition 35 = .ok (.invokevirtual 50, 3) := by decide +kernel
theorem dX4_readCondition_38 : decode cX4_readCondition 38 = .ok (.return_, 1) := by decide +kernel
theorem dX4_readCondition_39 : decode cX4_readCondition 39 = .ok (.aload_n 0, 1) := by decide +kernel
theorem dX4_readCondition_40 : decode cX4_readCondition 40 = .ok (.invokevirtual 80, 3) := by decide +kernel
theorem dX4_readCondition_43 : decode cX4_readCondition 43 = .ok (.aload_n 0, 1) := by decide +kernel
theorem dX4_readCondition_44 : decode cX4_readCondition 44 = .ok (.getfield 21, 3) := by decide +kernel
theorem dX4_readCondition_47 : decode cX4_readCondition 47 = .ok (.iload_n 1, 1) := by decide +kernel
theorem dX4_readCondition_48 : decode cX4_readCondition 48 = .ok (.iload_n 3, 1) := by decide +kernel
theorem dX4_readCondition_49 : decode cX4_readCondition 49 = .ok (.aload_n 0, 1) := by decide +kernel
theorem dX4_readCondition_50 : decode cX4_readCondition 50 = .ok (.iload_n 3, 1) := by decide +kernel
theorem dX4_readCondition_51 : decode cX4_readCondition 51 = .ok (.bipush 6, 2) := by decide +kernel
theorem dX4_readCondition_53 : decode cX4_readCondition 53 = .ok (.if_icmp .ne 7, 3) := by decide +kernel
theorem dX4_readCondition_56 : decode cX4_readCondition 56 = .ok (.iconst 1, 1) := by decide +kernel
theorem dX4_readCondition_57 : decode cX4_readCondition 57 = .ok (.goto 4, 3) := by decide +kernel
theorem dX4_readCondition_60 : decode cX4_readCondition 60 = .ok (.iconst 0, 1) := by decide +kernel
theorem dX4_readCondition_61 : decode cX4_readCondition 61 = .ok (.iload_n 3, 1) := by decide +kernel
theorem dX4_readCondition_62 : decode cX4_readCondition 62 = .ok (.invokestatic 108, 3) := by decide +kernel
theorem dX4_readCondition_65 : decode cX4_readCondition 65 = .ok (.invokevirtual 96, 3) := by decide +kernel
theorem dX4_readCondition_68 : decode cX4_readCondition 68 = .ok (.invokevirtual 111, 3) := by decide +kernel
theorem dX4_readCondition_71 : decode cX4_readCondition 71 = .ok (.aload_n 0, 1) := by decide +kernel
theorem dX4_readCondition_72 : decode cX4_readCondition 72 = .ok (.getfield 32, 3) := by decide +kernel
theorem dX4_readCondition_75 : decode cX4_readCondition 75 = .ok (.bipush 38, 2) := by decide +kernel
theorem dX4_readCondition_77 : decode cX4_readCondition 77 = .ok (.if_icmp .eq 4, 3) := by decide +kernel
theorem dX4_readCondition_80 : decode cX4_readCondition 80 = .ok (.return_, 1) := by decide +kernel
theorem dX4_readCondition_81 : decode cX4_readCondition 81 = .ok (.iinc 2 1, 3) := by decide +kernel
theorem dX4_readCondition_84 : decode cX4_readCondition 84 = .ok (.goto (-82), 3) := by decide +kernel
theorem dX4_readCondition_87 : decode cX4_readCondition 87 = .ok (.aload_n 0, 1) := by decide +kernel
theorem dX4_readCondition_88 : decode cX4_readCondition 88 = .ok (.iconst 5, 1) := by decide +kernel
theorem dX4_readCondition_89 : decode cX4_readCondition 89 = .ok (.invokevirtual 50, 3) := by decide +kernel
theorem dX4_readCondition_92 : decode cX4_readCondition 92 = .ok (.return_, 1) := by decide +kernel
theorem dX4_greatestOf_0 : decode cX4_greatestOf 0 = .ok (.iload_n 0, 1) := by decide +kernel
theorem dX4_greatestOf_1 : decode cX4_greatestOf 1 = .ok (.tableswitch 35 4 6 #[27, 27, 31], 27) := by decide +kernel
theorem dX4_greatestOf_28 : decode cX4_greatestOf 28 = .ok (.sipush 255, 3) := by decide +kernel
theorem dX4_greatestOf_31 : decode cX4_greatestOf 31 = .ok (.ireturn, 1) := by decide +kernel
theorem dX4_greatestOf_32 : decode cX4_greatestOf 32 = .ok (.sipush 999, 3) := by decide +kernel
theorem dX4_greatestOf_35 : decode cX4_greatestOf 35 = .ok (.ireturn, 1) := by decide +kernel
theorem dX4_greatestOf_36 : decode cX4_greatestOf 36 = .ok (.bipush 7, 2) := by decide +kernel
theorem dX4_greatestOf_38 : decode cX4_greatestOf 38 = .ok (.ireturn, 1) := by decide +kernel
theorem dX4_take_0 : decode cX4_take 0 = .ok (.aload_n 0, 1) := by decide +kernel
theorem dX4_take_1 : decode cX4_take 1 = .ok (.getfield 32, 3) := by decide +kernel
theorem dX4_take_4 : decode cX4_take 4 = .ok (.iload_n 1, 1) := by decide +kernel
theorem dX4_take_5 : decode cX4_take 5 = .ok (.if_icmp .ne 10, 3) := by decide +kernel
theorem dX4_take_8 : decode cX4_take 8 = .ok (.aload_n 0, 1) := by decide +kernel
theorem dX4_take_9 : decode cX4_take 9 = .ok (.invokevirtual 80, 3) := by decide +kernel
theorem dX4_take_12 : decode cX4_take 12 = .ok (.goto 8, 3) := by decide +kernel
theorem dX4_take_15 : decode cX4_take 15 = .ok (.aload_n 0, 1) := by decide +kernel
theorem dX4_take_16 : decode cX4_take 16 = .ok (.iconst 2, 1) := by decide +kernel
theorem dX4_take_17 : decode cX4_take 17 = .ok (.invokevirtual 50, 3) := by decide +kernel
theorem dX4_take_20 : decode cX4_take 20 = .ok (.return_, 1) := by decide +kernel
theorem dX4_takeNumber_0 : decode cX4_takeNumber 0 = .ok (.aload_n 0, 1) := by decide +kernel
theorem dX4_takeNumber_1 : decode cX4_takeNumber 1 = .ok (.getfield 32, 3) := by decide +kernel
theorem dX4_takeNumber_4 : decode cX4_takeNumber 4 = .ok (.iconst 2, 1) := by decide +kernel
theorem dX4_takeNumber_5 : decode cX4_takeNumber 5 = .ok (.if_icmp .eq 10, 3) := by decide +kernel
theorem dX4_takeNumber_8 : decode cX4_takeNumber 8 = .ok (.aload_n 0, 1) := by decide +kernel
theorem dX4_takeNumber_9 : decode cX4_takeNumber 9 = .ok (.iconst 2, 1) := by decide +kernel
theorem dX4_takeNumber_10 : decode cX4_takeNumber 10 = .ok (.invokevirtual 50, 3) := by decide +kernel
theorem dX4_takeNumber_13 : decode cX4_takeNumber 13 = .ok (.iconst 0, 1) := by decide +kernel
theorem dX4_takeNumber_14 : decode cX4_takeNumber 14 = .ok (.ireturn, 1) := by decide +kernel
theorem dX4_takeNumber_15 : decode cX4_takeNumber 15 = .ok (.aload_n 0, 1) := by decide +kernel
theorem dX4_takeNumber_16 : decode cX4_takeNumber 16 = .ok (.getfield 115, 3) := by decide +kernel
theorem dX4_takeNumber_19 : decode cX4_takeNumber 19 = .ok (.iload_n 1, 1) := by decide +kernel
theorem dX4_takeNumber_20 : decode cX4_takeNumber 20 = .ok (.if_icmp .lt 11, 3) := by decide +kernel
theorem dX4_takeNumber_23 : decode cX4_takeNumber 23 = .ok (.aload_n 0, 1) := by decide +kernel
theorem dX4_takeNumber_24 : decode cX4_takeNumber 24 = .ok (.getfield 115, 3) := by decide +kernel
theorem dX4_takeNumber_27 : decode cX4_takeNumber 27 = .ok (.iload_n 2, 1) := by decide +kernel
theorem dX4_takeNumber_28 : decode cX4_takeNumber 28 = .ok (.if_icmp .le 10, 3) := by decide +kernel
theorem dX4_takeNumber_31 : decode cX4_takeNumber 31 = .ok (.aload_n 0, 1) := by decide +kernel
theorem dX4_takeNumber_32 : decode cX4_takeNumber 32 = .ok (.iconst 3, 1) := by decide +kernel
theorem dX4_takeNumber_33 : decode cX4_takeNumber 33 = .ok (.invokevirtual 50, 3) := by decide +kernel
theorem dX4_takeNumber_36 : decode cX4_takeNumber 36 = .ok (.iconst 0, 1) := by decide +kernel
theorem dX4_takeNumber_37 : decode cX4_takeNumber 37 = .ok (.ireturn, 1) := by decide +kernel
theorem dX4_takeNumber_38 : decode cX4_takeNumber 38 = .ok (.aload_n 0, 1) := by decide +kernel
theorem dX4_takeNumber_39 : decode cX4_takeNumber 39 = .ok (.getfield 115, 3) := by decide +kernel
theorem dX4_takeNumber_42 : decode cX4_takeNumber 42 = .ok (.istore_n 3, 1) := by decide +kernel
theorem dX4_takeNumber_43 : decode cX4_takeNumber 43 = .ok (.aload_n 0, 1) := by decide +kernel
theorem dX4_takeNumber_44 : decode cX4_takeNumber 44 = .ok (.invokevirtual 80, 3) := by decide +kernel
theorem dX4_takeNumber_47 : decode cX4_takeNumber 47 = .ok (.iload_n 3, 1) := by decide +kernel
theorem dX4_takeNumber_48 : decode cX4_takeNumber 48 = .ok (.ireturn, 1) := by decide +kernel
theorem dX4_advance_0 : decode cX4_advance 0 = .ok (.aload_n 0, 1) := by decide +kernel
theorem dX4_advance_1 : decode cX4_advance 1 = .ok (.dup, 1) := by decide +kernel
theorem dX4_advance_2 : decode cX4_advance 2 = .ok (.getfield 77, 3) := by decide +kernel
theorem dX4_advance_5 : decode cX4_advance 5 = .ok (.iconst 1, 1) := by decide +kernel
theorem dX4_advance_6 : decode cX4_advance 6 = .ok (.iadd, 1) := by decide +kernel
theorem dX4_advance_7 : decode cX4_advance 7 = .ok (.putfield 77, 3) := by decide +kernel
theorem dX4_advance_10 : decode cX4_advance 10 = .ok (.aload_n 0, 1) := by decide +kernel
theorem dX4_advance_11 : decode cX4_advance 11 = .ok (.getfield 28, 3) := by decide +kernel
theorem dX4_advance_14 : decode cX4_advance 14 = .ok (.ifCond .ne 65, 3) := by decide +kernel
theorem dX4_advance_17 : decode cX4_advance 17 = .ok (.aload_n 0, 1) := by decide +kernel
theorem dX4_advance_18 : decode cX4_advance 18 = .ok (.getfield 77, 3) := by decide +kernel
theorem dX4_advance_21 : decode cX4_advance 21 = .ok (.aload_n 0, 1) := by decide +kernel
theorem dX4_advance_22 : decode cX4_advance 22 = .ok (.getfield 12, 3) := by decide +kernel
theorem dX4_advance_25 : decode cX4_advance 25 = .ok (.getfield 118, 3) := by decide +kernel
theorem dX4_advance_28 : decode cX4_advance 28 = .ok (.if_icmp .ge 51, 3) := by decide +kernel
theorem dX4_advance_31 : decode cX4_advance 31 = .ok (.aload_n 0, 1) := by decide +kernel
theorem dX4_advance_32 : decode cX4_advance 32 = .ok (.aload_n 0, 1) := by decide +kernel
theorem dX4_advance_33 : decode cX4_advance 33 = .ok (.getfield 12, 3) := by decide +kernel
theorem dX4_advance_36 : decode cX4_advance 36 = .ok (.getfield 121, 3) := by decide +kernel
theorem dX4_advance_39 : decode cX4_advance 39 = .ok (.aload_n 0, 1) := by decide +kernel
theorem dX4_advance_40 : decode cX4_advance 40 = .ok (.getfield 77, 3) := by decide +kernel
theorem dX4_advance_43 : decode cX4_advance 43 = .ok (.iaload, 1) := by decide +kernel
theorem dX4_advance_44 : decode cX4_advance 44 = .ok (.putfield 32, 3) := by decide +kernel
theorem dX4_advance_47 : decode cX4_advance 47 = .ok (.aload_n 0, 1) := by decide +kernel
theorem dX4_advance_48 : decode cX4_advance 48 = .ok (.aload_n 0, 1) := by decide +kernel
theorem dX4_advance_49 : decode cX4_advance 49 = .ok (.getfield 12, 3) := by decide +kernel
theorem dX4_advance_52 : decode cX4_advance 52 = .ok (.getfield 125, 3) := by decide +kernel
theorem dX4_advance_55 : decode cX4_advance 55 = .ok (.aload_n 0, 1) := by decide +kernel
theorem dX4_advance_56 : decode cX4_advance 56 = .ok (.getfield 77, 3) := by decide +kernel
theorem dX4_advance_59 : decode cX4_advance 59 = .ok (.iaload, 1) := by decide +kernel
theorem dX4_advance_60 : decode cX4_advance 60 = .ok (.putfield 128, 3) := by decide +kernel
theorem dX4_advance_63 : decode cX4_advance 63 = .ok (.aload_n 0, 1) := by decide +kernel
theorem dX4_advance_64 : decode cX4_advance 64 = .ok (.aload_n 0, 1) := by decide +kernel
theorem dX4_advance_65 : decode cX4_advance 65 = .ok (.getfield 12, 3) := by decide +kernel
theorem dX4_advance_68 : decode cX4_advance 68 = .ok (.getfield 131, 3) := by decide +kernel
theorem dX4_advance_71 : decode cX4_advance 71 = .ok (.aload_n 0, 1) := by decide +kernel
theorem dX4_advance_72 : decode cX4_advance 72 = .ok (.getfield 77, 3) := by decide +kernel
theorem dX4_advance_75 : decode cX4_advance 75 = .ok (.iaload, 1) := by decide +kernel
theorem dX4_advance_76 : decode cX4_advance 76 = .ok (.putfield 115, 3) := by decide +kernel
theorem dX4_advance_79 : decode cX4_advance 79 = .ok (.return_, 1) := by decide +kernel
theorem dX4_refuse_0 : decode cX4_refuse 0 = .ok (.aload_n 0, 1) := by decide +kernel
theorem dX4_refuse_1 : decode cX4_refuse 1 = .ok (.getfield 28, 3) := by decide +kernel
theorem dX4_refuse_4 : decode cX4_refuse 4 = .ok (.ifCond .ne 28, 3) := by decide +kernel
theorem dX4_refuse_7 : decode cX4_refuse 7 = .ok (.aload_n 0, 1) := by decide +kernel
theorem dX4_refuse_8 : decode cX4_refuse 8 = .ok (.aload_n 0, 1) := by decide +kernel
theorem dX4_refuse_9 : decode cX4_refuse 9 = .ok (.getfield 32, 3) := by decide +kernel
theorem dX4_refuse_12 : decode cX4_refuse 12 = .ok (.iconst 1, 1) := by decide +kernel
theorem dX4_refuse_13 : decode cX4_refuse 13 = .ok (.if_icmp .ne 7, 3) := by decide +kernel
theorem dX4_refuse_16 : decode cX4_refuse 16 = .ok (.iconst 1, 1) := by decide +kernel
theorem dX4_refuse_17 : decode cX4_refuse 17 = .ok (.goto 4, 3) := by decide +kernel
theorem dX4_refuse_20 : decode cX4_refuse 20 = .ok (.iload_n 1, 1) := by decide +kernel
theorem dX4_refuse_21 : decode cX4_refuse 21 = .ok (.putfield 28, 3) := by decide +kernel
theorem dX4_refuse_24 : decode cX4_refuse 24 = .ok (.aload_n 0, 1) := by decide +kernel
theorem dX4_refuse_25 : decode cX4_refuse 25 = .ok (.aload_n 0, 1) := by decide +kernel
theorem dX4_refuse_26 : decode cX4_refuse 26 = .ok (.getfield 128, 3) := by decide +kernel
theorem dX4_refuse_29 : decode cX4_refuse 29 = .ok (.putfield 74, 3) := by decide +kernel
theorem dX4_refuse_32 : decode cX4_refuse 32 = .ok (.aload_n 0, 1) := by decide +kernel
theorem dX4_refuse_33 : decode cX4_refuse 33 = .ok (.iconst 1, 1) := by decide +kernel
theorem dX4_refuse_34 : decode cX4_refuse 34 = .ok (.putfield 32, 3) := by decide +kernel
theorem dX4_refuse_37 : decode cX4_refuse 37 = .ok (.return_, 1) := by decide +kernel
theorem dX5_init_0 : decode cX5_init 0 = .ok (.aload_n 0, 1) := by decide +kernel
theorem dX5_init_1 : decode cX5_init 1 = .ok (.invokespecial 5, 3) := by decide +kernel
theorem dX5_init_4 : decode cX5_init 4 = .ok (.aload_n 0, 1) := by decide +kernel
theorem dX5_init_5 : decode cX5_init 5 = .ok (.bipush 8, 2) := by decide +kernel
theorem dX5_init_7 : decode cX5_init 7 = .ok (.newarray .int, 2) := by decide +kernel
theorem dX5_init_9 : decode cX5_init 9 = .ok (.putfield 11, 3) := by decide +kernel
theorem dX5_init_12 : decode cX5_init 12 = .ok (.aload_n 0, 1) := by decide +kernel
theorem dX5_init_13 : decode cX5_init 13 = .ok (.bipush 24, 2) := by decide +kernel
theorem dX5_init_15 : decode cX5_init 15 = .ok (.newarray .int, 2) := by decide +kernel
theorem dX5_init_17 : decode cX5_init 17 = .ok (.putfield 15, 3) := by decide +kernel
theorem dX5_init_20 : decode cX5_init 20 = .ok (.aload_n 0, 1) := by decide +kernel
theorem dX5_init_21 : decode cX5_init 21 = .ok (.bipush 24, 2) := by decide +kernel
theorem dX5_init_23 : decode cX5_init 23 = .ok (.newarray .int, 2) := by decide +kernel
theorem dX5_init_25 : decode cX5_init 25 = .ok (.putfield 18, 3) := by decide +kernel
theorem dX5_init_28 : decode cX5_init 28 = .ok (.aload_n 0, 1) := by decide +kernel
theorem dX5_init_29 : decode cX5_init 29 = .ok (.bipush 25, 2) := by decide +kernel
theorem dX5_init_31 : decode cX5_init 31 = .ok (.newarray .int, 2) := by decide +kernel
theorem dX5_init_33 : decode cX5_init 33 = .ok (.putfield 21, 3) := by decide +kernel
theorem dX5_init_36 : decode cX5_init 36 = .ok (.aload_n 0, 1) := by decide +kernel
theorem dX5_init_37 : decode cX5_init 37 = .ok (.bipush 75, 2) := by decide +kernel
theorem dX5_init_39 : decode cX5_init 39 = .ok (.newarray .int, 2) := by decide +kernel
theorem dX5_init_41 : decode cX5_init 41 = .ok (.putfield 24, 3) := by decide +kernel
theorem dX5_init_44 : decode cX5_init 44 = .ok (.aload_n 0, 1) := by decide +kernel
theorem dX5_init_45 : decode cX5_init 45 = .ok (.bipush 75, 2) := by decide +kernel
theorem dX5_init_47 : decode cX5_init 47 = .ok (.newarray .int, 2) := by decide +kernel
theorem dX5_init_49 : decode cX5_init 49 = .ok (.putfield 27, 3) := by decide +kernel
theorem dX5_init_52 : decode cX5_init 52 = .ok (.aload_n 0, 1) := by decide +kernel
theorem dX5_init_53 : decode cX5_init 53 = .ok (.bipush 100, 2) := by decide +kernel
theorem dX5_init_55 : decode cX5_init 55 = .ok (.putfield 30, 3) := by decide +kernel
theorem dX5_init_58 : decode cX5_init 58 = .ok (.return_, 1) := by decide +kernel
theorem dX5_forget_0 : decode cX5_forget 0 = .ok (.aload_n 0, 1) := by decide +kernel
theorem dX5_forget_1 : decode cX5_forget 1 = .ok (.iconst 0, 1) := by decide +kernel
theorem dX5_forget_2 : decode cX5_forget 2 = .ok (.putfield 34, 3) := by decide +kernel
theorem dX5_forget_5 : decode cX5_forget 5 = .ok (.aload_n 0, 1) := by decide +kernel
theorem dX5_forget_6 : decode cX5_forget 6 = .ok (.bipush 100, 2) := by decide +kernel
theorem dX5_forget_8 : decode cX5_forget 8 = .ok (.putfield 30, 3) := by decide +kernel
theorem dX5_forget_11 : decode cX5_forget 11 = .ok (.aload_n 0, 1) := by decide +kernel
theorem dX5_forget_12 : decode cX5_forget 12 = .ok (.iconst 0, 1) := by decide +kernel
theorem dX5_forget_13 : decode cX5_forget 13 = .ok (.putfield 37, 3) := by decide +kernel
theorem dX5_forget_16 : decode cX5_forget 16 = .ok (.aload_n 0, 1) := by decide +kernel
theorem dX5_forget_17 : decode cX5_forget 17 = .ok (.getfield 11, 3) := by decide +kernel
theorem dX5_forget_20 : decode cX5_forget 20 = .ok (.iconst 0, 1) := by decide +kernel
theorem dX5_forget_21 : decode cX5_forget 21 = .ok (.invokestatic 40, 3) := by decide +kernel
theorem dX5_forget_24 : decode cX5_forget 24 = .ok (.aload_n 0, 1) := by decide +kernel
theorem dX5_forget_25 : decode cX5_forget 25 = .ok (.getfield 21, 3) := by decide +kernel
theorem dX5_forget_28 : decode cX5_forget 28 = .ok (.iconst 0, 1) := by decide +kernel
theorem dX5_forget_29 : decode cX5_forget 29 = .ok (.invokestatic 40, 3) := by decide +kernel
theorem dX5_forget_32 : decode cX5_forget 32 = .ok (.return_, 1) := by decide +kernel
theorem dX5_branchCount_0 : decode cX5_branchCount 0 = .ok (.iload_n 1, 1) := by decide +kernel
theorem dX5_branchCount_1 : decode cX5_branchCount 1 = .ok (.ifCond .lt 26, 3) := by decide +kernel
theorem dX5_branchCount_4 : decode cX5_branchCount 4 = .ok (.iload_n 1, 1) := by decide +kernel
theorem dX5_branchCount_5 : decode cX5_branchCount 5 = .ok (.aload_n 0, 1) := by decide +kernel
theorem dX5_branchCount_6 : decode cX5_branchCount 6 = .ok (.getfield 34, 3) := by decide +kernel
theorem dX5_branchCount_9 : decode cX5_branchCount 9 = .ok (.if_icmp .ge 18, 3) := by decide +kernel
theorem dX5_branchCount_12 : decode cX5_branchCount 12 = .ok (.iload_n 1, 1) := by decide +kernel
theorem dX5_branchCount_13 : decode cX5_branchCount 13 = .ok (.bipush 8, 2) := by decide +kernel
theorem dX5_branchCount_15 : decode cX5_branchCount 15 = .ok (.if_icmp .ge 12, 3) := by decide +kernel
theorem dX5_branchCount_18 : decode cX5_branchCount 18 = .ok (.aload_n 0, 1) := by decide +kernel
theorem dX5_branchCount_19 : decode cX5_branchCount 19 = .ok (.getfield 11, 3) := by decide +kernel
theorem dX5_branchCount_22 : decode cX5_branchCount 22 = .ok (.iload_n 1, 1) := by decide +kernel
theorem dX5_branchCount_23 : decode cX5_branchCount 23 = .ok (.iaload, 1) := by decide +kernel
theorem dX5_branchCount_24 : decode cX5_branchCount 24 = .ok (.goto 4, 3) := by decide +kernel
theorem dX5_branchCount_27 : decode cX5_branchCount 27 = .ok (.iconst 0, 1) := by decide +kernel
theorem dX5_branchCount_28 : decode cX5_branchCount 28 = .ok (.ireturn, 1) := by decide +kernel
theorem dX5_branchPlace_0 : decode cX5_branchPlace 0 = .ok (.iload_n 2, 1) := by decide +kernel
theorem dX5_branchPlace_1 : decode cX5_branchPlace 1 = .ok (.ifCond .lt 20, 3) := by decide +kernel
theorem dX5_branchPlace_4 : decode cX5_branchPlace 4 = .ok (.iload_n 2, 1) := by decide +kernel
theorem dX5_branchPlace_5 : decode cX5_branchPlace 5 = .ok (.aload_n 0, 1) := by decide +kernel
theorem dX5_branchPlace_6 : decode cX5_branchPlace 6 = .ok (.iload_n 1, 1) := by decide +kernel
theorem dX5_branchPlace_7 : decode cX5_branchPlace 7 = .ok (.invokevirtual 46, 3) := by decide +kernel
theorem dX5_branchPlace_10 : decode cX5_branchPlace 10 = .ok (.if_icmp .ge 11, 3) := by decide +kernel
theorem dX5_branchPlace_13 : decode cX5_branchPlace 13 = .ok (.iload_n 1, 1) := by decide +kernel
theorem dX5_branchPlace_14 : decode cX5_branchPlace 14 = .ok (.iconst 3, 1) := by decide +kernel
theorem dX5_branchPlace_15 : decode cX5_branchPlace 15 = .ok (.imul, 1) := by decide +kernel
theorem dX5_branchPlace_16 : decode cX5_branchPlace 16 = .ok (.iload_n 2, 1) := by decide +kernel
theorem dX5_branchPlace_17 : decode cX5_branchPlace 17 = .ok (.iadd, 1) := by decide +kernel
theorem dX5_branchPlace_18 : decode cX5_branchPlace 18 = .ok (.goto 4, 3) := by decide +kernel
theorem dX5_branchPlace_21 : decode cX5_branchPlace 21 = .ok (.iconst (-1), 1) := by decide +kernel
theorem dX5_branchPlace_22 : decode cX5_branchPlace 22 = .ok (.ireturn, 1) := by decide +kernel
theorem dX5_timesOf_0 : decode cX5_timesOf 0 = .ok (.iload_n 1, 1) := by decide +kernel
theorem dX5_timesOf_1 : decode cX5_timesOf 1 = .ok (.ifCond .lt 18, 3) := by decide +kernel
theorem dX5_timesOf_4 : decode cX5_timesOf 4 = .ok (.iload_n 1, 1) := by decide +kernel
theorem dX5_timesOf_5 : decode cX5_timesOf 5 = .ok (.bipush 24, 2) := by decide +kernel
theorem dX5_timesOf_7 : decode cX5_timesOf 7 = .ok (.if_icmp .ge 12, 3) := by decide +kernel
theorem dX5_timesOf_10 : decode cX5_timesOf 10 = .ok (.aload_n 0, 1) := by decide +kernel
theorem dX5_timesOf_11 : decode cX5_timesOf 11 = .ok (.getfield 15, 3) := by decide +kernel
theorem dX5_timesOf_14 : decode cX5_timesOf 14 = .ok (.iload_n 1, 1) := by decide +kernel
theorem dX5_timesOf_15 : decode cX5_timesOf 15 = .ok (.iaload, 1) := by decide +kernel
theorem dX5_timesOf_16 : decode cX5_timesOf 16 = .ok (.goto 4, 3) := by decide +kernel
theorem dX5_timesOf_19 : decode cX5_timesOf 19 = .ok (.iconst 0, 1) := by decide +kernel
theorem dX5_timesOf_20 : decode cX5_timesOf 20 = .ok (.ireturn, 1) := by decide +kernel
theorem dX5_targetOf_0 : decode cX5_targetOf 0 = .ok (.iload_n 1, 1) := by decide +kernel
theorem dX5_targetOf_1 : decode cX5_targetOf 1 = .ok (.ifCond .lt 18, 3) := by decide +kernel
theorem dX5_targetOf_4 : decode cX5_targetOf 4 = .ok (.iload_n 1, 1) := by decide +kernel
theorem dX5_targetOf_5 : decode cX5_targetOf 5 = .ok (.bipush 24, 2) := by decide +kernel
theorem dX5_targetOf_7 : decode cX5_targetOf 7 = .ok (.if_icmp .ge 12, 3) := by decide +kernel
theorem dX5_targetOf_10 : decode cX5_targetOf 10 = .ok (.aload_n 0, 1) := by decide +kernel
theorem dX5_targetOf_11 : decode cX5_targetOf 11 = .ok (.getfield 18, 3) := by decide +kernel
theorem dX5_targetOf_14 : decode cX5_targetOf 14 = .ok (.iload_n 1, 1) := by decide +kernel
theorem dX5_targetOf_15 : decode cX5_targetOf 15 = .ok (.iaload, 1) := by decide +kernel
theorem dX5_targetOf_16 : decode cX5_targetOf 16 = .ok (.goto 4, 3) := by decide +kernel
theorem dX5_targetOf_19 : decode cX5_targetOf 19 = .ok (.iconst 0, 1) := by decide +kernel
theorem dX5_targetOf_20 : decode cX5_targetOf 20 = .ok (.ireturn, 1) := by decide +kernel
theorem dX5_termCount_0 : decode cX5_termCount 0 = .ok (.iload_n 1, 1) := by decide +kernel
theorem dX5_termCount_1 : decode cX5_termCount 1 = .ok (.ifCond .lt 18, 3) := by decide +kernel
theorem dX5_termCount_4 : decode cX5_termCount 4 = .ok (.iload_n 1, 1) := by decide +kernel
theorem dX5_termCount_5 : decode cX5_termCount 5 = .ok (.bipush 24, 2) := by decide +kernel
theorem dX5_termCount_7 : decode cX5_termCount 7 = .ok (.if_icmp .gt 12, 3) := by decide +kernel
theorem dX5_termCount_10 : decode cX5_termCount 10 = .ok (.aload_n 0, 1) := by decide +kernel
theorem dX5_termCount_11 : decode cX5_termCount 11 = .ok (.getfield 21, 3) := by decide +kernel
theorem dX5_termCount_14 : decode cX5_termCount 14 = .ok (.iload_n 1, 1) := by decide +kernel
theorem dX5_termCount_15 : decode cX5_termCount 15 = .ok (.iaload, 1) := by decide +kernel
theorem dX5_termCount_16 : decode cX5_termCount 16 = .ok (.goto 4, 3) := by decide +kernel
theorem dX5_termCount_19 : decode cX5_termCount 19 = .ok (.iconst 0, 1) := by decide +kernel
theorem dX5_termCount_20 : decode cX5_termCount 20 = .ok (.ireturn, 1) := by decide +kernel
theorem dX5_termKind_0 : decode cX5_termKind 0 = .ok (.iload_n 2, 1) := by decide +kernel
theorem dX5_termKind_1 : decode cX5_termKind 1 = .ok (.ifCond .lt 25, 3) := by decide +kernel
theorem dX5_termKind_4 : decode cX5_termKind 4 = .ok (.iload_n 2, 1) := by decide +kernel
theorem dX5_termKind_5 : decode cX5_termKind 5 = .ok (.aload_n 0, 1) := by decide +kernel
theorem dX5_termKind_6 : decode cX5_termKind 6 = .ok (.iload_n 1, 1) := by decide +kernel
theorem dX5_termKind_7 : decode cX5_termKind 7 = .ok (.invokevirtual 50, 3) := by decide +kernel
theorem dX5_termKind_10 : decode cX5_termKind 10 = .ok (.if_icmp .ge 16, 3) := by decide +kernel
theorem dX5_termKind_13 : decode cX5_termKind 13 = .ok (.aload_n 0, 1) := by decide +kernel
theorem dX5_termKind_14 : decode cX5_termKind 14 = .ok (.getfield 24, 3) := by decide +kernel
theorem dX5_termKind_17 : decode cX5_termKind 17 = .ok (.iload_n 1, 1) := by decide +kernel
theorem dX5_termKind_18 : decode cX5_termKind 18 = .ok (.iconst 3, 1) := by decide +kernel
theorem dX5_termKind_19 : decode cX5_termKind 19 = .ok (.imul, 1) := by decide +kernel
theorem dX5_termKind_20 : decode cX5_termKind 20 = .ok (.iload_n 2, 1) := by decide +kernel
theorem dX5_termKind_21 : decode cX5_termKind 21 = .ok (.iadd, 1) := by decide +kernel
theorem dX5_termKind_22 : decode cX5_termKind 22 = .ok (.iaload, 1) := by decide +kernel
theorem dX5_termKind_23 : decode cX5_termKind 23 = .ok (.goto 4, 3) := by decide +kernel
theorem dX5_termKind_26 : decode cX5_termKind 26 = .ok (.iconst 0, 1) := by decide +kernel
theorem dX5_termKind_27 : decode cX5_termKind 27 = .ok (.ireturn, 1) := by decide +kernel
theorem dX5_termNumber_0 : decode cX5_termNumber 0 = .ok (.iload_n 2, 1) := by decide +kernel
theorem dX5_termNumber_1 : decode cX5_termNumber 1 = .ok (.ifCond .lt 25, 3) := by decide +kernel
theorem dX5_termNumber_4 : decode cX5_termNumber 4 = .ok (.iload_n 2, 1) := by decide +kernel
theorem dX5_termNumber_5 : decode cX5_termNumber 5 = .ok (.aload_n 0, 1) := by decide +kernel
theorem dX5_termNumber_6 : decode cX5_termNumber 6 = .ok (.iload_n 1, 1) := by decide +kernel
theorem dX5_termNumber_7 : decode cX5_termNumber 7 = .ok (.invokevirtual 50, 3) := by decide +kernel
theorem dX5_termNumber_10 : decode cX5_termNumber 10 = .ok (.if_icmp .ge 16, 3) := by decide +kernel
theorem dX5_termNumber_13 : decode cX5_termNumber 13 = .ok (.aload_n 0, 1) := by decide +kernel
theorem dX5_termNumber_14 : decode cX5_termNumber 14 = .ok (.getfield 27, 3) := by decide +kernel
theorem dX5_termNumber_17 : decode cX5_termNumber 17 = .ok (.iload_n 1, 1) := by decide +kernel
theorem dX5_termNumber_18 : decode cX5_termNumber 18 = .ok (.iconst 3, 1) := by decide +kernel
theorem dX5_termNumber_19 : decode cX5_termNumber 19 = .ok (.imul, 1) := by decide +kernel
theorem dX5_termNumber_20 : decode cX5_termNumber 20 = .ok (.iload_n 2, 1) := by decide +kernel
theorem dX5_termNumber_21 : decode cX5_termNumber 21 = .ok (.iadd, 1) := by decide +kernel
theorem dX5_termNumber_22 : decode cX5_termNumber 22 = .ok (.iaload, 1) := by decide +kernel
theorem dX5_termNumber_23 : decode cX5_termNumber 23 = .ok (.goto 4, 3) := by decide +kernel
theorem dX5_termNumber_26 : decode cX5_termNumber 26 = .ok (.iconst 0, 1) := by decide +kernel
theorem dX5_termNumber_27 : decode cX5_termNumber 27 = .ok (.ireturn, 1) := by decide +kernel
theorem dX5_addBranch_0 : decode cX5_addBranch 0 = .ok (.iload_n 1, 1) := by decide +kernel
theorem dX5_addBranch_1 : decode cX5_addBranch 1 = .ok (.ifCond .lt 50, 3) := by decide +kernel
theorem dX5_addBranch_4 : decode cX5_addBranch 4 = .ok (.iload_n 1, 1) := by decide +kernel
theorem dX5_addBranch_5 : decode cX5_addBranch 5 = .ok (.bipush 8, 2) := by decide +kernel
theorem dX5_addBranch_7 : decode cX5_addBranch 7 = .ok (.if_icmp .ge 44, 3) := by decide +kernel
theorem dX5_addBranch_10 : decode cX5_addBranch 10 = .ok (.iload_n 2, 1) := by decide +kernel
theorem dX5_addBranch_11 : decode cX5_addBranch 11 = .ok (.ifCond .lt 40, 3) := by decide +kernel
theorem dX5_addBranch_14 : decode cX5_addBranch 14 = .ok (.iload_n 2, 1) := by decide +kernel
theorem dX5_addBranch_15 : decode cX5_addBranch 15 = .ok (.iconst 3, 1) := by decide +kernel
theorem dX5_addBranch_16 : decode cX5_addBranch 16 = .ok (.if_icmp .ge 35, 3) := by decide +kernel
theorem dX5_addBranch_19 : decode cX5_addBranch 19 = .ok (.aload_n 0, 1) := by decide +kernel
theorem dX5_addBranch_20 : decode cX5_addBranch 20 = .ok (.getfield 15, 3) := by decide +kernel
theorem dX5_addBranch_23 : decode cX5_addBranch 23 = .ok (.iload_n 1, 1) := by decide +kernel
theorem dX5_addBranch_24 : decode cX5_addBranch 24 = .ok (.iconst 3, 1) := by decide +kernel
theorem dX5_addBranch_25 : decode cX5_addBranch 25 = .ok (.imul, 1) := by decide +kernel
theorem dX5_addBranch_26 : decode cX5_addBranch 26 = .ok (.iload_n 2, 1) := by decide +kernel
theorem dX5_addBranch_27 : decode cX5_addBranch 27 = .ok (.iadd, 1) := by decide +kernel
theorem dX5_addBranch_28 : decode cX5_addBranch 28 = .ok (.iload_n 3, 1) := by decide +kernel
theorem dX5_addBranch_29 : decode cX5_addBranch 29 = .ok (.iastore, 1) := by decide +kernel
theorem dX5_addBranch_30 : decode cX5_addBranch 30 = .ok (.aload_n 0, 1) := by decide +kernel
theorem dX5_addBranch_31 : decode cX5_addBranch 31 = .ok (.getfield 18, 3) := by decide +kernel
theorem dX5_addBranch_34 : decode cX5_addBranch 34 = .ok (.iload_n 1, 1) := by decide +kernel
theorem dX5_addBranch_35 : decode cX5_addBranch 35 = .ok (.iconst 3, 1) := by decide +kernel
theorem dX5_addBranch_36 : decode cX5_addBranch 36 = .ok (.imul, 1) := by decide +kernel
theorem dX5_addBranch_37 : decode cX5_addBranch 37 = .ok (.iload_n 2, 1) := by decide +kernel
theorem dX5_addBranch_38 : decode cX5_addBranch 38 = .ok (.iadd, 1) := by decide +kernel
theorem dX5_addBranch_39 : decode cX5_addBranch 39 = .ok (.iload 4, 2) := by decide +kernel
theorem dX5_addBranch_41 : decode cX5_addBranch 41 = .ok (.iastore, 1) := by decide +kernel
theorem dX5_addBranch_42 : decode cX5_addBranch 42 = .ok (.aload_n 0, 1) := by decide +kernel
theorem dX5_addBranch_43 : decode cX5_addBranch 43 = .ok (.getfield 11, 3) := by decide +kernel
theorem dX5_addBranch_46 : decode cX5_addBranch 46 = .ok (.iload_n 1, 1) := by decide +kernel
theorem dX5_addBranch_47 : decode cX5_addBranch 47 = .ok (.iload_n 2, 1) := by decide +kernel
theorem dX5_addBranch_48 : decode cX5_addBranch 48 = .ok (.iconst 1, 1) := by decide +kernel
theorem dX5_addBranch_49 : decode cX5_addBranch 49 = .ok (.iadd, 1) := by decide +kernel
theorem dX5_addBranch_50 : decode cX5_addBranch 50 = .ok (.iastore, 1) := by decide +kernel
theorem dX5_addBranch_51 : decode cX5_addBranch 51 = .ok (.return_, 1) := by decide +kernel
theorem dX5_addTerm_0 : decode cX5_addTerm 0 = .ok (.aload_n 0, 1) := by decide +kernel
theorem dX5_addTerm_1 : decode cX5_addTerm 1 = .ok (.iload_n 1, 1) := by decide +kernel
theorem dX5_addTerm_2 : decode cX5_addTerm 2 = .ok (.invokevirtual 50, 3) := by decide +kernel
theorem dX5_addTerm_5 : decode cX5_addTerm 5 = .ok (.istore 4, 2) := by decide +kernel
theorem dX5_addTerm_7 : decode cX5_addTerm 7 = .ok (.iload_n 1, 1) := by decide +kernel
theorem dX5_addTerm_8 : decode cX5_addTerm 8 = .ok (.ifCond .lt 49, 3) := by decide +kernel
theorem dX5_addTerm_11 : decode cX5_addTerm 11 = .ok (.iload_n 1, 1) := by decide +kernel
theorem dX5_addTerm_12 : decode cX5_addTerm 12 = .ok (.bipush 24, 2) := by decide +kernel
theorem dX5_addTerm_14 : decode cX5_addTerm 14 = .ok (.if_icmp .gt 43, 3) := by decide +kernel
theorem dX5_addTerm_17 : decode cX5_addTerm 17 = .ok (.iload 4, 2) := by decide +kernel
theorem dX5_addTerm_19 : decode cX5_addTerm 19 = .ok (.iconst 3, 1) := by decide +kernel
theorem dX5_addTerm_20 : decode cX5_addTerm 20 = .ok (.if_icmp .ge 37, 3) := by decide +kernel
theorem dX5_addTerm_23 : decode cX5_addTerm 23 = .ok (.aload_n 0, 1) := by decide +kernel
theorem dX5_addTerm_24 : decode cX5_addTerm 24 = .ok (.getfield 24, 3) := by decide +kernel
theorem dX5_addTerm_27 : decode cX5_addTerm 27 = .ok (.iload_n 1, 1) := by decide +kernel
theorem dX5_addTerm_28 : decode cX5_addTerm 28 = .ok (.iconst 3, 1) := by decide +kernel
theorem dX5_addTerm_29 : decode cX5_addTerm 29 = .ok (.imul, 1) := by decide +kernel
theorem dX5_addTerm_30 : decode cX5_addTerm 30 = .ok (.iload 4, 2) := by decide +kernel
theorem dX5_addTerm_32 : decode cX5_addTerm 32 = .ok (.iadd, 1) := by decide +kernel
theorem dX5_addTerm_33 : decode cX5_addTerm 33 = .ok (.iload_n 2, 1) := by decide +kernel
theorem dX5_addTerm_34 : decode cX5_addTerm 34 = .ok (.iastore, 1) := by decide +kernel
theorem dX5_addTerm_35 : decode cX5_addTerm 35 = .ok (.aload_n 0, 1) := by decide +kernel
theorem dX5_addTerm_36 : decode cX5_addTerm 36 = .ok (.getfield 27, 3) := by decide +kernel
theorem dX5_addTerm_39 : decode cX5_addTerm 39 = .ok (.iload_n 1, 1) := by decide +kernel
theorem dX5_addTerm_40 : decode cX5_addTerm 40 = .ok (.iconst 3, 1) := by decide +kernel
theorem dX5_addTerm_41 : decode cX5_addTerm 41 = .ok (.imul, 1) := by decide +kernel
theorem dX5_addTerm_42 : decode cX5_addTerm 42 = .ok (.iload 4, 2) := by decide +kernel
theorem dX5_addTerm_44 : decode cX5_addTerm 44 = .ok (.iadd, 1) := by decide +kernel
theorem dX5_addTerm_45 : decode cX5_addTerm 45 = .ok (.iload_n 3, 1) := by decide +kernel
theorem dX5_addTerm_46 : decode cX5_addTerm 46 = .ok (.iastore, 1) := by decide +kernel
theorem dX5_addTerm_47 : decode cX5_addTerm 47 = .ok (.aload_n 0, 1) := by decide +kernel
theorem dX5_addTerm_48 : decode cX5_addTerm 48 = .ok (.getfield 21, 3) := by decide +kernel
theorem dX5_addTerm_51 : decode cX5_addTerm 51 = .ok (.iload_n 1, 1) := by decide +kernel
theorem dX5_addTerm_52 : decode cX5_addTerm 52 = .ok (.iload 4, 2) := by decide +kernel
theorem dX5_addTerm_54 : decode cX5_addTerm 54 = .ok (.iconst 1, 1) := by decide +kernel
theorem dX5_addTerm_55 : decode cX5_addTerm 55 = .ok (.iadd, 1) := by decide +kernel
theorem dX5_addTerm_56 : decode cX5_addTerm 56 = .ok (.iastore, 1) := by decide +kernel
theorem dX5_addTerm_57 : decode cX5_addTerm 57 = .ok (.return_, 1) := by decide +kernel
theorem dX5_leadsNowhere_0 : decode cX5_leadsNowhere 0 = .ok (.iconst 0, 1) := by decide +kernel
theorem dX5_leadsNowhere_1 : decode cX5_leadsNowhere 1 = .ok (.istore_n 1, 1) := by decide +kernel
theorem dX5_leadsNowhere_2 : decode cX5_leadsNowhere 2 = .ok (.iload_n 1, 1) := by decide +kernel
theorem dX5_leadsNowhere_3 : decode cX5_leadsNowhere 3 = .ok (.aload_n 0, 1) := by decide +kernel
theorem dX5_leadsNowhere_4 : decode cX5_leadsNowhere 4 = .ok (.getfield 34, 3) := by decide +kernel
theorem dX5_leadsNowhere_7 : decode cX5_leadsNowhere 7 = .ok (.if_icmp .ge 53, 3) := by decide +kernel
theorem dX5_leadsNowhere_10 : decode cX5_leadsNowhere 10 = .ok (.iconst 0, 1) := by decide +kernel
theorem dX5_leadsNowhere_11 : decode cX5_leadsNowhere 11 = .ok (.istore_n 2, 1) := by decide +kernel
theorem dX5_leadsNowhere_12 : decode cX5_leadsNowhere 12 = .ok (.iload_n 2, 1) := by decide +kernel
theorem dX5_leadsNowhere_13 : decode cX5_leadsNowhere 13 = .ok (.aload_n 0, 1) := by decide +kernel
theorem dX5_leadsNowhere_14 : decode cX5_leadsNowhere 14 = .ok (.iload_n 1, 1) := by decide +kernel
theorem dX5_leadsNowhere_15 : decode cX5_leadsNowhere 15 = .ok (.invokevirtual 46, 3) := by decide +kernel
theorem dX5_leadsNowhere_18 : decode cX5_leadsNowhere 18 = .ok (.if_icmp .ge 36, 3) := by decide +kernel
theorem dX5_leadsNowhere_21 : decode cX5_leadsNowhere 21 = .ok (.aload_n 0, 1) := by decide +kernel
theorem dX5_leadsNowhere_22 : decode cX5_leadsNowhere 22 = .ok (.aload_n 0, 1) := by decide +kernel
theorem dX5_leadsNowhere_23 : decode cX5_leadsNowhere 23 = .ok (.iload_n 1, 1) := by decide +kernel
theorem dX5_leadsNowhere_24 : decode cX5_leadsNowhere 24 = .ok (.iload_n 2, 1) := by decide +kernel
theorem dX5_leadsNowhere_25 : decode cX5_leadsNowhere 25 = .ok (.invokevirtual 53, 3) := by decide +kernel
theorem dX5_leadsNowhere_28 : decode cX5_leadsNowhere 28 = .ok (.invokevirtual 57, 3) := by decide +kernel
theorem dX5_leadsNowhere_31 : decode cX5_leadsNowhere 31 = .ok (.istore_n 3, 1) := by decide +kernel
theorem dX5_leadsNowhere_32 : decode cX5_leadsNowhere 32 = .ok (.iload_n 3, 1) := by decide +kernel
theorem dX5_leadsNowhere_33 : decode cX5_leadsNowhere 33 = .ok (.bipush 8, 2) := by decide +kernel
theorem dX5_leadsNowhere_35 : decode cX5_leadsNowhere 35 = .ok (.if_icmp .eq 13, 3) := by decide +kernel
theorem dX5_leadsNowhere_38 : decode cX5_leadsNowhere 38 = .ok (.iload_n 3, 1) := by decide +kernel
theorem dX5_leadsNowhere_39 : decode cX5_leadsNowhere 39 = .ok (.aload_n 0, 1) := by decide +kernel
theorem dX5_leadsNowhere_40 : decode cX5_leadsNowhere 40 = .ok (.getfield 34, 3) := by decide +kernel
theorem dX5_leadsNowhere_43 : decode cX5_leadsNowhere 43 = .ok (.if_icmp .lt 5, 3) := by decide +kernel
theorem dX5_leadsNowhere_46 : decode cX5_leadsNowhere 46 = .ok (.iconst 1, 1) := by decide +kernel
theorem dX5_leadsNowhere_47 : decode cX5_leadsNowhere 47 = .ok (.ireturn, 1) := by decide +kernel
theorem dX5_leadsNowhere_48 : decode cX5_leadsNowhere 48 = .ok (.iinc 2 1, 3) := by decide +kernel
theorem dX5_leadsNowhere_51 : decode cX5_leadsNowhere 51 = .ok (.goto (-39), 3) := by decide +kernel
theorem dX5_leadsNowhere_54 : decode cX5_leadsNowhere 54 = .ok (.iinc 1 1, 3) := by decide +kernel
theorem dX5_leadsNowhere_57 : decode cX5_leadsNowhere 57 = .ok (.goto (-55), 3) := by decide +kernel
theorem dX5_leadsNowhere_60 : decode cX5_leadsNowhere 60 = .ok (.iconst 0, 1) := by decide +kernel
theorem dX5_leadsNowhere_61 : decode cX5_leadsNowhere 61 = .ok (.ireturn, 1) := by decide +kernel
theorem dX5_holds_0 : decode cX5_holds 0 = .ok (.iconst 0, 1) := by decide +kernel
theorem dX5_holds_1 : decode cX5_holds 1 = .ok (.istore 5, 2) := by decide +kernel
theorem dX5_holds_3 : decode cX5_holds 3 = .ok (.iload 5, 2) := by decide +kernel
theorem dX5_holds_5 : decode cX5_holds 5 = .ok (.aload_n 0, 1) := by decide +kernel
theorem dX5_holds_6 : decode cX5_holds 6 = .ok (.iload_n 1, 1) := by decide +kernel
theorem dX5_holds_7 : decode cX5_holds 7 = .ok (.invokevirtual 50, 3) := by decide +kernel
theorem dX5_holds_10 : decode cX5_holds 10 = .ok (.if_icmp .ge 35, 3) := by decide +kernel
theorem dX5_holds_13 : decode cX5_holds 13 = .ok (.aload_n 0, 1) := by decide +kernel
theorem dX5_holds_14 : decode cX5_holds 14 = .ok (.iload_n 1, 1) := by decide +kernel
theorem dX5_holds_15 : decode cX5_holds 15 = .ok (.iload 5, 2) := by decide +kernel
theorem dX5_holds_17 : decode cX5_holds 17 = .ok (.invokevirtual 60, 3) := by decide +kernel
theorem dX5_holds_20 : decode cX5_holds 20 = .ok (.aload_n 0, 1) := by decide +kernel
theorem dX5_holds_21 : decode cX5_holds 21 = .ok (.iload_n 1, 1) := by decide +kernel
theorem dX5_holds_22 : decode cX5_holds 22 = .ok (.iload 5, 2) := by decide +kernel
theorem dX5_holds_24 : decode cX5_holds 24 = .ok (.invokevirtual 63, 3) := by decide +kernel
theorem dX5_holds_27 : decode cX5_holds 27 = .ok (.aload_n 2, 1) := by decide +kernel
theorem dX5_holds_28 : decode cX5_holds 28 = .ok (.iload_n 3, 1) := by decide +kernel
theorem dX5_holds_29 : decode cX5_holds 29 = .ok (.iload 4, 2) := by decide +kernel
theorem dX5_holds_31 : decode cX5_holds 31 = .ok (.invokestatic 66, 3) := by decide +kernel
theorem dX5_holds_34 : decode cX5_holds 34 = .ok (.ifCond .ne 5, 3) := by decide +kernel
theorem dX5_holds_37 : decode cX5_holds 37 = .ok (.iconst 0, 1) := by decide +kernel
theorem dX5_holds_38 : decode cX5_holds 38 = .ok (.ireturn, 1) := by decide +kernel
theorem dX5_holds_39 : decode cX5_holds 39 = .ok (.iinc 5 1, 3) := by decide +kernel
theorem dX5_holds_42 : decode cX5_holds 42 = .ok (.goto (-39), 3) := by decide +kernel
theorem dX5_holds_45 : decode cX5_holds 45 = .ok (.iconst 1, 1) := by decide +kernel
theorem dX5_holds_46 : decode cX5_holds 46 = .ok (.ireturn, 1) := by decide +kernel
theorem dX5_termHolds_0 : decode cX5_termHolds 0 = .ok (.iload_n 0, 1) := by decide +kernel
theorem dX5_termHolds_1 : decode cX5_termHolds 1 = .ok (.tableswitch 105 0 5 #[39, 46, 61, 68, 75, 90], 39) := by decide +kernel
theorem dX5_termHolds_40 : decode cX5_termHolds 40 = .ok (.aload_n 2, 1) := by decide +kernel
theorem dX5_termHolds_41 : decode cX5_termHolds 41 = .ok (.iload_n 1, 1) := by decide +kernel
theorem dX5_termHolds_42 : decode cX5_termHolds 42 = .ok (.iload_n 3, 1) := by decide +kernel
theorem dX5_termHolds_43 : decode cX5_termHolds 43 = .ok (.invokevirtual 70, 3) := by decide +kernel
theorem dX5_termHolds_46 : decode cX5_termHolds 46 = .ok (.ireturn, 1) := by decide +kernel
theorem dX5_termHolds_47 : decode cX5_termHolds 47 = .ok (.aload_n 2, 1) := by decide +kernel
theorem dX5_termHolds_48 : decode cX5_termHolds 48 = .ok (.iload_n 1, 1) := by decide +kernel
theorem dX5_termHolds_49 : decode cX5_termHolds 49 = .ok (.iload_n 3, 1) := by decide +kernel
theorem dX5_termHolds_50 : decode cX5_termHolds 50 = .ok (.invokevirtual 70, 3) := by decide +kernel
theorem dX5_termHolds_53 : decode cX5_termHolds 53 = .ok (.ifCond .ne 7, 3) := by decide +kernel
theorem dX5_termHolds_56 : decode cX5_termHolds 56 = .ok (.iconst 1, 1) := by decide +kernel
theorem dX5_termHolds_57 : decode cX5_termHolds 57 = .ok (.goto 4, 3) := by decide +kernel
theorem dX5_termHolds_60 : decode cX5_termHolds 60 = .ok (.iconst 0, 1) := by decide +kernel
theorem dX5_termHolds_61 : decode cX5_termHolds 61 = .ok (.ireturn, 1) := by decide +kernel
theorem dX5_termHolds_62 : decode cX5_termHolds 62 = .ok (.aload_n 2, 1) := by decide +kernel
theorem dX5_termHolds_63 : decode cX5_termHolds 63 = .ok (.iload_n 1, 1) := by decide +kernel
theorem dX5_termHolds_64 : decode cX5_termHolds 64 = .ok (.iload_n 3, 1) := by decide +kernel
theorem dX5_termHolds_65 : decode cX5_termHolds 65 = .ok (.invokevirtual 76, 3) := by decide +kernel
theorem dX5_termHolds_68 : decode cX5_termHolds 68 = .ok (.ireturn, 1) := by decide +kernel
theorem dX5_termHolds_69 : decode cX5_termHolds 69 = .ok (.aload_n 2, 1) := by decide +kernel
theorem dX5_termHolds_70 : decode cX5_termHolds 70 = .ok (.iload_n 1, 1) := by decide +kernel
theorem dX5_termHolds_71 : decode cX5_termHolds 71 = .ok (.iload_n 3, 1) := by decide +kernel
theorem dX5_termHolds_72 : decode cX5_termHolds 72 = .ok (.invokevirtual 79, 3) := by decide +kernel
theorem dX5_termHolds_75 : decode cX5_termHolds 75 = .ok (.ireturn, 1) := by decide +kernel
theorem dX5_termHolds_76 : decode cX5_termHolds 76 = .ok (.aload_n 2, 1) := by decide +kernel
theorem dX5_termHolds_77 : decode cX5_termHolds 77 = .ok (.iload_n 3, 1) := by decide +kernel
theorem dX5_termHolds_78 : decode cX5_termHolds 78 = .ok (.invokevirtual 82, 3) := by decide +kernel
theorem dX5_termHolds_81 : decode cX5_termHolds 81 = .ok (.iload_n 1, 1) := by decide +kernel
theorem dX5_termHolds_82 : decode cX5_termHolds 82 = .ok (.if_icmp .ne 7, 3) := by decide +kernel
theorem dX5_termHolds_85 : decode cX5_termHolds 85 = .ok (.iconst 1, 1) := by decide +kernel
theorem dX5_termHolds_86 : decode cX5_termHolds 86 = .ok (.goto 4, 3) := by decide +kernel
theorem dX5_termHolds_89 : decode cX5_termHolds 89 = .ok (.iconst 0, 1) := by decide +kernel
theorem dX5_termHolds_90 : decode cX5_termHolds 90 = .ok (.ireturn, 1) := by decide +kernel
theorem dX5_termHolds_91 : decode cX5_termHolds 91 = .ok (.aload_n 2, 1) := by decide +kernel
theorem dX5_termHolds_92 : decode cX5_termHolds 92 = .ok (.iload_n 3, 1) := by decide +kernel
theorem dX5_termHolds_93 : decode cX5_termHolds 93 = .ok (.invokevirtual 82, 3) := by decide +kernel
theorem dX5_termHolds_96 : decode cX5_termHolds 96 = .ok (.iload_n 1, 1) := by decide +kernel
theorem dX5_termHolds_97 : decode cX5_termHolds 97 = .ok (.if_icmp .eq 7, 3) := by decide +kernel
theorem dX5_termHolds_100 : decode cX5_termHolds 100 = .ok (.iconst 1, 1) := by decide +kernel
theorem dX5_termHolds_101 : decode cX5_termHolds 101 = .ok (.goto 4, 3) := by decide +kernel
theorem dX5_termHolds_104 : decode cX5_termHolds 104 = .ok (.iconst 0, 1) := by decide +kernel
theorem dX5_termHolds_105 : decode cX5_termHolds 105 = .ok (.ireturn, 1) := by decide +kernel
theorem dX5_termHolds_106 : decode cX5_termHolds 106 = .ok (.iload 4, 2) := by decide +kernel
theorem dX5_termHolds_108 : decode cX5_termHolds 108 = .ok (.iload_n 1, 1) := by decide +kernel
theorem dX5_termHolds_109 : decode cX5_termHolds 109 = .ok (.if_icmp .lt 7, 3) := by decide +kernel
theorem dX5_termHolds_112 : decode cX5_termHolds 112 = .ok (.iconst 1, 1) := by decide +kernel
theorem dX5_termHolds_113 : decode cX5_termHolds 113 = .ok (.goto 4, 3) := by decide +kernel
theorem dX5_termHolds_116 : decode cX5_termHolds 116 = .ok (.iconst 0, 1) := by decide +kernel
theorem dX5_termHolds_117 : decode cX5_termHolds 117 = .ok (.ireturn, 1) := by decide +kernel
theorem dX6_init_0 : decode cX6_init 0 = .ok (.aload_n 0, 1) := by decide +kernel
theorem dX6_init_1 : decode cX6_init 1 = .ok (.invokespecial 3, 3) := by decide +kernel
theorem dX6_init_4 : decode cX6_init 4 = .ok (.aload_n 0, 1) := by decide +kernel
theorem dX6_init_5 : decode cX6_init 5 = .ok (.bipush 40, 2) := by decide +kernel
theorem dX6_init_7 : decode cX6_init 7 = .ok (.newarray .int, 2) := by decide +kernel
theorem dX6_init_9 : decode cX6_init 9 = .ok (.putfield 9, 3) := by decide +kernel
theorem dX6_init_12 : decode cX6_init 12 = .ok (.aload_n 0, 1) := by decide +kernel
theorem dX6_init_13 : decode cX6_init 13 = .ok (.iconst (-1), 1) := by decide +kernel
theorem dX6_init_14 : decode cX6_init 14 = .ok (.putfield 15, 3) := by decide +kernel
theorem dX6_init_17 : decode cX6_init 17 = .ok (.return_, 1) := by decide +kernel
theorem dX6_isNothing_0 : decode cX6_isNothing 0 = .ok (.aload_n 0, 1) := by decide +kernel
theorem dX6_isNothing_1 : decode cX6_isNothing 1 = .ok (.getfield 15, 3) := by decide +kernel
theorem dX6_isNothing_4 : decode cX6_isNothing 4 = .ok (.iconst (-1), 1) := by decide +kernel
theorem dX6_isNothing_5 : decode cX6_isNothing 5 = .ok (.if_icmp .ne 7, 3) := by decide +kernel
theorem dX6_isNothing_8 : decode cX6_isNothing 8 = .ok (.iconst 1, 1) := by decide +kernel
theorem dX6_isNothing_9 : decode cX6_isNothing 9 = .ok (.goto 4, 3) := by decide +kernel
theorem dX6_isNothing_12 : decode cX6_isNothing 12 = .ok (.iconst 0, 1) := by decide +kernel
theorem dX6_isNothing_13 : decode cX6_isNothing 13 = .ok (.ireturn, 1) := by decide +kernel
theorem dX6_has_0 : decode cX6_has 0 = .ok (.iload_n 1, 1) := by decide +kernel
theorem dX6_has_1 : decode cX6_has 1 = .ok (.ifCond .lt 15, 3) := by decide +kernel
theorem dX6_has_4 : decode cX6_has 4 = .ok (.iload_n 1, 1) := by decide +kernel
theorem dX6_has_5 : decode cX6_has 5 = .ok (.aload_n 0, 1) := by decide +kernel
theorem dX6_has_6 : decode cX6_has 6 = .ok (.getfield 15, 3) := by decide +kernel
theorem dX6_has_9 : decode cX6_has 9 = .ok (.if_icmp .ge 7, 3) := by decide +kernel
theorem dX6_has_12 : decode cX6_has 12 = .ok (.iconst 1, 1) := by decide +kernel
theorem dX6_has_13 : decode cX6_has 13 = .ok (.goto 4, 3) := by decide +kernel
theorem dX6_has_16 : decode cX6_has 16 = .ok (.iconst 0, 1) := by decide +kernel
theorem dX6_has_17 : decode cX6_has 17 = .ok (.ireturn, 1) := by decide +kernel
theorem dX6_cell_0 : decode cX6_cell 0 = .ok (.aload_n 0, 1) := by decide +kernel
theorem dX6_cell_1 : decode cX6_cell 1 = .ok (.iload_n 1, 1) := by decide +kernel
theorem dX6_cell_2 : decode cX6_cell 2 = .ok (.invokevirtual 19, 3) := by decide +kernel
theorem dX6_cell_5 : decode cX6_cell 5 = .ok (.ifCond .eq 12, 3) := by decide +kernel
theorem dX6_cell_8 : decode cX6_cell 8 = .ok (.aload_n 0, 1) := by decide +kernel
theorem dX6_cell_9 : decode cX6_cell 9 = .ok (.getfield 9, 3) := by decide +kernel
theorem dX6_cell_12 : decode cX6_cell 12 = .ok (.iload_n 1, 1) := by decide +kernel
theorem dX6_cell_13 : decode cX6_cell 13 = .ok (.iaload, 1) := by decide +kernel
theorem dX6_cell_14 : decode cX6_cell 14 = .ok (.goto 4, 3) := by decide +kernel
theorem dX6_cell_17 : decode cX6_cell 17 = .ok (.iconst 0, 1) := by decide +kernel
theorem dX6_cell_18 : decode cX6_cell 18 = .ok (.ireturn, 1) := by decide +kernel
theorem dX6_renew_0 : decode cX6_renew 0 = .ok (.aload_n 0, 1) := by decide +kernel
theorem dX6_renew_1 : decode cX6_renew 1 = .ok (.iload_n 1, 1) := by decide +kernel
theorem dX6_renew_2 : decode cX6_renew 2 = .ok (.putfield 23, 3) := by decide +kernel
theorem dX6_renew_5 : decode cX6_renew 5 = .ok (.aload_n 0, 1) := by decide +kernel
theorem dX6_renew_6 : decode cX6_renew 6 = .ok (.iconst 0, 1) := by decide +kernel
theorem dX6_renew_7 : decode cX6_renew 7 = .ok (.iload_n 2, 1) := by decide +kernel
theorem dX6_renew_8 : decode cX6_renew 8 = .ok (.bipush 40, 2) := by decide +kernel
theorem dX6_renew_10 : decode cX6_renew 10 = .ok (.invokestatic 26, 3) := by decide +kernel
theorem dX6_renew_13 : decode cX6_renew 13 = .ok (.invokestatic 32, 3) := by decide +kernel
theorem dX6_renew_16 : decode cX6_renew 16 = .ok (.putfield 15, 3) := by decide +kernel
theorem dX6_renew_19 : decode cX6_renew 19 = .ok (.aload_n 0, 1) := by decide +kernel
theorem dX6_renew_20 : decode cX6_renew 20 = .ok (.getfield 9, 3) := by decide +kernel
theorem dX6_renew_23 : decode cX6_renew 23 = .ok (.iconst 0, 1) := by decide +kernel
theorem dX6_renew_24 : decode cX6_renew 24 = .ok (.invokestatic 35, 3) := by decide +kernel
theorem dX6_renew_27 : decode cX6_renew 27 = .ok (.return_, 1) := by decide +kernel
theorem dX6_write_0 : decode cX6_write 0 = .ok (.aload_n 0, 1) := by decide +kernel
theorem dX6_write_1 : decode cX6_write 1 = .ok (.iload_n 1, 1) := by decide +kernel
theorem dX6_write_2 : decode cX6_write 2 = .ok (.invokevirtual 19, 3) := by decide +kernel
theorem dX6_write_5 : decode cX6_write 5 = .ok (.ifCond .ne 4, 3) := by decide +kernel
theorem dX6_write_8 : decode cX6_write 8 = .ok (.return_, 1) := by decide +kernel
theorem dX6_write_9 : decode cX6_write 9 = .ok (.aload_n 0, 1) := by decide +kernel
theorem dX6_write_10 : decode cX6_write 10 = .ok (.getfield 23, 3) := by decide +kernel
theorem dX6_write_13 : decode cX6_write 13 = .ok (.lookupswitch 49 #[(0, 27), (1, 38)], 27) := by decide +kernel
theorem dX6_write_40 : decode cX6_write 40 = .ok (.aload_n 0, 1) := by decide +kernel
theorem dX6_write_41 : decode cX6_write 41 = .ok (.getfield 9, 3) := by decide +kernel
theorem dX6_write_44 : decode cX6_write 44 = .ok (.iload_n 1, 1) := by decide +kernel
theorem dX6_write_45 : decode cX6_write 45 = .ok (.iload_n 2, 1) := by decide +kernel
theorem dX6_write_46 : decode cX6_write 46 = .ok (.i2b, 1) := by decide +kernel
theorem dX6_write_47 : decode cX6_write 47 = .ok (.iastore, 1) := by decide +kernel
theorem dX6_write_48 : decode cX6_write 48 = .ok (.goto 21, 3) := by decide +kernel
theorem dX6_write_51 : decode cX6_write 51 = .ok (.aload_n 0, 1) := by decide +kernel
theorem dX6_write_52 : decode cX6_write 52 = .ok (.getfield 9, 3) := by decide +kernel
theorem dX6_write_55 : decode cX6_write 55 = .ok (.iload_n 1, 1) := by decide +kernel
theorem dX6_write_56 : decode cX6_write 56 = .ok (.iload_n 2, 1) := by decide +kernel
theorem dX6_write_57 : decode cX6_write 57 = .ok (.i2s, 1) := by decide +kernel
theorem dX6_write_58 : decode cX6_write 58 = .ok (.iastore, 1) := by decide +kernel
theorem dX6_write_59 : decode cX6_write 59 = .ok (.goto 10, 3) := by decide +kernel
theorem dX6_write_62 : decode cX6_write 62 = .ok (.aload_n 0, 1) := by decide +kernel
theorem dX6_write_63 : decode cX6_write 63 = .ok (.getfield 9, 3) := by decide +kernel
theorem dX6_write_66 : decode cX6_write 66 = .ok (.iload_n 1, 1) := by decide +kernel
theorem dX6_write_67 : decode cX6_write 67 = .ok (.iload_n 2, 1) := by decide +kernel
theorem dX6_write_68 : decode cX6_write 68 = .ok (.iastore, 1) := by decide +kernel
theorem dX6_write_69 : decode cX6_write 69 = .ok (.return_, 1) := by decide +kernel
theorem dX6_faultAs_0 : decode cX6_faultAs 0 = .ok (.aload_n 0, 1) := by decide +kernel
theorem dX6_faultAs_1 : decode cX6_faultAs 1 = .ok (.invokevirtual 41, 3) := by decide +kernel
theorem dX6_faultAs_4 : decode cX6_faultAs 4 = .ok (.ifCond .eq 5, 3) := by decide +kernel
theorem dX6_faultAs_7 : decode cX6_faultAs 7 = .ok (.iconst 1, 1) := by decide +kernel
theorem dX6_faultAs_8 : decode cX6_faultAs 8 = .ok (.ireturn, 1) := by decide +kernel
theorem dX6_faultAs_9 : decode cX6_faultAs 9 = .ok (.iload_n 1, 1) := by decide +kernel
theorem dX6_faultAs_10 : decode cX6_faultAs 10 = .ok (.aload_n 0, 1) := by decide +kernel
theorem dX6_faultAs_11 : decode cX6_faultAs 11 = .ok (.getfield 23, 3) := by decide +kernel
theorem dX6_faultAs_14 : decode cX6_faultAs 14 = .ok (.if_icmp .ne 7, 3) := by decide +kernel
theorem dX6_faultAs_17 : decode cX6_faultAs 17 = .ok (.iconst 0, 1) := by decide +kernel
theorem dX6_faultAs_18 : decode cX6_faultAs 18 = .ok (.goto 4, 3) := by decide +kernel
theorem dX6_faultAs_21 : decode cX6_faultAs 21 = .ok (.iconst 3, 1) := by decide +kernel
theorem dX6_faultAs_22 : decode cX6_faultAs 22 = .ok (.ireturn, 1) := by decide +kernel
theorem dX6_wholePairs_0 : decode cX6_wholePairs 0 = .ok (.aload_n 0, 1) := by decide +kernel
theorem dX6_wholePairs_1 : decode cX6_wholePairs 1 = .ok (.iload_n 1, 1) := by decide +kernel
theorem dX6_wholePairs_2 : decode cX6_wholePairs 2 = .ok (.invokevirtual 19, 3) := by decide +kernel
theorem dX6_wholePairs_5 : decode cX6_wholePairs 5 = .ok (.ifCond .eq 18, 3) := by decide +kernel
theorem dX6_wholePairs_8 : decode cX6_wholePairs 8 = .ok (.iload_n 2, 1) := by decide +kernel
theorem dX6_wholePairs_9 : decode cX6_wholePairs 9 = .ok (.aload_n 0, 1) := by decide +kernel
theorem dX6_wholePairs_10 : decode cX6_wholePairs 10 = .ok (.getfield 15, 3) := by decide +kernel
theorem dX6_wholePairs_13 : decode cX6_wholePairs 13 = .ok (.iload_n 1, 1) := by decide +kernel
theorem dX6_wholePairs_14 : decode cX6_wholePairs 14 = .ok (.isub, 1) := by decide +kernel
theorem dX6_wholePairs_15 : decode cX6_wholePairs 15 = .ok (.iconst 2, 1) := by decide +kernel
theorem dX6_wholePairs_16 : decode cX6_wholePairs 16 = .ok (.idiv, 1) := by decide +kernel
theorem dX6_wholePairs_17 : decode cX6_wholePairs 17 = .ok (.invokestatic 26, 3) := by decide +kernel
theorem dX6_wholePairs_20 : decode cX6_wholePairs 20 = .ok (.goto 4, 3) := by decide +kernel
theorem dX6_wholePairs_23 : decode cX6_wholePairs 23 = .ok (.iconst 0, 1) := by decide +kernel
theorem dX6_wholePairs_24 : decode cX6_wholePairs 24 = .ok (.ireturn, 1) := by decide +kernel
theorem dX7_init_0 : decode cX7_init 0 = .ok (.aload_n 0, 1) := by decide +kernel
theorem dX7_init_1 : decode cX7_init 1 = .ok (.invokespecial 3, 3) := by decide +kernel
theorem dX7_init_4 : decode cX7_init 4 = .ok (.aload_n 0, 1) := by decide +kernel
theorem dX7_init_5 : decode cX7_init 5 = .ok (.sipush 400, 3) := by decide +kernel
theorem dX7_init_8 : decode cX7_init 8 = .ok (.newarray .int, 2) := by decide +kernel
theorem dX7_init_10 : decode cX7_init 10 = .ok (.putfield 9, 3) := by decide +kernel
theorem dX7_init_13 : decode cX7_init 13 = .ok (.aload_n 0, 1) := by decide +kernel
theorem dX7_init_14 : decode cX7_init 14 = .ok (.sipush 401, 3) := by decide +kernel
theorem dX7_init_17 : decode cX7_init 17 = .ok (.newarray .int, 2) := by decide +kernel
theorem dX7_init_19 : decode cX7_init 19 = .ok (.putfield 15, 3) := by decide +kernel
theorem dX7_init_22 : decode cX7_init 22 = .ok (.aload_n 0, 1) := by decide +kernel
theorem dX7_init_23 : decode cX7_init 23 = .ok (.sipush 401, 3) := by decide +kernel
theorem dX7_init_26 : decode cX7_init 26 = .ok (.newarray .int, 2) := by decide +kernel
theorem dX7_init_28 : decode cX7_init 28 = .ok (.putfield 18, 3) := by decide +kernel
theorem dX7_init_31 : decode cX7_init 31 = .ok (.aload_n 0, 1) := by decide +kernel
theorem dX7_init_32 : decode cX7_init 32 = .ok (.sipush 401, 3) := by decide +kernel
theorem dX7_init_35 : decode cX7_init 35 = .ok (.newarray .int, 2) := by decide +kernel
theorem dX7_init_37 : decode cX7_init 37 = .ok (.putfield 21, 3) := by decide +kernel
theorem dX7_init_40 : decode cX7_init 40 = .ok (.return_, 1) := by decide +kernel
theorem dX7_append_0 : decode cX7_append 0 = .ok (.bipush 56, 2) := by decide +kernel
theorem dX7_append_2 : decode cX7_append 2 = .ok (.istore_n 3, 1) := by decide +kernel
theorem dX7_append_3 : decode cX7_append 3 = .ok (.iload_n 3, 1) := by decide +kernel
theorem dX7_append_4 : decode cX7_append 4 = .ok (.ifCond .lt 48, 3) := by decide +kernel
theorem dX7_append_7 : decode cX7_append 7 = .ok (.aload_n 0, 1) := by decide +kernel
theorem dX7_append_8 : decode cX7_append 8 = .ok (.getfield 24, 3) := by decide +kernel
theorem dX7_append_11 : decode cX7_append 11 = .ok (.aload_n 0, 1) := by decide +kernel
theorem dX7_append_12 : decode cX7_append 12 = .ok (.getfield 9, 3) := by decide +kernel
theorem dX7_append_15 : decode cX7_append 15 = .ok (.arraylength, 1) := by decide +kernel
theorem dX7_append_16 : decode cX7_append 16 = .ok (.if_icmp .ge 36, 3) := by decide +kernel
theorem dX7_append_19 : decode cX7_append 19 = .ok (.aload_n 0, 1) := by decide +kernel
theorem dX7_append_20 : decode cX7_append 20 = .ok (.getfield 9, 3) := by decide +kernel
theorem dX7_append_23 : decode cX7_append 23 = .ok (.aload_n 0, 1) := by decide +kernel
theorem dX7_append_24 : decode cX7_append 24 = .ok (.getfield 24, 3) := by decide +kernel
theorem dX7_append_27 : decode cX7_append 27 = .ok (.lload_n 1, 1) := by decide +kernel
theorem dX7_append_28 : decode cX7_append 28 = .ok (.iload_n 3, 1) := by decide +kernel
theorem dX7_append_29 : decode cX7_append 29 = .ok (.lshr, 1) := by decide +kernel
theorem dX7_append_30 : decode cX7_append 30 = .ok (.l2i, 1) := by decide +kernel
theorem dX7_append_31 : decode cX7_append 31 = .ok (.sipush 255, 3) := by decide +kernel
theorem dX7_append_34 : decode cX7_append 34 = .ok (.iand, 1) := by decide +kernel
theorem dX7_append_35 : decode cX7_append 35 = .ok (.iastore, 1) := by decide +kernel
theorem dX7_append_36 : decode cX7_append 36 = .ok (.aload_n 0, 1) := by decide +kernel
theorem dX7_append_37 : decode cX7_append 37 = .ok (.dup, 1) := by decide +kernel
theorem dX7_append_38 : decode cX7_append 38 = .ok (.getfield 24, 3) := by decide +kernel
theorem dX7_append_41 : decode cX7_append 41 = .ok (.iconst 1, 1) := by decide +kernel
theorem dX7_append_42 : decode cX7_append 42 = .ok (.iadd, 1) := by decide +kernel
theorem dX7_append_43 : decode cX7_append 43 = .ok (.putfield 24, 3) := by decide +kernel
theorem dX7_append_46 : decode cX7_append 46 = .ok (.iinc 3 (-8), 3) := by decide +kernel
theorem dX7_append_49 : decode cX7_append 49 = .ok (.goto (-46), 3) := by decide +kernel
theorem dX7_append_52 : decode cX7_append 52 = .ok (.return_, 1) := by decide +kernel
theorem dX7_split_0 : decode cX7_split 0 = .ok (.aload_n 0, 1) := by decide +kernel
theorem dX7_split_1 : decode cX7_split 1 = .ok (.iconst 0, 1) := by decide +kernel
theorem dX7_split_2 : decode cX7_split 2 = .ok (.putfield 28, 3) := by decide +kernel
theorem dX7_split_5 : decode cX7_split 5 = .ok (.aload_n 0, 1) := by decide +kernel
theorem dX7_split_6 : decode cX7_split 6 = .ok (.bipush 32, 2) := by decide +kernel
theorem dX7_split_8 : decode cX7_split 8 = .ok (.bipush 32, 2) := by decide +kernel
theorem dX7_split_10 : decode cX7_split 10 = .ok (.iconst 0, 1) := by decide +kernel
theorem dX7_split_11 : decode cX7_split 11 = .ok (.invokevirtual 31, 3) := by decide +kernel
theorem dX7_split_14 : decode cX7_split 14 = .ok (.istore_n 1, 1) := by decide +kernel
theorem dX7_split_15 : decode cX7_split 15 = .ok (.iconst 0, 1) := by decide +kernel
theorem dX7_split_16 : decode cX7_split 16 = .ok (.istore_n 2, 1) := by decide +kernel
theorem dX7_split_17 : decode cX7_split 17 = .ok (.iload_n 2, 1) := by decide +kernel
theorem dX7_split_18 : decode cX7_split 18 = .ok (.sipush 400, 3) := by decide +kernel
theorem dX7_split_21 : decode cX7_split 21 = .ok (.if_icmp .ge 71, 3) := by decide +kernel
theorem dX7_split_24 : decode cX7_split 24 = .ok (.iload_n 1, 1) := by decide +kernel
theorem dX7_split_25 : decode cX7_split 25 = .ok (.aload_n 0, 1) := by decide +kernel
theorem dX7_split_26 : decode cX7_split 26 = .ok (.getfield 24, 3) := by decide +kernel
theorem dX7_split_29 : decode cX7_split 29 = .ok (.if_icmp .ge 63, 3) := by decide +kernel
theorem dX7_split_32 : decode cX7_split 32 = .ok (.aload_n 0, 1) := by decide +kernel
theorem dX7_split_33 : decode cX7_split 33 = .ok (.iload_n 1, 1) := by decide +kernel
theorem dX7_split_34 : decode cX7_split 34 = .ok (.invokevirtual 35, 3) := by decide +kernel
theorem dX7_split_37 : decode cX7_split 37 = .ok (.istore_n 3, 1) := by decide +kernel
theorem dX7_split_38 : decode cX7_split 38 = .ok (.aload_n 0, 1) := by decide +kernel
theorem dX7_split_39 : decode cX7_split 39 = .ok (.iload_n 1, 1) := by decide +kernel
theorem dX7_split_40 : decode cX7_split 40 = .ok (.iload_n 3, 1) := by decide +kernel
theorem dX7_split_41 : decode cX7_split 41 = .ok (.invokevirtual 39, 3) := by decide +kernel
theorem dX7_split_44 : decode cX7_split 44 = .ok (.istore 4, 2) := by decide +kernel
theorem dX7_split_46 : decode cX7_split 46 = .ok (.aload_n 0, 1) := by decide +kernel
theorem dX7_split_47 : decode cX7_split 47 = .ok (.iload 4, 2) := by decide +kernel
theorem dX7_split_49 : decode cX7_split 49 = .ok (.iload_n 1, 1) := by decide +kernel
theorem dX7_split_50 : decode cX7_split 50 = .ok (.iload 4, 2) := by decide +kernel
theorem dX7_split_52 : decode cX7_split 52 = .ok (.iconst 2, 1) := by decide +kernel
theorem dX7_split_53 : decode cX7_split 53 = .ok (.if_icmp .ne 12, 3) := by decide +kernel
theorem dX7_split_56 : decode cX7_split 56 = .ok (.aload_n 0, 1) := by decide +kernel
theorem dX7_split_57 : decode cX7_split 57 = .ok (.iload_n 1, 1) := by decide +kernel
theorem dX7_split_58 : decode cX7_split 58 = .ok (.iload_n 3, 1) := by decide +kernel
theorem dX7_split_59 : decode cX7_split 59 = .ok (.invokevirtual 43, 3) := by decide +kernel
theorem dX7_split_62 : decode cX7_split 62 = .ok (.goto 4, 3) := by decide +kernel
theorem dX7_split_65 : decode cX7_split 65 = .ok (.iconst 0, 1) := by decide +kernel
theorem dX7_split_66 : decode cX7_split 66 = .ok (.invokevirtual 46, 3) := by decide +kernel
theorem dX7_split_69 : decode cX7_split 69 = .ok (.iload 4, 2) := by decide +kernel
theorem dX7_split_71 : decode cX7_split 71 = .ok (.iconst 1, 1) := by decide +kernel
theorem dX7_split_72 : decode cX7_split 72 = .ok (.if_icmp .ne 4, 3) := by decide +kernel
theorem dX7_split_75 : decode cX7_split 75 = .ok (.return_, 1) := by decide +kernel
theorem dX7_split_76 : decode cX7_split 76 = .ok (.aload_n 0, 1) := by decide +kernel
theorem dX7_split_77 : decode cX7_split 77 = .ok (.bipush 32, 2) := by decide +kernel
theorem dX7_split_79 : decode cX7_split 79 = .ok (.bipush 32, 2) := by decide +kernel
theorem dX7_split_81 : decode cX7_split 81 = .ok (.iload_n 3, 1) := by decide +kernel
theorem dX7_split_82 : decode cX7_split 82 = .ok (.invokevirtual 31, 3) := by decide +kernel
theorem dX7_split_85 : decode cX7_split 85 = .ok (.istore_n 1, 1) := by decide +kernel
theorem dX7_split_86 : decode cX7_split 86 = .ok (.iinc 2 1, 3) := by decide +kernel
theorem dX7_split_89 : decode cX7_split 89 = .ok (.goto (-72), 3) := by decide +kernel
theorem dX7_split_92 : decode cX7_split 92 = .ok (.aload_n 0, 1) := by decide +kernel
theorem dX7_split_93 : decode cX7_split 93 = .ok (.iconst 0, 1) := by decide +kernel
theorem dX7_split_94 : decode cX7_split 94 = .ok (.aload_n 0, 1) := by decide +kernel
theorem dX7_split_95 : decode cX7_split 95 = .ok (.getfield 24, 3) := by decide +kernel
theorem dX7_split_98 : decode cX7_split 98 = .ok (.iconst 0, 1) := by decide +kernel
theorem dX7_split_99 : decode cX7_split 99 = .ok (.invokevirtual 46, 3) := by decide +kernel
theorem dX7_split_102 : decode cX7_split 102 = .ok (.return_, 1) := by decide +kernel
theorem dX7_addToken_0 : decode cX7_addToken 0 = .ok (.aload_n 0, 1) := by decide +kernel
theorem dX7_addToken_1 : decode cX7_addToken 1 = .ok (.getfield 28, 3) := by decide +kernel
theorem dX7_addToken_4 : decode cX7_addToken 4 = .ok (.aload_n 0, 1) := by decide +kernel
theorem dX7_addToken_5 : decode cX7_addToken 5 = .ok (.getfield 15, 3) := by decide +kernel
theorem dX7_addToken_8 : decode cX7_addToken 8 = .ok (.arraylength, 1) := by decide +kernel
theorem dX7_addToken_9 : decode cX7_addToken 9 = .ok (.if_icmp .ge 43, 3) := by decide +kernel
theorem dX7_addToken_12 : decode cX7_addToken 12 = .ok (.aload_n 0, 1) := by decide +kernel
theorem dX7_addToken_13 : decode cX7_addToken 13 = .ok (.getfield 15, 3) := by decide +kernel
theorem dX7_addToken_16 : decode cX7_addToken 16 = .ok (.aload_n 0, 1) := by decide +kernel
theorem dX7_addToken_17 : decode cX7_addToken 17 = .ok (.getfield 28, 3) := by decide +kernel
theorem dX7_addToken_20 : decode cX7_addToken 20 = .ok (.iload_n 1, 1) := by decide +kernel
theorem dX7_addToken_21 : decode cX7_addToken 21 = .ok (.iastore, 1) := by decide +kernel
theorem dX7_addToken_22 : decode cX7_addToken 22 = .ok (.aload_n 0, 1) := by decide +kernel
theorem dX7_addToken_23 : decode cX7_addToken 23 = .ok (.getfield 18, 3) := by decide +kernel
theorem dX7_addToken_26 : decode cX7_addToken 26 = .ok (.aload_n 0, 1) := by decide +kernel
theorem dX7_addToken_27 : decode cX7_addToken 27 = .ok (.getfield 28, 3) := by decide +kernel
theorem dX7_addToken_30 : decode cX7_addToken 30 = .ok (.iload_n 2, 1) := by decide +kernel
theorem dX7_addToken_31 : decode cX7_addToken 31 = .ok (.iastore, 1) := by decide +kernel
theorem dX7_addToken_32 : decode cX7_addToken 32 = .ok (.aload_n 0, 1) := by decide +kernel
theorem dX7_addToken_33 : decode cX7_addToken 33 = .ok (.getfield 21, 3) := by decide +kernel
theorem dX7_addToken_36 : decode cX7_addToken 36 = .ok (.aload_n 0, 1) := by decide +kernel
theorem dX7_addToken_37 : decode cX7_addToken 37 = .ok (.getfield 28, 3) := by decide +kernel
theorem dX7_addToken_40 : decode cX7_addToken 40 = .ok (.iload_n 3, 1) := by decide +kernel
theorem dX7_addToken_41 : decode cX7_addToken 41 = .ok (.iastore, 1) := by decide +kernel
theorem dX7_addToken_42 : decode cX7_addToken 42 = .ok (.aload_n 0, 1) := by decide +kernel
theorem dX7_addToken_43 : decode cX7_addToken 43 = .ok (.dup, 1) := by decide +kernel
theorem dX7_addToken_44 : decode cX7_addToken 44 = .ok (.getfield 28, 3) := by decide +kernel
theorem dX7_addToken_47 : decode cX7_addToken 47 = .ok (.iconst 1, 1) := by decide +kernel
theorem dX7_addToken_48 : decode cX7_addToken 48 = .ok (.iadd, 1) := by decide +kernel
theorem dX7_addToken_49 : decode cX7_addToken 49 = .ok (.putfield 28, 3) := by decide +kernel
theorem dX7_addToken_52 : decode cX7_addToken 52 = .ok (.return_, 1) := by decide +kernel
theorem dX7_byteAt_0 : decode cX7_byteAt 0 = .ok (.iload_n 1, 1) := by decide +kernel
theorem dX7_byteAt_1 : decode cX7_byteAt 1 = .ok (.ifCond .lt 20, 3) := by decide +kernel
theorem dX7_byteAt_4 : decode cX7_byteAt 4 = .ok (.iload_n 1, 1) := by decide +kernel
theorem dX7_byteAt_5 : decode cX7_byteAt 5 = .ok (.aload_n 0, 1) := by decide +kernel
theorem dX7_byteAt_6 : decode cX7_byteAt 6 = .ok (.getfield 24, 3) := by decide +kernel
theorem dX7_byteAt_9 : decode cX7_byteAt 9 = .ok (.if_icmp .ge 12, 3) := by decide +kernel
theorem dX7_byteAt_12 : decode cX7_byteAt 12 = .ok (.aload_n 0, 1) := by decide +kernel
theorem dX7_byteAt_13 : decode cX7_byteAt 13 = .ok (.getfield 9, 3) := by decide +kernel
theorem dX7_byteAt_16 : decode cX7_byteAt 16 = .ok (.iload_n 1, 1) := by decide +kernel
theorem dX7_byteAt_17 : decode cX7_byteAt 17 = .ok (.iaload, 1) := by decide +kernel
theorem dX7_byteAt_18 : decode cX7_byteAt 18 = .ok (.goto 4, 3) := by decide +kernel
theorem dX7_byteAt_21 : decode cX7_byteAt 21 = .ok (.iconst 0, 1) := by decide +kernel
theorem dX7_byteAt_22 : decode cX7_byteAt 22 = .ok (.ireturn, 1) := by decide +kernel
theorem dX7_behindAll_0 : decode cX7_behindAll 0 = .ok (.iload_n 3, 1) := by decide +kernel
theorem dX7_behindAll_1 : decode cX7_behindAll 1 = .ok (.istore 4, 2) := by decide +kernel
theorem dX7_behindAll_3 : decode cX7_behindAll 3 = .ok (.iload 4, 2) := by decide +kernel
theorem dX7_behindAll_5 : decode cX7_behindAll 5 = .ok (.aload_n 0, 1) := by decide +kernel
theorem dX7_behindAll_6 : decode cX7_behindAll 6 = .ok (.getfield 24, 3) := by decide +kernel
theorem dX7_behindAll_9 : decode cX7_behindAll 9 = .ok (.if_icmp .ge 32, 3) := by decide +kernel
theorem dX7_behindAll_12 : decode cX7_behindAll 12 = .ok (.aload_n 0, 1) := by decide +kernel
theorem dX7_behindAll_13 : decode cX7_behindAll 13 = .ok (.iload 4, 2) := by decide +kernel
theorem dX7_behindAll_15 : decode cX7_behindAll 15 = .ok (.invokevirtual 50, 3) := by decide +kernel
theorem dX7_behindAll_18 : decode cX7_behindAll 18 = .ok (.iload_n 1, 1) := by decide +kernel
theorem dX7_behindAll_19 : decode cX7_behindAll 19 = .ok (.if_icmp .lt 13, 3) := by decide +kernel
theorem dX7_behindAll_22 : decode cX7_behindAll 22 = .ok (.aload_n 0, 1) := by decide +kernel
theorem dX7_behindAll_23 : decode cX7_behindAll 23 = .ok (.iload 4, 2) := by decide +kernel
theorem dX7_behindAll_25 : decode cX7_behindAll 25 = .ok (.invokevirtual 50, 3) := by decide +kernel
theorem dX7_behindAll_28 : decode cX7_behindAll 28 = .ok (.iload_n 2, 1) := by decide +kernel
theorem dX7_behindAll_29 : decode cX7_behindAll 29 = .ok (.if_icmp .le 6, 3) := by decide +kernel
theorem dX7_behindAll_32 : decode cX7_behindAll 32 = .ok (.iload 4, 2) := by decide +kernel
theorem dX7_behindAll_34 : decode cX7_behindAll 34 = .ok (.ireturn, 1) := by decide +kernel
theorem dX7_behindAll_35 : decode cX7_behindAll 35 = .ok (.iinc 4 1, 3) := by decide +kernel
theorem dX7_behindAll_38 : decode cX7_behindAll 38 = .ok (.goto (-35), 3) := by decide +kernel
theorem dX7_behindAll_41 : decode cX7_behindAll 41 = .ok (.aload_n 0, 1) := by decide +kernel
theorem dX7_behindAll_42 : decode cX7_behindAll 42 = .ok (.getfield 24, 3) := by decide +kernel
theorem dX7_behindAll_45 : decode cX7_behindAll 45 = .ok (.ireturn, 1) := by decide +kernel
theorem dX7_behindToken_0 : decode cX7_behindToken 0 = .ok (.iload_n 1, 1) := by decide +kernel
theorem dX7_behindToken_1 : decode cX7_behindToken 1 = .ok (.iconst 1, 1) := by decide +kernel
theorem dX7_behindToken_2 : decode cX7_behindToken 2 = .ok (.iadd, 1) := by decide +kernel
theorem dX7_behindToken_3 : decode cX7_behindToken 3 = .ok (.aload_n 0, 1) := by decide +kernel
theorem dX7_behindToken_4 : decode cX7_behindToken 4 = .ok (.bipush 97, 2) := by decide +kernel
theorem dX7_behindToken_6 : decode cX7_behindToken 6 = .ok (.bipush 122, 2) := by decide +kernel
theorem dX7_behindToken_8 : decode cX7_behindToken 8 = .ok (.iload_n 1, 1) := by decide +kernel
theorem dX7_behindToken_9 : decode cX7_behindToken 9 = .ok (.invokevirtual 31, 3) := by decide +kernel
theorem dX7_behindToken_12 : decode cX7_behindToken 12 = .ok (.aload_n 0, 1) := by decide +kernel
theorem dX7_behindToken_13 : decode cX7_behindToken 13 = .ok (.bipush 48, 2) := by decide +kernel
theorem dX7_behindToken_15 : decode cX7_behindToken 15 = .ok (.bipush 57, 2) := by decide +kernel
theorem dX7_behindToken_17 : decode cX7_behindToken 17 = .ok (.iload_n 1, 1) := by decide +kernel
theorem dX7_behindToken_18 : decode cX7_behindToken 18 = .ok (.invokevirtual 31, 3) := by decide +kernel
theorem dX7_behindToken_21 : decode cX7_behindToken 21 = .ok (.invokestatic 53, 3) := by decide +kernel
theorem dX7_behindToken_24 : decode cX7_behindToken 24 = .ok (.invokestatic 53, 3) := by decide +kernel
theorem dX7_behindToken_27 : decode cX7_behindToken 27 = .ok (.ireturn, 1) := by decide +kernel
theorem dX7_tokenBetween_0 : decode cX7_tokenBetween 0 = .ok (.aload_n 0, 1) := by decide +kernel
theorem dX7_tokenBetween_1 : decode cX7_tokenBetween 1 = .ok (.iload_n 1, 1) := by decide +kernel
theorem dX7_tokenBetween_2 : decode cX7_tokenBetween 2 = .ok (.invokevirtual 50, 3) := by decide +kernel
theorem dX7_tokenBetween_5 : decode cX7_tokenBetween 5 = .ok (.istore_n 3, 1) := by decide +kernel
theorem dX7_tokenBetween_6 : decode cX7_tokenBetween 6 = .ok (.iload_n 3, 1) := by decide +kernel
theorem dX7_tokenBetween_7 : decode cX7_tokenBetween 7 = .ok (.bipush 97, 2) := by decide +kernel
theorem dX7_tokenBetween_9 : decode cX7_tokenBetween 9 = .ok (.if_icmp .lt 16, 3) := by decide +kernel
theorem dX7_tokenBetween_12 : decode cX7_tokenBetween 12 = .ok (.iload_n 3, 1) := by decide +kernel
theorem dX7_tokenBetween_13 : decode cX7_tokenBetween 13 = .ok (.bipush 122, 2) := by decide +kernel
theorem dX7_tokenBetween_15 : decode cX7_tokenBetween 15 = .ok (.if_icmp .gt 10, 3) := by decide +kernel
theorem dX7_tokenBetween_18 : decode cX7_tokenBetween 18 = .ok (.aload_n 0, 1) := by decide +kernel
theorem dX7_tokenBetween_19 : decode cX7_tokenBetween 19 = .ok (.iload_n 1, 1) := by decide +kernel
theorem dX7_tokenBetween_20 : decode cX7_tokenBetween 20 = .ok (.iload_n 2, 1) := by decide +kernel
theorem dX7_tokenBetween_21 : decode cX7_tokenBetween 21 = .ok (.invokevirtual 58, 3) := by decide +kernel
theorem dX7_tokenBetween_24 : decode cX7_tokenBetween 24 = .ok (.ireturn, 1) := by decide +kernel
theorem dX7_tokenBetween_25 : decode cX7_tokenBetween 25 = .ok (.iload_n 3, 1) := by decide +kernel
theorem dX7_tokenBetween_26 : decode cX7_tokenBetween 26 = .ok (.bipush 48, 2) := by decide +kernel
theorem dX7_tokenBetween_28 : decode cX7_tokenBetween 28 = .ok (.if_icmp .lt 22, 3) := by decide +kernel
theorem dX7_tokenBetween_31 : decode cX7_tokenBetween 31 = .ok (.iload_n 3, 1) := by decide +kernel
theorem dX7_tokenBetween_32 : decode cX7_tokenBetween 32 = .ok (.bipush 57, 2) := by decide +kernel
theorem dX7_tokenBetween_34 : decode cX7_tokenBetween 34 = .ok (.if_icmp .gt 16, 3) := by decide +kernel
theorem dX7_tokenBetween_37 : decode cX7_tokenBetween 37 = .ok (.iload_n 2, 1) := by decide +kernel
theorem dX7_tokenBetween_38 : decode cX7_tokenBetween 38 = .ok (.iload_n 1, 1) := by decide +kernel
theorem dX7_tokenBetween_39 : decode cX7_tokenBetween 39 = .ok (.isub, 1) := by decide +kernel
theorem dX7_tokenBetween_40 : decode cX7_tokenBetween 40 = .ok (.iconst 3, 1) := by decide +kernel
theorem dX7_tokenBetween_41 : decode cX7_tokenBetween 41 = .ok (.if_icmp .le 7, 3) := by decide +kernel
theorem dX7_tokenBetween_44 : decode cX7_tokenBetween 44 = .ok (.iconst 1, 1) := by decide +kernel
theorem dX7_tokenBetween_45 : decode cX7_tokenBetween 45 = .ok (.goto 4, 3) := by decide +kernel
theorem dX7_tokenBetween_48 : decode cX7_tokenBetween 48 = .ok (.iconst 2, 1) := by decide +kernel
theorem dX7_tokenBetween_49 : decode cX7_tokenBetween 49 = .ok (.ireturn, 1) := by decide +kernel
theorem dX7_tokenBetween_50 : decode cX7_tokenBetween 50 = .ok (.iload_n 3, 1) := by decide +kernel
theorem dX7_tokenBetween_51 : decode cX7_tokenBetween 51 = .ok (.bipush 59, 2) := by decide +kernel
theorem dX7_tokenBetween_53 : decode cX7_tokenBetween 53 = .ok (.if_icmp .eq 15, 3) := by decide +kernel
theorem dX7_tokenBetween_56 : decode cX7_tokenBetween 56 = .ok (.iload_n 3, 1) := by decide +kernel
theorem dX7_tokenBetween_57 : decode cX7_tokenBetween 57 = .ok (.bipush 124, 2) := by decide +kernel
theorem dX7_tokenBetween_59 : decode cX7_tokenBetween 59 = .ok (.if_icmp .eq 9, 3) := by decide +kernel
theorem dX7_tokenBetween_62 : decode cX7_tokenBetween 62 = .ok (.iload_n 3, 1) := by decide +kernel
theorem dX7_tokenBetween_63 : decode cX7_tokenBetween 63 = .ok (.bipush 38, 2) := by decide +kernel
theorem dX7_tokenBetween_65 : decode cX7_tokenBetween 65 = .ok (.if_icmp .ne 7, 3) := by decide +kernel
theorem dX7_tokenBetween_68 : decode cX7_tokenBetween 68 = .ok (.iload_n 3, 1) := by decide +kernel
theorem dX7_tokenBetween_69 : decode cX7_tokenBetween 69 = .ok (.goto 4, 3) := by decide +kernel
theorem dX7_tokenBetween_72 : decode cX7_tokenBetween 72 = .ok (.iconst 1, 1) := by decide +kernel
theorem dX7_tokenBetween_73 : decode cX7_tokenBetween 73 = .ok (.ireturn, 1) := by decide +kernel
theorem dX7_nameBetween_0 : decode cX7_nameBetween 0 = .ok (.aload_n 0, 1) := by decide +kernel
theorem dX7_nameBetween_1 : decode cX7_nameBetween 1 = .ok (.ldc 61, 2) := by decide +kernel
theorem dX7_nameBetween_3 : decode cX7_nameBetween 3 = .ok (.iload_n 1, 1) := by decide +kernel
theorem dX7_nameBetween_4 : decode cX7_nameBetween 4 = .ok (.iload_n 2, 1) := by decide +kernel
theorem dX7_nameBetween_5 : decode cX7_nameBetween 5 = .ok (.invokevirtual 63, 3) := by decide +kernel
theorem dX7_nameBetween_8 : decode cX7_nameBetween 8 = .ok (.ifCond .eq 5, 3) := by decide +kernel
theorem dX7_nameBetween_11 : decode cX7_nameBetween 11 = .ok (.iconst 4, 1) := by decide +kernel
theorem dX7_nameBetween_12 : decode cX7_nameBetween 12 = .ok (.ireturn, 1) := by decide +kernel
theorem dX7_nameBetween_13 : decode cX7_nameBetween 13 = .ok (.aload_n 0, 1) := by decide +kernel
theorem dX7_nameBetween_14 : decode cX7_nameBetween 14 = .ok (.ldc 67, 2) := by decide +kernel
theorem dX7_nameBetween_16 : decode cX7_nameBetween 16 = .ok (.iload_n 1, 1) := by decide +kernel
theorem dX7_nameBetween_17 : decode cX7_nameBetween 17 = .ok (.iload_n 2, 1) := by decide +kernel
theorem dX7_nameBetween_18 : decode cX7_nameBetween 18 = .ok (.invokevirtual 63, 3) := by decide +kernel
theorem dX7_nameBetween_21 : decode cX7_nameBetween 21 = .ok (.ifCond .eq 5, 3) := by decide +kernel
theorem dX7_nameBetween_24 : decode cX7_nameBetween 24 = .ok (.iconst 5, 1) := by decide +kernel
theorem dX7_nameBetween_25 : decode cX7_nameBetween 25 = .ok (.ireturn, 1) := by decide +kernel
theorem dX7_nameBetween_26 : decode cX7_nameBetween 26 = .ok (.aload_n 0, 1) := by decide +kernel
theorem dX7_nameBetween_27 : decode cX7_nameBetween 27 = .ok (.ldc 69, 2) := by decide +kernel
theorem dX7_nameBetween_29 : decode cX7_nameBetween 29 = .ok (.iload_n 1, 1) := by decide +kernel
theorem dX7_nameBetween_30 : decode cX7_nameBetween 30 = .ok (.iload_n 2, 1) := by decide +kernel
theorem dX7_nameBetween_31 : decode cX7_nameBetween 31 = .ok (.invokevirtual 63, 3) := by decide +kernel
theorem dX7_nameBetween_34 : decode cX7_nameBetween 34 = .ok (.ifCond .eq 6, 3) := by decide +kernel
theorem dX7_nameBetween_37 : decode cX7_nameBetween 37 = .ok (.bipush 6, 2) := by decide +kernel
theorem dX7_nameBetween_39 : decode cX7_nameBetween 39 = .ok (.ireturn, 1) := by decide +kernel
theorem dX7_nameBetween_40 : decode cX7_nameBetween 40 = .ok (.aload_n 0, 1) := by decide +kernel
theorem dX7_nameBetween_41 : decode cX7_nameBetween 41 = .ok (.ldc 71, 2) := by decide +kernel
theorem dX7_nameBetween_43 : decode cX7_nameBetween 43 = .ok (.iload_n 1, 1) := by decide +kernel
theorem dX7_nameBetween_44 : decode cX7_nameBetween 44 = .ok (.iload_n 2, 1) := by decide +kernel
theorem dX7_nameBetween_45 : decode cX7_nameBetween 45 = .ok (.invokevirtual 63, 3) := by decide +kernel
theorem dX7_nameBetween_48 : decode cX7_nameBetween 48 = .ok (.ifCond .eq 6, 3) := by decide +kernel
theorem dX7_nameBetween_51 : decode cX7_nameBetween 51 = .ok (.bipush 7, 2) := by decide +kernel
theorem dX7_nameBetween_53 : decode cX7_nameBetween 53 = .ok (.ireturn, 1) := by decide +kernel
theorem dX7_nameBetween_54 : decode cX7_nameBetween 54 = .ok (.aload_n 0, 1) := by decide +kernel
theorem dX7_nameBetween_55 : decode cX7_nameBetween 55 = .ok (.ldc 73, 2) := by decide +kernel
theorem dX7_nameBetween_57 : decode cX7_nameBetween 57 = .ok (.iload_n 1, 1) := by decide +kernel
theorem dX7_nameBetween_58 : decode cX7_nameBetween 58 = .ok (.iload_n 2, 1) := by decide +kernel
theorem dX7_nameBetween_59 : decode cX7_nameBetween 59 = .ok (.invokevirtual 63, 3) := by decide +kernel
theorem dX7_nameBetween_62 : decode cX7_nameBetween 62 = .ok (.ifCond .eq 6, 3) := by decide +kernel
theorem dX7_nameBetween_65 : decode cX7_nameBetween 65 = .ok (.bipush 8, 2) := by decide +kernel
theorem dX7_nameBetween_67 : decode cX7_nameBetween 67 = .ok (.ireturn, 1) := by decide +kernel
theorem dX7_nameBetween_68 : decode cX7_nameBetween 68 = .ok (.aload_n 0, 1) := by decide +kernel
theorem dX7_nameBetween_69 : decode cX7_nameBetween 69 = .ok (.ldc 75, 2) := by decide +kernel
theorem dX7_nameBetween_71 : decode cX7_nameBetween 71 = .ok (.iload_n 1, 1) := by decide +kernel
theorem dX7_nameBetween_72 : decode cX7_nameBetween 72 = .ok (.iload_n 2, 1) := by decide +kernel
theorem dX7_nameBetween_73 : decode cX7_nameBetween 73 = .ok (.invokevirtual 63, 3) := by decide +kernel
theorem dX7_nameBetween_76 : decode cX7_nameBetween 76 = .ok (.ifCond .eq 6, 3) := by decide +kernel
theorem dX7_nameBetween_79 : decode cX7_nameBetween 79 = .ok (.bipush 9, 2) := by decide +kernel
theorem dX7_nameBetween_81 : decode cX7_nameBetween 81 = .ok (.ireturn, 1) := by decide +kernel
theorem dX7_nameBetween_82 : decode cX7_nameBetween 82 = .ok (.aload_n 0, 1) := by decide +kernel
theorem dX7_nameBetween_83 : decode cX7_nameBetween 83 = .ok (.ldc 77, 2) := by decide +kernel
theorem dX7_nameBetween_85 : decode cX7_nameBetween 85 = .ok (.iload_n 1, 1) := by decide +kernel
theorem dX7_nameBetween_86 : decode cX7_nameBetween 86 = .ok (.iload_n 2, 1) := by decide +kernel
theorem dX7_nameBetween_87 : decode cX7_nameBetween 87 = .ok (.invokevirtual 63, 3) := by decide +kernel
theorem dX7_nameBetween_90 : decode cX7_nameBetween 90 = .ok (.ifCond .eq 6, 3) := by decide +kernel
theorem dX7_nameBetween_93 : decode cX7_nameBetween 93 = .ok (.bipush 10, 2) := by decide +kernel
theorem dX7_nameBetween_95 : decode cX7_nameBetween 95 = .ok (.ireturn, 1) := by decide +kernel
theorem dX7_nameBetween_96 : decode cX7_nameBetween 96 = .ok (.aload_n 0, 1) := by decide +kernel
theorem dX7_nameBetween_97 : decode cX7_nameBetween 97 = .ok (.iload_n 1, 1) := by decide +kernel
theorem dX7_nameBetween_98 : decode cX7_nameBetween 98 = .ok (.iload_n 2, 1) := by decide +kernel
theorem dX7_nameBetween_99 : decode cX7_nameBetween 99 = .ok (.invokevirtual 79, 3) := by decide +kernel
theorem dX7_nameBetween_102 : decode cX7_nameBetween 102 = .ok (.istore_n 3, 1) := by decide +kernel
theorem dX7_nameBetween_103 : decode cX7_nameBetween 103 = .ok (.iload_n 3, 1) := by decide +kernel
theorem dX7_nameBetween_104 : decode cX7_nameBetween 104 = .ok (.ifCond .ge 7, 3) := by decide +kernel
theorem dX7_nameBetween_107 : decode cX7_nameBetween 107 = .ok (.iconst 3, 1) := by decide +kernel
theorem dX7_nameBetween_108 : decode cX7_nameBetween 108 = .ok (.goto 7, 3) := by decide +kernel
theorem dX7_nameBetween_111 : decode cX7_nameBetween 111 = .ok (.bipush 20, 2) := by decide +kernel
theorem dX7_nameBetween_113 : decode cX7_nameBetween 113 = .ok (.iload_n 3, 1) := by decide +kernel
theorem dX7_nameBetween_114 : decode cX7_nameBetween 114 = .ok (.iadd, 1) := by decide +kernel
theorem dX7_nameBetween_115 : decode cX7_nameBetween 115 = .ok (.ireturn, 1) := by decide +kernel
theorem dX7_termBetween_0 : decode cX7_termBetween 0 = .ok (.aload_n 0, 1) := by decide +kernel
theorem dX7_termBetween_1 : decode cX7_termBetween 1 = .ok (.ldc 82, 2) := by decide +kernel
theorem dX7_termBetween_3 : decode cX7_termBetween 3 = .ok (.iload_n 1, 1) := by decide +kernel
theorem dX7_termBetween_4 : decode cX7_termBetween 4 = .ok (.iload_n 2, 1) := by decide +kernel
theorem dX7_termBetween_5 : decode cX7_termBetween 5 = .ok (.invokevirtual 63, 3) := by decide +kernel
theorem dX7_termBetween_8 : decode cX7_termBetween 8 = .ok (.ifCond .eq 5, 3) := by decide +kernel
theorem dX7_termBetween_11 : decode cX7_termBetween 11 = .ok (.iconst 0, 1) := by decide +kernel
theorem dX7_termBetween_12 : decode cX7_termBetween 12 = .ok (.ireturn, 1) := by decide +kernel
theorem dX7_termBetween_13 : decode cX7_termBetween 13 = .ok (.aload_n 0, 1) := by decide +kernel
theorem dX7_termBetween_14 : decode cX7_termBetween 14 = .ok (.ldc 86, 2) := by decide +kernel
theorem dX7_termBetween_16 : decode cX7_termBetween 16 = .ok (.iload_n 1, 1) := by decide +kernel
theorem dX7_termBetween_17 : decode cX7_termBetween 17 = .ok (.iload_n 2, 1) := by decide +kernel
theorem dX7_termBetween_18 : decode cX7_termBetween 18 = .ok (.invokevirtual 63, 3) := by decide +kernel
theorem dX7_termBetween_21 : decode cX7_termBetween 21 = .ok (.ifCond .eq 5, 3) := by decide +kernel
theorem dX7_termBetween_24 : decode cX7_termBetween 24 = .ok (.iconst 1, 1) := by decide +kernel
theorem dX7_termBetween_25 : decode cX7_termBetween 25 = .ok (.ireturn, 1) := by decide +kernel
theorem dX7_termBetween_26 : decode cX7_termBetween 26 = .ok (.aload_n 0, 1) := by decide +kernel
theorem dX7_termBetween_27 : decode cX7_termBetween 27 = .ok (.ldc 88, 2) := by decide +kernel
theorem dX7_termBetween_29 : decode cX7_termBetween 29 = .ok (.iload_n 1, 1) := by decide +kernel
theorem dX7_termBetween_30 : decode cX7_termBetween 30 = .ok (.iload_n 2, 1) := by decide +kernel
theorem dX7_termBetween_31 : decode cX7_termBetween 31 = .ok (.invokevirtual 63, 3) := by decide +kernel
theorem dX7_termBetween_34 : decode cX7_termBetween 34 = .ok (.ifCond .eq 5, 3) := by decide +kernel
theorem dX7_termBetween_37 : decode cX7_termBetween 37 = .ok (.iconst 2, 1) := by decide +kernel
theorem dX7_termBetween_38 : decode cX7_termBetween 38 = .ok (.ireturn, 1) := by decide +kernel
theorem dX7_termBetween_39 : decode cX7_termBetween 39 = .ok (.aload_n 0, 1) := by decide +kernel
theorem dX7_termBetween_40 : decode cX7_termBetween 40 = .ok (.ldc 90, 2) := by decide +kernel
theorem dX7_termBetween_42 : decode cX7_termBetween 42 = .ok (.iload_n 1, 1) := by decide +kernel
theorem dX7_termBetween_43 : decode cX7_termBetween 43 = .ok (.iload_n 2, 1) := by decide +kernel
theorem dX7_termBetween_44 : decode cX7_termBetween 44 = .ok (.invokevirtual 63, 3) := by decide +kernel
theorem dX7_termBetween_47 : decode cX7_termBetween 47 = .ok (.ifCond .eq 5, 3) := by decide +kernel
theorem dX7_termBetween_50 : decode cX7_termBetween 50 = .ok (.iconst 3, 1) := by decide +kernel
theorem dX7_termBetween_51 : decode cX7_termBetween 51 = .ok (.ireturn, 1) := by decide +kernel
theorem dX7_termBetween_52 : decode cX7_termBetween 52 = .ok (.aload_n 0, 1) := by decide +kernel
theorem dX7_termBetween_53 : decode cX7_termBetween 53 = .ok (.ldc 92, 2) := by decide +kernel
theorem dX7_termBetween_55 : decode cX7_termBetween 55 = .ok (.iload_n 1, 1) := by decide +kernel
theorem dX7_termBetween_56 : decode cX7_termBetween 56 = .ok (.iload_n 2, 1) := by decide +kernel
theorem dX7_termBetween_57 : decode cX7_termBetween 57 = .ok (.invokevirtual 63, 3) := by decide +kernel
theorem dX7_termBetween_60 : decode cX7_termBetween 60 = .ok (.ifCond .eq 5, 3) := by decide +kernel
theorem dX7_termBetween_63 : decode cX7_termBetween 63 = .ok (.iconst 4, 1) := by decide +kernel
theorem dX7_termBetween_64 : decode cX7_termBetween 64 = .ok (.ireturn, 1) := by decide +kernel
theorem dX7_termBetween_65 : decode cX7_termBetween 65 = .ok (.aload_n 0, 1) := by decide +kernel
theorem dX7_termBetween_66 : decode cX7_termBetween 66 = .ok (.ldc 94, 2) := by decide +kernel
theorem dX7_termBetween_68 : decode cX7_termBetween 68 = .ok (.iload_n 1, 1) := by decide +kernel
theorem dX7_termBetween_69 : decode cX7_termBetween 69 = .ok (.iload_n 2, 1) := by decide +kernel
theorem dX7_termBetween_70 : decode cX7_termBetween 70 = .ok (.invokevirtual 63, 3) := by decide +kernel
theorem dX7_termBetween_73 : decode cX7_termBetween 73 = .ok (.ifCond .eq 5, 3) := by decide +kernel
theorem dX7_termBetween_76 : decode cX7_termBetween 76 = .ok (.iconst 5, 1) := by decide +kernel
theorem dX7_termBetween_77 : decode cX7_termBetween 77 = .ok (.ireturn, 1) := by decide +kernel
theorem dX7_termBetween_78 : decode cX7_termBetween 78 = .ok (.aload_n 0, 1) := by decide +kernel
theorem dX7_termBetween_79 : decode cX7_termBetween 79 = .ok (.ldc 96, 2) := by decide +kernel
theorem dX7_termBetween_81 : decode cX7_termBetween 81 = .ok (.iload_n 1, 1) := by decide +kernel
theorem dX7_termBetween_82 : decode cX7_termBetween 82 = .ok (.iload_n 2, 1) := by decide +kernel
theorem dX7_termBetween_83 : decode cX7_termBetween 83 = .ok (.invokevirtual 63, 3) := by decide +kernel
theorem dX7_termBetween_86 : decode cX7_termBetween 86 = .ok (.ifCond .eq 8, 3) := by decide +kernel
theorem dX7_termBetween_89 : decode cX7_termBetween 89 = .ok (.bipush 6, 2) := by decide +kernel
theorem dX7_termBetween_91 : decode cX7_termBetween 91 = .ok (.goto 4, 3) := by decide +kernel
theorem dX7_termBetween_94 : decode cX7_termBetween 94 = .ok (.iconst (-1), 1) := by decide +kernel
theorem dX7_termBetween_95 : decode cX7_termBetween 95 = .ok (.ireturn, 1) := by decide +kernel
theorem dX7_spells_0 : decode cX7_spells 0 = .ok (.iload_n 3, 1) := by decide +kernel
theorem dX7_spells_1 : decode cX7_spells 1 = .ok (.iload_n 2, 1) := by decide +kernel
theorem dX7_spells_2 : decode cX7_spells 2 = .ok (.isub, 1) := by decide +kernel
theorem dX7_spells_3 : decode cX7_spells 3 = .ok (.aload_n 1, 1) := by decide +kernel
theorem dX7_spells_4 : decode cX7_spells 4 = .ok (.invokevirtual 98, 3) := by decide +kernel
theorem dX7_spells_7 : decode cX7_spells 7 = .ok (.if_icmp .eq 5, 3) := by decide +kernel
theorem dX7_spells_10 : decode cX7_spells 10 = .ok (.iconst 0, 1) := by decide +kernel
theorem dX7_spells_11 : decode cX7_spells 11 = .ok (.ireturn, 1) := by decide +kernel
theorem dX7_spells_12 : decode cX7_spells 12 = .ok (.iconst 0, 1) := by decide +kernel
theorem dX7_spells_13 : decode cX7_spells 13 = .ok (.istore 4, 2) := by decide +kernel
theorem dX7_spells_15 : decode cX7_spells 15 = .ok (.iload 4, 2) := by decide +kernel
theorem dX7_spells_17 : decode cX7_spells 17 = .ok (.aload_n 1, 1) := by decide +kernel
theorem dX7_spells_18 : decode cX7_spells 18 = .ok (.invokevirtual 98, 3) := by decide +kernel
theorem dX7_spells_21 : decode cX7_spells 21 = .ok (.if_icmp .ge 28, 3) := by decide +kernel
theorem dX7_spells_24 : decode cX7_spells 24 = .ok (.aload_n 0, 1) := by decide +kernel
theorem dX7_spells_25 : decode cX7_spells 25 = .ok (.iload_n 2, 1) := by decide +kernel
theorem dX7_spells_26 : decode cX7_spells 26 = .ok (.iload 4, 2) := by decide +kernel
theorem dX7_spells_28 : decode cX7_spells 28 = .ok (.iadd, 1) := by decide +kernel
theorem dX7_spells_29 : decode cX7_spells 29 = .ok (.invokevirtual 50, 3) := by decide +kernel
theorem dX7_spells_32 : decode cX7_spells 32 = .ok (.aload_n 1, 1) := by decide +kernel
theorem dX7_spells_33 : decode cX7_spells 33 = .ok (.iload 4, 2) := by decide +kernel
theorem dX7_spells_35 : decode cX7_spells 35 = .ok (.invokevirtual 104, 3) := by decide +kernel
theorem dX7_spells_38 : decode cX7_spells 38 = .ok (.if_icmp .eq 5, 3) := by decide +kernel
theorem dX7_spells_41 : decode cX7_spells 41 = .ok (.iconst 0, 1) := by decide +kernel
theorem dX7_spells_42 : decode cX7_spells 42 = .ok (.ireturn, 1) := by decide +kernel
theorem dX7_spells_43 : decode cX7_spells 43 = .ok (.iinc 4 1, 3) := by decide +kernel
theorem dX7_spells_46 : decode cX7_spells 46 = .ok (.goto (-31), 3) := by decide +kernel
theorem dX7_spells_49 : decode cX7_spells 49 = .ok (.iconst 1, 1) := by decide +kernel
theorem dX7_spells_50 : decode cX7_spells 50 = .ok (.ireturn, 1) := by decide +kernel
theorem dX7_valueBetween_0 : decode cX7_valueBetween 0 = .ok (.iconst 0, 1) := by decide +kernel
theorem dX7_valueBetween_1 : decode cX7_valueBetween 1 = .ok (.istore_n 3, 1) := by decide +kernel
theorem dX7_valueBetween_2 : decode cX7_valueBetween 2 = .ok (.iload_n 1, 1) := by decide +kernel
theorem dX7_valueBetween_3 : decode cX7_valueBetween 3 = .ok (.istore 4, 2) := by decide +kernel
theorem dX7_valueBetween_5 : decode cX7_valueBetween 5 = .ok (.iload 4, 2) := by decide +kernel
theorem dX7_valueBetween_7 : decode cX7_valueBetween 7 = .ok (.iload_n 2, 1) := by decide +kernel
theorem dX7_valueBetween_8 : decode cX7_valueBetween 8 = .ok (.if_icmp .ge 24, 3) := by decide +kernel
theorem dX7_valueBetween_11 : decode cX7_valueBetween 11 = .ok (.iload_n 3, 1) := by decide +kernel
theorem dX7_valueBetween_12 : decode cX7_valueBetween 12 = .ok (.bipush 10, 2) := by decide +kernel
theorem dX7_valueBetween_14 : decode cX7_valueBetween 14 = .ok (.imul, 1) := by decide +kernel
theorem dX7_valueBetween_15 : decode cX7_valueBetween 15 = .ok (.aload_n 0, 1) := by decide +kernel
theorem dX7_valueBetween_16 : decode cX7_valueBetween 16 = .ok (.iload 4, 2) := by decide +kernel
theorem dX7_valueBetween_18 : decode cX7_valueBetween 18 = .ok (.invokevirtual 50, 3) := by decide +kernel
theorem dX7_valueBetween_21 : decode cX7_valueBetween 21 = .ok (.iadd, 1) := by decide +kernel
theorem dX7_valueBetween_22 : decode cX7_valueBetween 22 = .ok (.bipush 48, 2) := by decide +kernel
theorem dX7_valueBetween_24 : decode cX7_valueBetween 24 = .ok (.isub, 1) := by decide +kernel
theorem dX7_valueBetween_25 : decode cX7_valueBetween 25 = .ok (.istore_n 3, 1) := by decide +kernel
theorem dX7_valueBetween_26 : decode cX7_valueBetween 26 = .ok (.iinc 4 1, 3) := by decide +kernel
theorem dX7_valueBetween_29 : decode cX7_valueBetween 29 = .ok (.goto (-24), 3) := by decide +kernel
theorem dX7_valueBetween_32 : decode cX7_valueBetween 32 = .ok (.iload_n 3, 1) := by decide +kernel
theorem dX7_valueBetween_33 : decode cX7_valueBetween 33 = .ok (.ireturn, 1) := by decide +kernel
theorem dX8_init_0 : decode cX8_init 0 = .ok (.aload_n 0, 1) := by decide +kernel
theorem dX8_init_1 : decode cX8_init 1 = .ok (.invokespecial 3, 3) := by decide +kernel
theorem dX8_init_4 : decode cX8_init 4 = .ok (.aload_n 0, 1) := by decide +kernel
theorem dX8_init_5 : decode cX8_init 5 = .ok (.sipush 400, 3) := by decide +kernel
theorem dX8_init_8 : decode cX8_init 8 = .ok (.newarray .int, 2) := by decide +kernel
theorem dX8_init_10 : decode cX8_init 10 = .ok (.putfield 9, 3) := by decide +kernel
theorem dX8_init_13 : decode cX8_init 13 = .ok (.return_, 1) := by decide +kernel
theorem dX8_has_0 : decode cX8_has 0 = .ok (.iload_n 1, 1) := by decide +kernel
theorem dX8_has_1 : decode cX8_has 1 = .ok (.ifCond .lt 15, 3) := by decide +kernel
theorem dX8_has_4 : decode cX8_has 4 = .ok (.iload_n 1, 1) := by decide +kernel
theorem dX8_has_5 : decode cX8_has 5 = .ok (.aload_n 0, 1) := by decide +kernel
theorem dX8_has_6 : decode cX8_has 6 = .ok (.getfield 15, 3) := by decide +kernel
theorem dX8_has_9 : decode cX8_has 9 = .ok (.if_icmp .ge 7, 3) := by decide +kernel
theorem dX8_has_12 : decode cX8_has 12 = .ok (.iconst 1, 1) := by decide +kernel
theorem dX8_has_13 : decode cX8_has 13 = .ok (.goto 4, 3) := by decide +kernel
theorem dX8_has_16 : decode cX8_has 16 = .ok (.iconst 0, 1) := by decide +kernel
theorem dX8_has_17 : decode cX8_has 17 = .ok (.ireturn, 1) := by decide +kernel
theorem dX8_sample_0 : decode cX8_sample 0 = .ok (.aload_n 0, 1) := by decide +kernel
theorem dX8_sample_1 : decode cX8_sample 1 = .ok (.iload_n 1, 1) := by decide +kernel
theorem dX8_sample_2 : decode cX8_sample 2 = .ok (.invokevirtual 19, 3) := by decide +kernel
theorem dX8_sample_5 : decode cX8_sample 5 = .ok (.ifCond .eq 12, 3) := by decide +kernel
theorem dX8_sample_8 : decode cX8_sample 8 = .ok (.aload_n 0, 1) := by decide +kernel
theorem dX8_sample_9 : decode cX8_sample 9 = .ok (.getfield 9, 3) := by decide +kernel
theorem dX8_sample_12 : decode cX8_sample 12 = .ok (.iload_n 1, 1) := by decide +kernel
theorem dX8_sample_13 : decode cX8_sample 13 = .ok (.iaload, 1) := by decide +kernel
theorem dX8_sample_14 : decode cX8_sample 14 = .ok (.goto 4, 3) := by decide +kernel
theorem dX8_sample_17 : decode cX8_sample 17 = .ok (.iconst 0, 1) := by decide +kernel
theorem dX8_sample_18 : decode cX8_sample 18 = .ok (.ireturn, 1) := by decide +kernel
theorem dX8_replace_0 : decode cX8_replace 0 = .ok (.aload_n 0, 1) := by decide +kernel
theorem dX8_replace_1 : decode cX8_replace 1 = .ok (.iload_n 1, 1) := by decide +kernel
theorem dX8_replace_2 : decode cX8_replace 2 = .ok (.invokevirtual 19, 3) := by decide +kernel
theorem dX8_replace_5 : decode cX8_replace 5 = .ok (.ifCond .eq 10, 3) := by decide +kernel
theorem dX8_replace_8 : decode cX8_replace 8 = .ok (.aload_n 0, 1) := by decide +kernel
theorem dX8_replace_9 : decode cX8_replace 9 = .ok (.getfield 9, 3) := by decide +kernel
theorem dX8_replace_12 : decode cX8_replace 12 = .ok (.iload_n 1, 1) := by decide +kernel
theorem dX8_replace_13 : decode cX8_replace 13 = .ok (.iload_n 2, 1) := by decide +kernel
theorem dX8_replace_14 : decode cX8_replace 14 = .ok (.iastore, 1) := by decide +kernel
theorem dX8_replace_15 : decode cX8_replace 15 = .ok (.return_, 1) := by decide +kernel
theorem dX8_append_0 : decode cX8_append 0 = .ok (.aload_n 0, 1) := by decide +kernel
theorem dX8_append_1 : decode cX8_append 1 = .ok (.getfield 15, 3) := by decide +kernel
theorem dX8_append_4 : decode cX8_append 4 = .ok (.iload_n 1, 1) := by decide +kernel
theorem dX8_append_5 : decode cX8_append 5 = .ok (.iadd, 1) := by decide +kernel
theorem dX8_append_6 : decode cX8_append 6 = .ok (.sipush 400, 3) := by decide +kernel
theorem dX8_append_9 : decode cX8_append 9 = .ok (.invokestatic 23, 3) := by decide +kernel
theorem dX8_append_12 : decode cX8_append 12 = .ok (.istore_n 3, 1) := by decide +kernel
theorem dX8_append_13 : decode cX8_append 13 = .ok (.aload_n 0, 1) := by decide +kernel
theorem dX8_append_14 : decode cX8_append 14 = .ok (.getfield 15, 3) := by decide +kernel
theorem dX8_append_17 : decode cX8_append 17 = .ok (.istore 4, 2) := by decide +kernel
theorem dX8_append_19 : decode cX8_append 19 = .ok (.iload 4, 2) := by decide +kernel
theorem dX8_append_21 : decode cX8_append 21 = .ok (.iload_n 3, 1) := by decide +kernel
theorem dX8_append_22 : decode cX8_append 22 = .ok (.if_icmp .ge 17, 3) := by decide +kernel
theorem dX8_append_25 : decode cX8_append 25 = .ok (.aload_n 0, 1) := by decide +kernel
theorem dX8_append_26 : decode cX8_append 26 = .ok (.getfield 9, 3) := by decide +kernel
theorem dX8_append_29 : decode cX8_append 29 = .ok (.iload 4, 2) := by decide +kernel
theorem dX8_append_31 : decode cX8_append 31 = .ok (.iload_n 2, 1) := by decide +kernel
theorem dX8_append_32 : decode cX8_append 32 = .ok (.iastore, 1) := by decide +kernel
theorem dX8_append_33 : decode cX8_append 33 = .ok (.iinc 4 1, 3) := by decide +kernel
theorem dX8_append_36 : decode cX8_append 36 = .ok (.goto (-17), 3) := by decide +kernel
theorem dX8_append_39 : decode cX8_append 39 = .ok (.aload_n 0, 1) := by decide +kernel
theorem dX8_append_40 : decode cX8_append 40 = .ok (.iload_n 3, 1) := by decide +kernel
theorem dX8_append_41 : decode cX8_append 41 = .ok (.putfield 15, 3) := by decide +kernel
theorem dX8_append_44 : decode cX8_append 44 = .ok (.return_, 1) := by decide +kernel
theorem dX8_copy_0 : decode cX8_copy 0 = .ok (.aload_n 0, 1) := by decide +kernel
theorem dX8_copy_1 : decode cX8_copy 1 = .ok (.aload_n 1, 1) := by decide +kernel
theorem dX8_copy_2 : decode cX8_copy 2 = .ok (.getfield 15, 3) := by decide +kernel
theorem dX8_copy_5 : decode cX8_copy 5 = .ok (.putfield 15, 3) := by decide +kernel
theorem dX8_copy_8 : decode cX8_copy 8 = .ok (.iconst 0, 1) := by decide +kernel
theorem dX8_copy_9 : decode cX8_copy 9 = .ok (.istore_n 2, 1) := by decide +kernel
theorem dX8_copy_10 : decode cX8_copy 10 = .ok (.iload_n 2, 1) := by decide +kernel
theorem dX8_copy_11 : decode cX8_copy 11 = .ok (.aload_n 0, 1) := by decide +kernel
theorem dX8_copy_12 : decode cX8_copy 12 = .ok (.getfield 15, 3) := by decide +kernel
theorem dX8_copy_15 : decode cX8_copy 15 = .ok (.if_icmp .ge 21, 3) := by decide +kernel
theorem dX8_copy_18 : decode cX8_copy 18 = .ok (.aload_n 0, 1) := by decide +kernel
theorem dX8_copy_19 : decode cX8_copy 19 = .ok (.getfield 9, 3) := by decide +kernel
theorem dX8_copy_22 : decode cX8_copy 22 = .ok (.iload_n 2, 1) := by decide +kernel
theorem dX8_copy_23 : decode cX8_copy 23 = .ok (.aload_n 1, 1) := by decide +kernel
theorem dX8_copy_24 : decode cX8_copy 24 = .ok (.getfield 9, 3) := by decide +kernel
theorem dX8_copy_27 : decode cX8_copy 27 = .ok (.iload_n 2, 1) := by decide +kernel
theorem dX8_copy_28 : decode cX8_copy 28 = .ok (.iaload, 1) := by decide +kernel
theorem dX8_copy_29 : decode cX8_copy 29 = .ok (.iastore, 1) := by decide +kernel
theorem dX8_copy_30 : decode cX8_copy 30 = .ok (.iinc 2 1, 3) := by decide +kernel
theorem dX8_copy_33 : decode cX8_copy 33 = .ok (.goto (-23), 3) := by decide +kernel
theorem dX8_copy_36 : decode cX8_copy 36 = .ok (.return_, 1) := by decide +kernel
theorem dX8_high_0 : decode cX8_high 0 = .ok (.iload_n 2, 1) := by decide +kernel
theorem dX8_high_1 : decode cX8_high 1 = .ok (.ifCond .lt 28, 3) := by decide +kernel
theorem dX8_high_4 : decode cX8_high 4 = .ok (.iload_n 2, 1) := by decide +kernel
theorem dX8_high_5 : decode cX8_high 5 = .ok (.aload_n 0, 1) := by decide +kernel
theorem dX8_high_6 : decode cX8_high 6 = .ok (.getfield 15, 3) := by decide +kernel
theorem dX8_high_9 : decode cX8_high 9 = .ok (.if_icmp .ge 20, 3) := by decide +kernel
theorem dX8_high_12 : decode cX8_high 12 = .ok (.aload_n 0, 1) := by decide +kernel
theorem dX8_high_13 : decode cX8_high 13 = .ok (.getfield 9, 3) := by decide +kernel
theorem dX8_high_16 : decode cX8_high 16 = .ok (.iload_n 2, 1) := by decide +kernel
theorem dX8_high_17 : decode cX8_high 17 = .ok (.iaload, 1) := by decide +kernel
theorem dX8_high_18 : decode cX8_high 18 = .ok (.iload_n 1, 1) := by decide +kernel
theorem dX8_high_19 : decode cX8_high 19 = .ok (.ishr, 1) := by decide +kernel
theorem dX8_high_20 : decode cX8_high 20 = .ok (.iconst 1, 1) := by decide +kernel
theorem dX8_high_21 : decode cX8_high 21 = .ok (.iand, 1) := by decide +kernel
theorem dX8_high_22 : decode cX8_high 22 = .ok (.ifCond .eq 7, 3) := by decide +kernel
theorem dX8_high_25 : decode cX8_high 25 = .ok (.iconst 1, 1) := by decide +kernel
theorem dX8_high_26 : decode cX8_high 26 = .ok (.goto 4, 3) := by decide +kernel
theorem dX8_high_29 : decode cX8_high 29 = .ok (.iconst 0, 1) := by decide +kernel
theorem dX8_high_30 : decode cX8_high 30 = .ok (.ireturn, 1) := by decide +kernel
theorem dX8_changes_0 : decode cX8_changes 0 = .ok (.iload_n 2, 1) := by decide +kernel
theorem dX8_changes_1 : decode cX8_changes 1 = .ok (.ifCond .le 37, 3) := by decide +kernel
theorem dX8_changes_4 : decode cX8_changes 4 = .ok (.iload_n 2, 1) := by decide +kernel
theorem dX8_changes_5 : decode cX8_changes 5 = .ok (.aload_n 0, 1) := by decide +kernel
theorem dX8_changes_6 : decode cX8_changes 6 = .ok (.getfield 15, 3) := by decide +kernel
theorem dX8_changes_9 : decode cX8_changes 9 = .ok (.if_icmp .ge 29, 3) := by decide +kernel
theorem dX8_changes_12 : decode cX8_changes 12 = .ok (.aload_n 0, 1) := by decide +kernel
theorem dX8_changes_13 : decode cX8_changes 13 = .ok (.getfield 9, 3) := by decide +kernel
theorem dX8_changes_16 : decode cX8_changes 16 = .ok (.iload_n 2, 1) := by decide +kernel
theorem dX8_changes_17 : decode cX8_changes 17 = .ok (.iaload, 1) := by decide +kernel
theorem dX8_changes_18 : decode cX8_changes 18 = .ok (.aload_n 0, 1) := by decide +kernel
theorem dX8_changes_19 : decode cX8_changes 19 = .ok (.getfield 9, 3) := by decide +kernel
theorem dX8_changes_22 : decode cX8_changes 22 = .ok (.iload_n 2, 1) := by decide +kernel
theorem dX8_changes_23 : decode cX8_changes 23 = .ok (.iconst 1, 1) := by decide +kernel
theorem dX8_changes_24 : decode cX8_changes 24 = .ok (.isub, 1) := by decide +kernel
theorem dX8_changes_25 : decode cX8_changes 25 = .ok (.iaload, 1) := by decide +kernel
theorem dX8_changes_26 : decode cX8_changes 26 = .ok (.ixor, 1) := by decide +kernel
theorem dX8_changes_27 : decode cX8_changes 27 = .ok (.iload_n 1, 1) := by decide +kernel
theorem dX8_changes_28 : decode cX8_changes 28 = .ok (.ishr, 1) := by decide +kernel
theorem dX8_changes_29 : decode cX8_changes 29 = .ok (.iconst 1, 1) := by decide +kernel
theorem dX8_changes_30 : decode cX8_changes 30 = .ok (.iand, 1) := by decide +kernel
theorem dX8_changes_31 : decode cX8_changes 31 = .ok (.ifCond .eq 7, 3) := by decide +kernel
theorem dX8_changes_34 : decode cX8_changes 34 = .ok (.iconst 1, 1) := by decide +kernel
theorem dX8_changes_35 : decode cX8_changes 35 = .ok (.goto 4, 3) := by decide +kernel
theorem dX8_changes_38 : decode cX8_changes 38 = .ok (.iconst 0, 1) := by decide +kernel
theorem dX8_changes_39 : decode cX8_changes 39 = .ok (.ireturn, 1) := by decide +kernel
theorem dX8_rises_0 : decode cX8_rises 0 = .ok (.iload_n 2, 1) := by decide +kernel
theorem dX8_rises_1 : decode cX8_rises 1 = .ok (.ifCond .le 39, 3) := by decide +kernel
theorem dX8_rises_4 : decode cX8_rises 4 = .ok (.iload_n 2, 1) := by decide +kernel
theorem dX8_rises_5 : decode cX8_rises 5 = .ok (.aload_n 0, 1) := by decide +kernel
theorem dX8_rises_6 : decode cX8_rises 6 = .ok (.getfield 15, 3) := by decide +kernel
theorem dX8_rises_9 : decode cX8_rises 9 = .ok (.if_icmp .ge 31, 3) := by decide +kernel
theorem dX8_rises_12 : decode cX8_rises 12 = .ok (.aload_n 0, 1) := by decide +kernel
theorem dX8_rises_13 : decode cX8_rises 13 = .ok (.getfield 9, 3) := by decide +kernel
theorem dX8_rises_16 : decode cX8_rises 16 = .ok (.iload_n 2, 1) := by decide +kernel
theorem dX8_rises_17 : decode cX8_rises 17 = .ok (.iaload, 1) := by decide +kernel
theorem dX8_rises_18 : decode cX8_rises 18 = .ok (.aload_n 0, 1) := by decide +kernel
theorem dX8_rises_19 : decode cX8_rises 19 = .ok (.getfield 9, 3) := by decide +kernel
theorem dX8_rises_22 : decode cX8_rises 22 = .ok (.iload_n 2, 1) := by decide +kernel
theorem dX8_rises_23 : decode cX8_rises 23 = .ok (.iconst 1, 1) := by decide +kernel
theorem dX8_rises_24 : decode cX8_rises 24 = .ok (.isub, 1) := by decide +kernel
theorem dX8_rises_25 : decode cX8_rises 25 = .ok (.iaload, 1) := by decide +kernel
theorem dX8_rises_26 : decode cX8_rises 26 = .ok (.iconst (-1), 1) := by decide +kernel
theorem dX8_rises_27 : decode cX8_rises 27 = .ok (.ixor, 1) := by decide +kernel
theorem dX8_rises_28 : decode cX8_rises 28 = .ok (.iand, 1) := by decide +kernel
theorem dX8_rises_29 : decode cX8_rises 29 = .ok (.iload_n 1, 1) := by decide +kernel
theorem dX8_rises_30 : decode cX8_rises 30 = .ok (.ishr, 1) := by decide +kernel
theorem dX8_rises_31 : decode cX8_rises 31 = .ok (.iconst 1, 1) := by decide +kernel
theorem dX8_rises_32 : decode cX8_rises 32 = .ok (.iand, 1) := by decide +kernel
theorem dX8_rises_33 : decode cX8_rises 33 = .ok (.ifCond .eq 7, 3) := by decide +kernel
theorem dX8_rises_36 : decode cX8_rises 36 = .ok (.iconst 1, 1) := by decide +kernel
theorem dX8_rises_37 : decode cX8_rises 37 = .ok (.goto 4, 3) := by decide +kernel
theorem dX8_rises_40 : decode cX8_rises 40 = .ok (.iconst 0, 1) := by decide +kernel
theorem dX8_rises_41 : decode cX8_rises 41 = .ok (.ireturn, 1) := by decide +kernel
theorem dX8_falls_0 : decode cX8_falls 0 = .ok (.iload_n 2, 1) := by decide +kernel
theorem dX8_falls_1 : decode cX8_falls 1 = .ok (.ifCond .le 39, 3) := by decide +kernel
theorem dX8_falls_4 : decode cX8_falls 4 = .ok (.iload_n 2, 1) := by decide +kernel
theorem dX8_falls_5 : decode cX8_falls 5 = .ok (.aload_n 0, 1) := by decide +kernel
theorem dX8_falls_6 : decode cX8_falls 6 = .ok (.getfield 15, 3) := by decide +kernel
theorem dX8_falls_9 : decode cX8_falls 9 = .ok (.if_icmp .ge 31, 3) := by decide +kernel
theorem dX8_falls_12 : decode cX8_falls 12 = .ok (.aload_n 0, 1) := by decide +kernel
theorem dX8_falls_13 : decode cX8_falls 13 = .ok (.getfield 9, 3) := by decide +kernel
theorem dX8_falls_16 : decode cX8_falls 16 = .ok (.iload_n 2, 1) := by decide +kernel
theorem dX8_falls_17 : decode cX8_falls 17 = .ok (.iaload, 1) := by decide +kernel
theorem dX8_falls_18 : decode cX8_falls 18 = .ok (.iconst (-1), 1) := by decide +kernel
theorem dX8_falls_19 : decode cX8_falls 19 = .ok (.ixor, 1) := by decide +kernel
theorem dX8_falls_20 : decode cX8_falls 20 = .ok (.aload_n 0, 1) := by decide +kernel
theorem dX8_falls_21 : decode cX8_falls 21 = .ok (.getfield 9, 3) := by decide +kernel
theorem dX8_falls_24 : decode cX8_falls 24 = .ok (.iload_n 2, 1) := by decide +kernel
theorem dX8_falls_25 : decode cX8_falls 25 = .ok (.iconst 1, 1) := by decide +kernel
theorem dX8_falls_26 : decode cX8_falls 26 = .ok (.isub, 1) := by decide +kernel
theorem dX8_falls_27 : decode cX8_falls 27 = .ok (.iaload, 1) := by decide +kernel
theorem dX8_falls_28 : decode cX8_falls 28 = .ok (.iand, 1) := by decide +kernel
theorem dX8_falls_29 : decode cX8_falls 29 = .ok (.iload_n 1, 1) := by decide +kernel
theorem dX8_falls_30 : decode cX8_falls 30 = .ok (.ishr, 1) := by decide +kernel
theorem dX8_falls_31 : decode cX8_falls 31 = .ok (.iconst 1, 1) := by decide +kernel
theorem dX8_falls_32 : decode cX8_falls 32 = .ok (.iand, 1) := by decide +kernel
theorem dX8_falls_33 : decode cX8_falls 33 = .ok (.ifCond .eq 7, 3) := by decide +kernel
theorem dX8_falls_36 : decode cX8_falls 36 = .ok (.iconst 1, 1) := by decide +kernel
theorem dX8_falls_37 : decode cX8_falls 37 = .ok (.goto 4, 3) := by decide +kernel
theorem dX8_falls_40 : decode cX8_falls 40 = .ok (.iconst 0, 1) := by decide +kernel
theorem dX8_falls_41 : decode cX8_falls 41 = .ok (.ireturn, 1) := by decide +kernel
theorem dX8_beginsRun_0 : decode cX8_beginsRun 0 = .ok (.iload_n 1, 1) := by decide +kernel
theorem dX8_beginsRun_1 : decode cX8_beginsRun 1 = .ok (.ifCond .eq 18, 3) := by decide +kernel
theorem dX8_beginsRun_4 : decode cX8_beginsRun 4 = .ok (.aload_n 0, 1) := by decide +kernel
theorem dX8_beginsRun_5 : decode cX8_beginsRun 5 = .ok (.iload_n 1, 1) := by decide +kernel
theorem dX8_beginsRun_6 : decode cX8_beginsRun 6 = .ok (.invokevirtual 29, 3) := by decide +kernel
theorem dX8_beginsRun_9 : decode cX8_beginsRun 9 = .ok (.aload_n 0, 1) := by decide +kernel
theorem dX8_beginsRun_10 : decode cX8_beginsRun 10 = .ok (.iload_n 1, 1) := by decide +kernel
theorem dX8_beginsRun_11 : decode cX8_beginsRun 11 = .ok (.iconst 1, 1) := by decide +kernel
theorem dX8_beginsRun_12 : decode cX8_beginsRun 12 = .ok (.isub, 1) := by decide +kernel
theorem dX8_beginsRun_13 : decode cX8_beginsRun 13 = .ok (.invokevirtual 29, 3) := by decide +kernel
theorem dX8_beginsRun_16 : decode cX8_beginsRun 16 = .ok (.if_icmp .eq 7, 3) := by decide +kernel
theorem dX8_beginsRun_19 : decode cX8_beginsRun 19 = .ok (.iconst 1, 1) := by decide +kernel
theorem dX8_beginsRun_20 : decode cX8_beginsRun 20 = .ok (.goto 4, 3) := by decide +kernel
theorem dX8_beginsRun_23 : decode cX8_beginsRun 23 = .ok (.iconst 0, 1) := by decide +kernel
theorem dX8_beginsRun_24 : decode cX8_beginsRun 24 = .ok (.ireturn, 1) := by decide +kernel
theorem dX8_edgesSeen_0 : decode cX8_edgesSeen 0 = .ok (.iconst 0, 1) := by decide +kernel
theorem dX8_edgesSeen_1 : decode cX8_edgesSeen 1 = .ok (.istore_n 3, 1) := by decide +kernel
theorem dX8_edgesSeen_2 : decode cX8_edgesSeen 2 = .ok (.iload_n 2, 1) := by decide +kernel
theorem dX8_edgesSeen_3 : decode cX8_edgesSeen 3 = .ok (.iload_n 1, 1) := by decide +kernel
theorem dX8_edgesSeen_4 : decode cX8_edgesSeen 4 = .ok (.iadd, 1) := by decide +kernel
theorem dX8_edgesSeen_5 : decode cX8_edgesSeen 5 = .ok (.istore 4, 2) := by decide +kernel
theorem dX8_edgesSeen_7 : decode cX8_edgesSeen 7 = .ok (.iload_n 1, 1) := by decide +kernel
theorem dX8_edgesSeen_8 : decode cX8_edgesSeen 8 = .ok (.ifCond .le 42, 3) := by decide +kernel
theorem dX8_edgesSeen_11 : decode cX8_edgesSeen 11 = .ok (.iload 4, 2) := by decide +kernel
theorem dX8_edgesSeen_13 : decode cX8_edgesSeen 13 = .ok (.aload_n 0, 1) := by decide +kernel
theorem dX8_edgesSeen_14 : decode cX8_edgesSeen 14 = .ok (.getfield 15, 3) := by decide +kernel
theorem dX8_edgesSeen_17 : decode cX8_edgesSeen 17 = .ok (.if_icmp .ge 33, 3) := by decide +kernel
theorem dX8_edgesSeen_20 : decode cX8_edgesSeen 20 = .ok (.iload_n 3, 1) := by decide +kernel
theorem dX8_edgesSeen_21 : decode cX8_edgesSeen 21 = .ok (.aload_n 0, 1) := by decide +kernel
theorem dX8_edgesSeen_22 : decode cX8_edgesSeen 22 = .ok (.iload 4, 2) := by decide +kernel
theorem dX8_edgesSeen_24 : decode cX8_edgesSeen 24 = .ok (.invokevirtual 29, 3) := by decide +kernel
theorem dX8_edgesSeen_27 : decode cX8_edgesSeen 27 = .ok (.aload_n 0, 1) := by decide +kernel
theorem dX8_edgesSeen_28 : decode cX8_edgesSeen 28 = .ok (.iload 4, 2) := by decide +kernel
theorem dX8_edgesSeen_30 : decode cX8_edgesSeen 30 = .ok (.iload_n 1, 1) := by decide +kernel
theorem dX8_edgesSeen_31 : decode cX8_edgesSeen 31 = .ok (.isub, 1) := by decide +kernel
theorem dX8_edgesSeen_32 : decode cX8_edgesSeen 32 = .ok (.invokevirtual 29, 3) := by decide +kernel
theorem dX8_edgesSeen_35 : decode cX8_edgesSeen 35 = .ok (.ixor, 1) := by decide +kernel
theorem dX8_edgesSeen_36 : decode cX8_edgesSeen 36 = .ok (.invokestatic 33, 3) := by decide +kernel
theorem dX8_edgesSeen_39 : decode cX8_edgesSeen 39 = .ok (.iadd, 1) := by decide +kernel
theorem dX8_edgesSeen_40 : decode cX8_edgesSeen 40 = .ok (.istore_n 3, 1) := by decide +kernel
theorem dX8_edgesSeen_41 : decode cX8_edgesSeen 41 = .ok (.iload 4, 2) := by decide +kernel
theorem dX8_edgesSeen_43 : decode cX8_edgesSeen 43 = .ok (.iload_n 1, 1) := by decide +kernel
theorem dX8_edgesSeen_44 : decode cX8_edgesSeen 44 = .ok (.iadd, 1) := by decide +kernel
theorem dX8_edgesSeen_45 : decode cX8_edgesSeen 45 = .ok (.istore 4, 2) := by decide +kernel
theorem dX8_edgesSeen_47 : decode cX8_edgesSeen 47 = .ok (.goto (-40), 3) := by decide +kernel
theorem dX8_edgesSeen_50 : decode cX8_edgesSeen 50 = .ok (.iload_n 3, 1) := by decide +kernel
theorem dX8_edgesSeen_51 : decode cX8_edgesSeen 51 = .ok (.ireturn, 1) := by decide +kernel
theorem dX8_unlikeLaid_0 : decode cX8_unlikeLaid 0 = .ok (.iconst 0, 1) := by decide +kernel
theorem dX8_unlikeLaid_1 : decode cX8_unlikeLaid 1 = .ok (.istore_n 3, 1) := by decide +kernel
theorem dX8_unlikeLaid_2 : decode cX8_unlikeLaid 2 = .ok (.iconst 0, 1) := by decide +kernel
theorem dX8_unlikeLaid_3 : decode cX8_unlikeLaid 3 = .ok (.istore 4, 2) := by decide +kernel
theorem dX8_unlikeLaid_5 : decode cX8_unlikeLaid 5 = .ok (.iconst 0, 1) := by decide +kernel
theorem dX8_unlikeLaid_6 : decode cX8_unlikeLaid 6 = .ok (.istore 5, 2) := by decide +kernel
theorem dX8_unlikeLaid_8 : decode cX8_unlikeLaid 8 = .ok (.iload 5, 2) := by decide +kernel
theorem dX8_unlikeLaid_10 : decode cX8_unlikeLaid 10 = .ok (.aload_n 0, 1) := by decide +kernel
theorem dX8_unlikeLaid_11 : decode cX8_unlikeLaid 11 = .ok (.getfield 15, 3) := by decide +kernel
theorem dX8_unlikeLaid_14 : decode cX8_unlikeLaid 14 = .ok (.if_icmp .ge 53, 3) := by decide +kernel
theorem dX8_unlikeLaid_17 : decode cX8_unlikeLaid 17 = .ok (.aload_n 1, 1) := by decide +kernel
theorem dX8_unlikeLaid_18 : decode cX8_unlikeLaid 18 = .ok (.iload 5, 2) := by decide +kernel
theorem dX8_unlikeLaid_20 : decode cX8_unlikeLaid 20 = .ok (.iload_n 2, 1) := by decide +kernel
theorem dX8_unlikeLaid_21 : decode cX8_unlikeLaid 21 = .ok (.iadd, 1) := by decide +kernel
theorem dX8_unlikeLaid_22 : decode cX8_unlikeLaid 22 = .ok (.invokevirtual 19, 3) := by decide +kernel
theorem dX8_unlikeLaid_25 : decode cX8_unlikeLaid 25 = .ok (.ifCond .ne 6, 3) := by decide +kernel
theorem dX8_unlikeLaid_28 : decode cX8_unlikeLaid 28 = .ok (.goto 33, 3) := by decide +kernel
theorem dX8_unlikeLaid_31 : decode cX8_unlikeLaid 31 = .ok (.iinc 3 1, 3) := by decide +kernel
theorem dX8_unlikeLaid_34 : decode cX8_unlikeLaid 34 = .ok (.iload 4, 2) := by decide +kernel
theorem dX8_unlikeLaid_36 : decode cX8_unlikeLaid 36 = .ok (.aload_n 0, 1) := by decide +kernel
theorem dX8_unlikeLaid_37 : decode cX8_unlikeLaid 37 = .ok (.iload 5, 2) := by decide +kernel
theorem dX8_unlikeLaid_39 : decode cX8_unlikeLaid 39 = .ok (.invokevirtual 29, 3) := by decide +kernel
theorem dX8_unlikeLaid_42 : decode cX8_unlikeLaid 42 = .ok (.aload_n 1, 1) := by decide +kernel
theorem dX8_unlikeLaid_43 : decode cX8_unlikeLaid 43 = .ok (.iload 5, 2) := by decide +kernel
theorem dX8_unlikeLaid_45 : decode cX8_unlikeLaid 45 = .ok (.iload_n 2, 1) := by decide +kernel
theorem dX8_unlikeLaid_46 : decode cX8_unlikeLaid 46 = .ok (.iadd, 1) := by decide +kernel
theorem dX8_unlikeLaid_47 : decode cX8_unlikeLaid 47 = .ok (.invokevirtual 29, 3) := by decide +kernel
theorem dX8_unlikeLaid_50 : decode cX8_unlikeLaid 50 = .ok (.if_icmp .eq 7, 3) := by decide +kernel
theorem dX8_unlikeLaid_53 : decode cX8_unlikeLaid 53 = .ok (.iconst 1, 1) := by decide +kernel
theorem dX8_unlikeLaid_54 : decode cX8_unlikeLaid 54 = .ok (.goto 4, 3) := by decide +kernel
theorem dX8_unlikeLaid_57 : decode cX8_unlikeLaid 57 = .ok (.iconst 0, 1) := by decide +kernel
theorem dX8_unlikeLaid_58 : decode cX8_unlikeLaid 58 = .ok (.iadd, 1) := by decide +kernel
theorem dX8_unlikeLaid_59 : decode cX8_unlikeLaid 59 = .ok (.istore 4, 2) := by decide +kernel
theorem dX8_unlikeLaid_61 : decode cX8_unlikeLaid 61 = .ok (.iinc 5 1, 3) := by decide +kernel
theorem dX8_unlikeLaid_64 : decode cX8_unlikeLaid 64 = .ok (.goto (-56), 3) := by decide +kernel
theorem dX8_unlikeLaid_67 : decode cX8_unlikeLaid 67 = .ok (.iload 4, 2) := by decide +kernel
theorem dX8_unlikeLaid_69 : decode cX8_unlikeLaid 69 = .ok (.aload_n 0, 1) := by decide +kernel
theorem dX8_unlikeLaid_70 : decode cX8_unlikeLaid 70 = .ok (.getfield 15, 3) := by decide +kernel
theorem dX8_unlikeLaid_73 : decode cX8_unlikeLaid 73 = .ok (.iload_n 3, 1) := by decide +kernel
theorem dX8_unlikeLaid_74 : decode cX8_unlikeLaid 74 = .ok (.isub, 1) := by decide +kernel
theorem dX8_unlikeLaid_75 : decode cX8_unlikeLaid 75 = .ok (.iadd, 1) := by decide +kernel
theorem dX8_unlikeLaid_76 : decode cX8_unlikeLaid 76 = .ok (.aload_n 1, 1) := by decide +kernel
theorem dX8_unlikeLaid_77 : decode cX8_unlikeLaid 77 = .ok (.getfield 15, 3) := by decide +kernel
theorem dX8_unlikeLaid_80 : decode cX8_unlikeLaid 80 = .ok (.iload_n 3, 1) := by decide +kernel
theorem dX8_unlikeLaid_81 : decode cX8_unlikeLaid 81 = .ok (.isub, 1) := by decide +kernel
theorem dX8_unlikeLaid_82 : decode cX8_unlikeLaid 82 = .ok (.iadd, 1) := by decide +kernel
theorem dX8_unlikeLaid_83 : decode cX8_unlikeLaid 83 = .ok (.ireturn, 1) := by decide +kernel
theorem dX8_smoothWire_0 : decode cX8_smoothWire 0 = .ok (.iconst 0, 1) := by decide +kernel
theorem dX8_smoothWire_1 : decode cX8_smoothWire 1 = .ok (.istore_n 3, 1) := by decide +kernel
theorem dX8_smoothWire_2 : decode cX8_smoothWire 2 = .ok (.iconst 1, 1) := by decide +kernel
theorem dX8_smoothWire_3 : decode cX8_smoothWire 3 = .ok (.istore 4, 2) := by decide +kernel
theorem dX8_smoothWire_5 : decode cX8_smoothWire 5 = .ok (.iload 4, 2) := by decide +kernel
theorem dX8_smoothWire_7 : decode cX8_smoothWire 7 = .ok (.aload_n 0, 1) := by decide +kernel
theorem dX8_smoothWire_8 : decode cX8_smoothWire 8 = .ok (.getfield 15, 3) := by decide +kernel
theorem dX8_smoothWire_11 : decode cX8_smoothWire 11 = .ok (.if_icmp .ge 50, 3) := by decide +kernel
theorem dX8_smoothWire_14 : decode cX8_smoothWire 14 = .ok (.aload_n 0, 1) := by decide +kernel
theorem dX8_smoothWire_15 : decode cX8_smoothWire 15 = .ok (.iload_n 1, 1) := by decide +kernel
theorem dX8_smoothWire_16 : decode cX8_smoothWire 16 = .ok (.iload 4, 2) := by decide +kernel
theorem dX8_smoothWire_18 : decode cX8_smoothWire 18 = .ok (.invokevirtual 38, 3) := by decide +kernel
theorem dX8_smoothWire_21 : decode cX8_smoothWire 21 = .ok (.ifCond .ne 6, 3) := by decide +kernel
theorem dX8_smoothWire_24 : decode cX8_smoothWire 24 = .ok (.goto 31, 3) := by decide +kernel
theorem dX8_smoothWire_27 : decode cX8_smoothWire 27 = .ok (.iload_n 3, 1) := by decide +kernel
theorem dX8_smoothWire_28 : decode cX8_smoothWire 28 = .ok (.ifCond .le 24, 3) := by decide +kernel
theorem dX8_smoothWire_31 : decode cX8_smoothWire 31 = .ok (.iload 4, 2) := by decide +kernel
theorem dX8_smoothWire_33 : decode cX8_smoothWire 33 = .ok (.iload_n 3, 1) := by decide +kernel
theorem dX8_smoothWire_34 : decode cX8_smoothWire 34 = .ok (.isub, 1) := by decide +kernel
theorem dX8_smoothWire_35 : decode cX8_smoothWire 35 = .ok (.iload_n 2, 1) := by decide +kernel
theorem dX8_smoothWire_36 : decode cX8_smoothWire 36 = .ok (.if_icmp .ge 16, 3) := by decide +kernel
theorem dX8_smoothWire_39 : decode cX8_smoothWire 39 = .ok (.aload_n 0, 1) := by decide +kernel
theorem dX8_smoothWire_40 : decode cX8_smoothWire 40 = .ok (.iload_n 1, 1) := by decide +kernel
theorem dX8_smoothWire_41 : decode cX8_smoothWire 41 = .ok (.iload_n 3, 1) := by decide +kernel
theorem dX8_smoothWire_42 : decode cX8_smoothWire 42 = .ok (.iload 4, 2) := by decide +kernel
theorem dX8_smoothWire_44 : decode cX8_smoothWire 44 = .ok (.invokevirtual 42, 3) := by decide +kernel
theorem dX8_smoothWire_47 : decode cX8_smoothWire 47 = .ok (.iconst 0, 1) := by decide +kernel
theorem dX8_smoothWire_48 : decode cX8_smoothWire 48 = .ok (.istore_n 3, 1) := by decide +kernel
theorem dX8_smoothWire_49 : decode cX8_smoothWire 49 = .ok (.goto 6, 3) := by decide +kernel
theorem dX8_smoothWire_52 : decode cX8_smoothWire 52 = .ok (.iload 4, 2) := by decide +kernel
theorem dX8_smoothWire_54 : decode cX8_smoothWire 54 = .ok (.istore_n 3, 1) := by decide +kernel
theorem dX8_smoothWire_55 : decode cX8_smoothWire 55 = .ok (.iinc 4 1, 3) := by decide +kernel
theorem dX8_smoothWire_58 : decode cX8_smoothWire 58 = .ok (.goto (-53), 3) := by decide +kernel
theorem dX8_smoothWire_61 : decode cX8_smoothWire 61 = .ok (.return_, 1) := by decide +kernel
theorem dX8_flip_0 : decode cX8_flip 0 = .ok (.iload_n 2, 1) := by decide +kernel
theorem dX8_flip_1 : decode cX8_flip 1 = .ok (.istore 4, 2) := by decide +kernel
theorem dX8_flip_3 : decode cX8_flip 3 = .ok (.iload 4, 2) := by decide +kernel
theorem dX8_flip_5 : decode cX8_flip 5 = .ok (.iload_n 3, 1) := by decide +kernel
theorem dX8_flip_6 : decode cX8_flip 6 = .ok (.if_icmp .ge 25, 3) := by decide +kernel
theorem dX8_flip_9 : decode cX8_flip 9 = .ok (.aload_n 0, 1) := by decide +kernel
theorem dX8_flip_10 : decode cX8_flip 10 = .ok (.iload 4, 2) := by decide +kernel
theorem dX8_flip_12 : decode cX8_flip 12 = .ok (.aload_n 0, 1) := by decide +kernel
theorem dX8_flip_13 : decode cX8_flip 13 = .ok (.iload 4, 2) := by decide +kernel
theorem dX8_flip_15 : decode cX8_flip 15 = .ok (.invokevirtual 29, 3) := by decide +kernel
theorem dX8_flip_18 : decode cX8_flip 18 = .ok (.iconst 1, 1) := by decide +kernel
theorem dX8_flip_19 : decode cX8_flip 19 = .ok (.iload_n 1, 1) := by decide +kernel
theorem dX8_flip_20 : decode cX8_flip 20 = .ok (.ishl, 1) := by decide +kernel
theorem dX8_flip_21 : decode cX8_flip 21 = .ok (.ixor, 1) := by decide +kernel
theorem dX8_flip_22 : decode cX8_flip 22 = .ok (.invokevirtual 46, 3) := by decide +kernel
theorem dX8_flip_25 : decode cX8_flip 25 = .ok (.iinc 4 1, 3) := by decide +kernel
theorem dX8_flip_28 : decode cX8_flip 28 = .ok (.goto (-25), 3) := by decide +kernel
theorem dX8_flip_31 : decode cX8_flip 31 = .ok (.return_, 1) := by decide +kernel
theorem dX9_init_0 : decode cX9_init 0 = .ok (.aload_n 0, 1) := by decide +kernel
theorem dX9_init_1 : decode cX9_init 1 = .ok (.invokespecial 3, 3) := by decide +kernel
theorem dX9_init_4 : decode cX9_init 4 = .ok (.aload_n 0, 1) := by decide +kernel
theorem dX9_init_5 : decode cX9_init 5 = .ok (.iconst 3, 1) := by decide +kernel
theorem dX9_init_6 : decode cX9_init 6 = .ok (.newarray .int, 2) := by decide +kernel
theorem dX9_init_8 : decode cX9_init 8 = .ok (.putfield 11, 3) := by decide +kernel
theorem dX9_init_11 : decode cX9_init 11 = .ok (.return_, 1) := by decide +kernel
theorem dX9_follow_0 : decode cX9_follow 0 = .ok (.aload_n 0, 1) := by decide +kernel
theorem dX9_follow_1 : decode cX9_follow 1 = .ok (.bipush (-4), 2) := by decide +kernel
theorem dX9_follow_3 : decode cX9_follow 3 = .ok (.putfield 17, 3) := by decide +kernel
theorem dX9_follow_6 : decode cX9_follow 6 = .ok (.aload_n 0, 1) := by decide +kernel
theorem dX9_follow_7 : decode cX9_follow 7 = .ok (.iconst 0, 1) := by decide +kernel
theorem dX9_follow_8 : decode cX9_follow 8 = .ok (.putfield 21, 3) := by decide +kernel
theorem dX9_follow_11 : decode cX9_follow 11 = .ok (.aload_n 0, 1) := by decide +kernel
theorem dX9_follow_12 : decode cX9_follow 12 = .ok (.iconst 0, 1) := by decide +kernel
theorem dX9_follow_13 : decode cX9_follow 13 = .ok (.putfield 24, 3) := by decide +kernel
theorem dX9_follow_16 : decode cX9_follow 16 = .ok (.aload_n 0, 1) := by decide +kernel
theorem dX9_follow_17 : decode cX9_follow 17 = .ok (.iconst 0, 1) := by decide +kernel
theorem dX9_follow_18 : decode cX9_follow 18 = .ok (.invokevirtual 27, 3) := by decide +kernel
theorem dX9_follow_21 : decode cX9_follow 21 = .ok (.iconst 0, 1) := by decide +kernel
theorem dX9_follow_22 : decode cX9_follow 22 = .ok (.istore 4, 2) := by decide +kernel
theorem dX9_follow_24 : decode cX9_follow 24 = .ok (.iload 4, 2) := by decide +kernel
theorem dX9_follow_26 : decode cX9_follow 26 = .ok (.iload_n 3, 1) := by decide +kernel
theorem dX9_follow_27 : decode cX9_follow 27 = .ok (.if_icmp .ge 41, 3) := by decide +kernel
theorem dX9_follow_30 : decode cX9_follow 30 = .ok (.aload_n 0, 1) := by decide +kernel
theorem dX9_follow_31 : decode cX9_follow 31 = .ok (.getfield 17, 3) := by decide +kernel
theorem dX9_follow_34 : decode cX9_follow 34 = .ok (.ifCond .ge 34, 3) := by decide +kernel
theorem dX9_follow_37 : decode cX9_follow 37 = .ok (.aload_n 1, 1) := by decide +kernel
theorem dX9_follow_38 : decode cX9_follow 38 = .ok (.getfield 31, 3) := by decide +kernel
theorem dX9_follow_41 : decode cX9_follow 41 = .ok (.ifCond .le 27, 3) := by decide +kernel
theorem dX9_follow_44 : decode cX9_follow 44 = .ok (.aload_n 0, 1) := by decide +kernel
theorem dX9_follow_45 : decode cX9_follow 45 = .ok (.aload_n 1, 1) := by decide +kernel
theorem dX9_follow_46 : decode cX9_follow 46 = .ok (.aload_n 2, 1) := by decide +kernel
theorem dX9_follow_47 : decode cX9_follow 47 = .ok (.iload 4, 2) := by decide +kernel
theorem dX9_follow_49 : decode cX9_follow 49 = .ok (.invokevirtual 34, 3) := by decide +kernel
theorem dX9_follow_52 : decode cX9_follow 52 = .ok (.aload_n 0, 1) := by decide +kernel
theorem dX9_follow_53 : decode cX9_follow 53 = .ok (.dup, 1) := by decide +kernel
theorem dX9_follow_54 : decode cX9_follow 54 = .ok (.getfield 24, 3) := by decide +kernel
theorem dX9_follow_57 : decode cX9_follow 57 = .ok (.iconst 1, 1) := by decide +kernel
theorem dX9_follow_58 : decode cX9_follow 58 = .ok (.iadd, 1) := by decide +kernel
theorem dX9_follow_59 : decode cX9_follow 59 = .ok (.putfield 24, 3) := by decide +kernel
theorem dX9_follow_62 : decode cX9_follow 62 = .ok (.iinc 4 1, 3) := by decide +kernel
theorem dX9_follow_65 : decode cX9_follow 65 = .ok (.goto (-41), 3) := by decide +kernel
theorem dX9_follow_68 : decode cX9_follow 68 = .ok (.return_, 1) := by decide +kernel
theorem dX9_enter_0 : decode cX9_enter 0 = .ok (.aload_n 0, 1) := by decide +kernel
theorem dX9_enter_1 : decode cX9_enter 1 = .ok (.iload_n 1, 1) := by decide +kernel
theorem dX9_enter_2 : decode cX9_enter 2 = .ok (.putfield 38, 3) := by decide +kernel
theorem dX9_enter_5 : decode cX9_enter 5 = .ok (.aload_n 0, 1) := by decide +kernel
theorem dX9_enter_6 : decode cX9_enter 6 = .ok (.iconst 0, 1) := by decide +kernel
theorem dX9_enter_7 : decode cX9_enter 7 = .ok (.putfield 41, 3) := by decide +kernel
theorem dX9_enter_10 : decode cX9_enter 10 = .ok (.aload_n 0, 1) := by decide +kernel
theorem dX9_enter_11 : decode cX9_enter 11 = .ok (.getfield 11, 3) := by decide +kernel
theorem dX9_enter_14 : decode cX9_enter 14 = .ok (.iconst 0, 1) := by decide +kernel
theorem dX9_enter_15 : decode cX9_enter 15 = .ok (.invokestatic 44, 3) := by decide +kernel
theorem dX9_enter_18 : decode cX9_enter 18 = .ok (.return_, 1) := by decide +kernel
theorem dX9_look_0 : decode cX9_look 0 = .ok (.aload_n 1, 1) := by decide +kernel
theorem dX9_look_1 : decode cX9_look 1 = .ok (.aload_n 0, 1) := by decide +kernel
theorem dX9_look_2 : decode cX9_look 2 = .ok (.getfield 38, 3) := by decide +kernel
theorem dX9_look_5 : decode cX9_look 5 = .ok (.invokevirtual 50, 3) := by decide +kernel
theorem dX9_look_8 : decode cX9_look 8 = .ok (.aload_n 0, 1) := by decide +kernel
theorem dX9_look_9 : decode cX9_look 9 = .ok (.getfield 11, 3) := by decide +kernel
theorem dX9_look_12 : decode cX9_look 12 = .ok (.arraylength, 1) := by decide +kernel
theorem dX9_look_13 : decode cX9_look 13 = .ok (.invokestatic 54, 3) := by decide +kernel
theorem dX9_look_16 : decode cX9_look 16 = .ok (.istore 4, 2) := by decide +kernel
theorem dX9_look_18 : decode cX9_look 18 = .ok (.iconst 0, 1) := by decide +kernel
theorem dX9_look_19 : decode cX9_look 19 = .ok (.istore 5, 2) := by decide +kernel
theorem dX9_look_21 : decode cX9_look 21 = .ok (.iload 5, 2) := by decide +kernel
theorem dX9_look_23 : decode cX9_look 23 = .ok (.iload 4, 2) := by decide +kernel
theorem dX9_look_25 : decode cX9_look 25 = .ok (.if_icmp .ge 78, 3) := by decide +kernel
theorem dX9_look_28 : decode cX9_look 28 = .ok (.aload_n 1, 1) := by decide +kernel
theorem dX9_look_29 : decode cX9_look 29 = .ok (.aload_n 0, 1) := by decide +kernel
theorem dX9_look_30 : decode cX9_look 30 = .ok (.getfield 38, 3) := by decide +kernel
theorem dX9_look_33 : decode cX9_look 33 = .ok (.iload 5, 2) := by decide +kernel
theorem dX9_look_35 : decode cX9_look 35 = .ok (.invokevirtual 60, 3) := by decide +kernel
theorem dX9_look_38 : decode cX9_look 38 = .ok (.istore 6, 2) := by decide +kernel
theorem dX9_look_40 : decode cX9_look 40 = .ok (.aload_n 1, 1) := by decide +kernel
theorem dX9_look_41 : decode cX9_look 41 = .ok (.iload 6, 2) := by decide +kernel
theorem dX9_look_43 : decode cX9_look 43 = .ok (.aload_n 2, 1) := by decide +kernel
theorem dX9_look_44 : decode cX9_look 44 = .ok (.iload_n 3, 1) := by decide +kernel
theorem dX9_look_45 : decode cX9_look 45 = .ok (.aload_n 0, 1) := by decide +kernel
theorem dX9_look_46 : decode cX9_look 46 = .ok (.getfield 41, 3) := by decide +kernel
theorem dX9_look_49 : decode cX9_look 49 = .ok (.invokevirtual 63, 3) := by decide +kernel
theorem dX9_look_52 : decode cX9_look 52 = .ok (.ifCond .ne 6, 3) := by decide +kernel
theorem dX9_look_55 : decode cX9_look 55 = .ok (.goto 42, 3) := by decide +kernel
theorem dX9_look_58 : decode cX9_look 58 = .ok (.aload_n 0, 1) := by decide +kernel
theorem dX9_look_59 : decode cX9_look 59 = .ok (.getfield 11, 3) := by decide +kernel
theorem dX9_look_62 : decode cX9_look 62 = .ok (.iload 5, 2) := by decide +kernel
theorem dX9_look_64 : decode cX9_look 64 = .ok (.dup2, 1) := by decide +kernel
theorem dX9_look_65 : decode cX9_look 65 = .ok (.iaload, 1) := by decide +kernel
theorem dX9_look_66 : decode cX9_look 66 = .ok (.iconst 1, 1) := by decide +kernel
theorem dX9_look_67 : decode cX9_look 67 = .ok (.iadd, 1) := by decide +kernel
theorem dX9_look_68 : decode cX9_look 68 = .ok (.iastore, 1) := by decide +kernel
theorem dX9_look_69 : decode cX9_look 69 = .ok (.aload_n 0, 1) := by decide +kernel
theorem dX9_look_70 : decode cX9_look 70 = .ok (.getfield 11, 3) := by decide +kernel
theorem dX9_look_73 : decode cX9_look 73 = .ok (.iload 5, 2) := by decide +kernel
theorem dX9_look_75 : decode cX9_look 75 = .ok (.iaload, 1) := by decide +kernel
theorem dX9_look_76 : decode cX9_look 76 = .ok (.aload_n 1, 1) := by decide +kernel
theorem dX9_look_77 : decode cX9_look 77 = .ok (.iload 6, 2) := by decide +kernel
theorem dX9_look_79 : decode cX9_look 79 = .ok (.invokevirtual 67, 3) := by decide +kernel
theorem dX9_look_82 : decode cX9_look 82 = .ok (.if_icmp .ne 15, 3) := by decide +kernel
theorem dX9_look_85 : decode cX9_look 85 = .ok (.aload_n 0, 1) := by decide +kernel
theorem dX9_look_86 : decode cX9_look 86 = .ok (.aload_n 1, 1) := by decide +kernel
theorem dX9_look_87 : decode cX9_look 87 = .ok (.iload 6, 2) := by decide +kernel
theorem dX9_look_89 : decode cX9_look 89 = .ok (.invokevirtual 70, 3) := by decide +kernel
theorem dX9_look_92 : decode cX9_look 92 = .ok (.iload_n 3, 1) := by decide +kernel
theorem dX9_look_93 : decode cX9_look 93 = .ok (.invokevirtual 73, 3) := by decide +kernel
theorem dX9_look_96 : decode cX9_look 96 = .ok (.return_, 1) := by decide +kernel
theorem dX9_look_97 : decode cX9_look 97 = .ok (.iinc 5 1, 3) := by decide +kernel
theorem dX9_look_100 : decode cX9_look 100 = .ok (.goto (-79), 3) := by decide +kernel
theorem dX9_look_103 : decode cX9_look 103 = .ok (.aload_n 0, 1) := by decide +kernel
theorem dX9_look_104 : decode cX9_look 104 = .ok (.dup, 1) := by decide +kernel
theorem dX9_look_105 : decode cX9_look 105 = .ok (.getfield 41, 3) := by decide +kernel
theorem dX9_look_108 : decode cX9_look 108 = .ok (.iconst 1, 1) := by decide +kernel
theorem dX9_look_109 : decode cX9_look 109 = .ok (.iadd, 1) := by decide +kernel
theorem dX9_look_110 : decode cX9_look 110 = .ok (.putfield 41, 3) := by decide +kernel
theorem dX9_look_113 : decode cX9_look 113 = .ok (.return_, 1) := by decide +kernel
theorem dX9_leave_0 : decode cX9_leave 0 = .ok (.iload_n 1, 1) := by decide +kernel
theorem dX9_leave_1 : decode cX9_leave 1 = .ok (.bipush 8, 2) := by decide +kernel
theorem dX9_leave_3 : decode cX9_leave 3 = .ok (.if_icmp .ne 17, 3) := by decide +kernel
theorem dX9_leave_6 : decode cX9_leave 6 = .ok (.aload_n 0, 1) := by decide +kernel
theorem dX9_leave_7 : decode cX9_leave 7 = .ok (.iload_n 2, 1) := by decide +kernel
theorem dX9_leave_8 : decode cX9_leave 8 = .ok (.putfield 17, 3) := by decide +kernel
theorem dX9_leave_11 : decode cX9_leave 11 = .ok (.aload_n 0, 1) := by decide +kernel
theorem dX9_leave_12 : decode cX9_leave 12 = .ok (.bipush 8, 2) := by decide +kernel
theorem dX9_leave_14 : decode cX9_leave 14 = .ok (.putfield 38, 3) := by decide +kernel
theorem dX9_leave_17 : decode cX9_leave 17 = .ok (.goto 18, 3) := by decide +kernel
theorem dX9_leave_20 : decode cX9_leave 20 = .ok (.aload_n 0, 1) := by decide +kernel
theorem dX9_leave_21 : decode cX9_leave 21 = .ok (.dup, 1) := by decide +kernel
theorem dX9_leave_22 : decode cX9_leave 22 = .ok (.getfield 21, 3) := by decide +kernel
theorem dX9_leave_25 : decode cX9_leave 25 = .ok (.iconst 1, 1) := by decide +kernel
theorem dX9_leave_26 : decode cX9_leave 26 = .ok (.iadd, 1) := by decide +kernel
theorem dX9_leave_27 : decode cX9_leave 27 = .ok (.putfield 21, 3) := by decide +kernel
theorem dX9_leave_30 : decode cX9_leave 30 = .ok (.aload_n 0, 1) := by decide +kernel
theorem dX9_leave_31 : decode cX9_leave 31 = .ok (.iload_n 1, 1) := by decide +kernel
theorem dX9_leave_32 : decode cX9_leave 32 = .ok (.invokevirtual 27, 3) := by decide +kernel
theorem dX9_leave_35 : decode cX9_leave 35 = .ok (.return_, 1) := by decide +kernel
theorem dX10_init_0 : decode cX10_init 0 = .ok (.aload_n 0, 1) := by decide +kernel
theorem dX10_init_1 : decode cX10_init 1 = .ok (.invokespecial 1, 3) := by decide +kernel
theorem dX10_init_4 : decode cX10_init 4 = .ok (.aload_n 0, 1) := by decide +kernel
theorem dX10_init_5 : decode cX10_init 5 = .ok (.new 7, 3) := by decide +kernel
theorem dX10_init_8 : decode cX10_init 8 = .ok (.dup, 1) := by decide +kernel
theorem dX10_init_9 : decode cX10_init 9 = .ok (.invokespecial 9, 3) := by decide +kernel
theorem dX10_init_12 : decode cX10_init 12 = .ok (.putfield 10, 3) := by decide +kernel
theorem dX10_init_15 : decode cX10_init 15 = .ok (.aload_n 0, 1) := by decide +kernel
theorem dX10_init_16 : decode cX10_init 16 = .ok (.new 16, 3) := by decide +kernel
theorem dX10_init_19 : decode cX10_init 19 = .ok (.dup, 1) := by decide +kernel
theorem dX10_init_20 : decode cX10_init 20 = .ok (.invokespecial 18, 3) := by decide +kernel
theorem dX10_init_23 : decode cX10_init 23 = .ok (.putfield 19, 3) := by decide +kernel
theorem dX10_init_26 : decode cX10_init 26 = .ok (.aload_n 0, 1) := by decide +kernel
theorem dX10_init_27 : decode cX10_init 27 = .ok (.new 16, 3) := by decide +kernel
theorem dX10_init_30 : decode cX10_init 30 = .ok (.dup, 1) := by decide +kernel
theorem dX10_init_31 : decode cX10_init 31 = .ok (.invokespecial 18, 3) := by decide +kernel
theorem dX10_init_34 : decode cX10_init 34 = .ok (.putfield 23, 3) := by decide +kernel
theorem dX10_init_37 : decode cX10_init 37 = .ok (.aload_n 0, 1) := by decide +kernel
theorem dX10_init_38 : decode cX10_init 38 = .ok (.iconst 2, 1) := by decide +kernel
theorem dX10_init_39 : decode cX10_init 39 = .ok (.anewarray 16, 3) := by decide +kernel
theorem dX10_init_42 : decode cX10_init 42 = .ok (.dup, 1) := by decide +kernel
theorem dX10_init_43 : decode cX10_init 43 = .ok (.iconst 0, 1) := by decide +kernel
theorem dX10_init_44 : decode cX10_init 44 = .ok (.new 16, 3) := by decide +kernel
theorem dX10_init_47 : decode cX10_init 47 = .ok (.dup, 1) := by decide +kernel
theorem dX10_init_48 : decode cX10_init 48 = .ok (.invokespecial 18, 3) := by decide +kernel
theorem dX10_init_51 : decode cX10_init 51 = .ok (.aastore, 1) := by decide +kernel
theorem dX10_init_52 : decode cX10_init 52 = .ok (.dup, 1) := by decide +kernel
theorem dX10_init_53 : decode cX10_init 53 = .ok (.iconst 1, 1) := by decide +kernel
theorem dX10_init_54 : decode cX10_init 54 = .ok (.new 16, 3) := by decide +kernel
theorem dX10_init_57 : decode cX10_init 57 = .ok (.dup, 1) := by decide +kernel
theorem dX10_init_58 : decode cX10_init 58 = .ok (.invokespecial 18, 3) := by decide +kernel
theorem dX10_init_61 : decode cX10_init 61 = .ok (.aastore, 1) := by decide +kernel
theorem dX10_init_62 : decode cX10_init 62 = .ok (.putfield 26, 3) := by decide +kernel
theorem dX10_init_65 : decode cX10_init 65 = .ok (.aload_n 0, 1) := by decide +kernel
theorem dX10_init_66 : decode cX10_init 66 = .ok (.iconst 4, 1) := by decide +kernel
theorem dX10_init_67 : decode cX10_init 67 = .ok (.anewarray 30, 3) := by decide +kernel
theorem dX10_init_70 : decode cX10_init 70 = .ok (.dup, 1) := by decide +kernel
theorem dX10_init_71 : decode cX10_init 71 = .ok (.iconst 0, 1) := by decide +kernel
theorem dX10_init_72 : decode cX10_init 72 = .ok (.new 30, 3) := by decide +kernel
theorem dX10_init_75 : decode cX10_init 75 = .ok (.dup, 1) := by decide +kernel
theorem dX10_init_76 : decode cX10_init 76 = .ok (.invokespecial 32, 3) := by decide +kernel
theorem dX10_init_79 : decode cX10_init 79 = .ok (.aastore, 1) := by decide +kernel
theorem dX10_init_80 : decode cX10_init 80 = .ok (.dup, 1) := by decide +kernel
theorem dX10_init_81 : decode cX10_init 81 = .ok (.iconst 1, 1) := by decide +kernel
theorem dX10_init_82 : decode cX10_init 82 = .ok (.new 30, 3) := by decide +kernel
theorem dX10_init_85 : decode cX10_init 85 = .ok (.dup, 1) := by decide +kernel
theorem dX10_init_86 : decode cX10_init 86 = .ok (.invokespecial 32, 3) := by decide +kernel
theorem dX10_init_89 : decode cX10_init 89 = .ok (.aastore, 1) := by decide +kernel
theorem dX10_init_90 : decode cX10_init 90 = .ok (.dup, 1) := by decide +kernel
theorem dX10_init_91 : decode cX10_init 91 = .ok (.iconst 2, 1) := by decide +kernel
theorem dX10_init_92 : decode cX10_init 92 = .ok (.new 30, 3) := by decide +kernel
theorem dX10_init_95 : decode cX10_init 95 = .ok (.dup, 1) := by decide +kernel
theorem dX10_init_96 : decode cX10_init 96 = .ok (.invokespecial 32, 3) := by decide +kernel
theorem dX10_init_99 : decode cX10_init 99 = .ok (.aastore, 1) := by decide +kernel
theorem dX10_init_100 : decode cX10_init 100 = .ok (.dup, 1) := by decide +kernel
theorem dX10_init_101 : decode cX10_init 101 = .ok (.iconst 3, 1) := by decide +kernel
theorem dX10_init_102 : decode cX10_init 102 = .ok (.new 30, 3) := by decide +kernel
theorem dX10_init_105 : decode cX10_init 105 = .ok (.dup, 1) := by decide +kernel
theorem dX10_init_106 : decode cX10_init 106 = .ok (.invokespecial 32, 3) := by decide +kernel
theorem dX10_init_109 : decode cX10_init 109 = .ok (.aastore, 1) := by decide +kernel
theorem dX10_init_110 : decode cX10_init 110 = .ok (.putfield 33, 3) := by decide +kernel
theorem dX10_init_113 : decode cX10_init 113 = .ok (.aload_n 0, 1) := by decide +kernel
theorem dX10_init_114 : decode cX10_init 114 = .ok (.new 37, 3) := by decide +kernel
theorem dX10_init_117 : decode cX10_init 117 = .ok (.dup, 1) := by decide +kernel
theorem dX10_init_118 : decode cX10_init 118 = .ok (.invokespecial 39, 3) := by decide +kernel
theorem dX10_init_121 : decode cX10_init 121 = .ok (.putfield 40, 3) := by decide +kernel
theorem dX10_init_124 : decode cX10_init 124 = .ok (.aload_n 0, 1) := by decide +kernel
theorem dX10_init_125 : decode cX10_init 125 = .ok (.new 44, 3) := by decide +kernel
theorem dX10_init_128 : decode cX10_init 128 = .ok (.dup, 1) := by decide +kernel
theorem dX10_init_129 : decode cX10_init 129 = .ok (.invokespecial 46, 3) := by decide +kernel
theorem dX10_init_132 : decode cX10_init 132 = .ok (.putfield 47, 3) := by decide +kernel
theorem dX10_init_135 : decode cX10_init 135 = .ok (.aload_n 0, 1) := by decide +kernel
theorem dX10_init_136 : decode cX10_init 136 = .ok (.new 51, 3) := by decide +kernel
theorem dX10_init_139 : decode cX10_init 139 = .ok (.dup, 1) := by decide +kernel
theorem dX10_init_140 : decode cX10_init 140 = .ok (.invokespecial 53, 3) := by decide +kernel
theorem dX10_init_143 : decode cX10_init 143 = .ok (.putfield 54, 3) := by decide +kernel
theorem dX10_init_146 : decode cX10_init 146 = .ok (.aload_n 0, 1) := by decide +kernel
theorem dX10_init_147 : decode cX10_init 147 = .ok (.new 58, 3) := by decide +kernel
theorem dX10_init_150 : decode cX10_init 150 = .ok (.dup, 1) := by decide +kernel
theorem dX10_init_151 : decode cX10_init 151 = .ok (.invokespecial 60, 3) := by decide +kernel
theorem dX10_init_154 : decode cX10_init 154 = .ok (.putfield 61, 3) := by decide +kernel
theorem dX10_init_157 : decode cX10_init 157 = .ok (.aload_n 0, 1) := by decide +kernel
theorem dX10_init_158 : decode cX10_init 158 = .ok (.new 65, 3) := by decide +kernel
theorem dX10_init_161 : decode cX10_init 161 = .ok (.dup, 1) := by decide +kernel
theorem dX10_init_162 : decode cX10_init 162 = .ok (.invokespecial 67, 3) := by decide +kernel
theorem dX10_init_165 : decode cX10_init 165 = .ok (.putfield 68, 3) := by decide +kernel
theorem dX10_init_168 : decode cX10_init 168 = .ok (.aload_n 0, 1) := by decide +kernel
theorem dX10_init_169 : decode cX10_init 169 = .ok (.new 72, 3) := by decide +kernel
theorem dX10_init_172 : decode cX10_init 172 = .ok (.dup, 1) := by decide +kernel
theorem dX10_init_173 : decode cX10_init 173 = .ok (.invokespecial 74, 3) := by decide +kernel
theorem dX10_init_176 : decode cX10_init 176 = .ok (.putfield 75, 3) := by decide +kernel
theorem dX10_init_179 : decode cX10_init 179 = .ok (.return_, 1) := by decide +kernel
theorem dX10_feed_0 : decode cX10_feed 0 = .ok (.aload_n 0, 1) := by decide +kernel
theorem dX10_feed_1 : decode cX10_feed 1 = .ok (.getfield 10, 3) := by decide +kernel
theorem dX10_feed_4 : decode cX10_feed 4 = .ok (.getfield 79, 3) := by decide +kernel
theorem dX10_feed_7 : decode cX10_feed 7 = .ok (.astore_n 3, 1) := by decide +kernel
theorem dX10_feed_8 : decode cX10_feed 8 = .ok (.aload_n 3, 1) := by decide +kernel
theorem dX10_feed_9 : decode cX10_feed 9 = .ok (.getfield 83, 3) := by decide +kernel
theorem dX10_feed_12 : decode cX10_feed 12 = .ok (.bipush 8, 2) := by decide +kernel
theorem dX10_feed_14 : decode cX10_feed 14 = .ok (.iadd, 1) := by decide +kernel
theorem dX10_feed_15 : decode cX10_feed 15 = .ok (.sipush 400, 3) := by decide +kernel
theorem dX10_feed_18 : decode cX10_feed 18 = .ok (.if_icmp .le 6, 3) := by decide +kernel
theorem dX10_feed_21 : decode cX10_feed 21 = .ok (.bipush (-3), 2) := by decide +kernel
theorem dX10_feed_23 : decode cX10_feed 23 = .ok (.ireturn, 1) := by decide +kernel
theorem dX10_feed_24 : decode cX10_feed 24 = .ok (.aload_n 3, 1) := by decide +kernel
theorem dX10_feed_25 : decode cX10_feed 25 = .ok (.lload_n 1, 1) := by decide +kernel
theorem dX10_feed_26 : decode cX10_feed 26 = .ok (.invokevirtual 89, 3) := by decide +kernel
theorem dX10_feed_29 : decode cX10_feed 29 = .ok (.aload_n 3, 1) := by decide +kernel
theorem dX10_feed_30 : decode cX10_feed 30 = .ok (.getfield 83, 3) := by decide +kernel
theorem dX10_feed_33 : decode cX10_feed 33 = .ok (.ireturn, 1) := by decide +kernel
theorem dX10_end_0 : decode cX10_end 0 = .ok (.aload_n 0, 1) := by decide +kernel
theorem dX10_end_1 : decode cX10_end 1 = .ok (.getfield 10, 3) := by decide +kernel
theorem dX10_end_4 : decode cX10_end 4 = .ok (.getfield 79, 3) := by decide +kernel
theorem dX10_end_7 : decode cX10_end 7 = .ok (.astore_n 2, 1) := by decide +kernel
theorem dX10_end_8 : decode cX10_end 8 = .ok (.iload_n 1, 1) := by decide +kernel
theorem dX10_end_9 : decode cX10_end 9 = .ok (.iconst 0, 1) := by decide +kernel
theorem dX10_end_10 : decode cX10_end 10 = .ok (.aload_n 2, 1) := by decide +kernel
theorem dX10_end_11 : decode cX10_end 11 = .ok (.getfield 83, 3) := by decide +kernel
theorem dX10_end_14 : decode cX10_end 14 = .ok (.invokestatic 93, 3) := by decide +kernel
theorem dX10_end_17 : decode cX10_end 17 = .ok (.ifCond .ne 5, 3) := by decide +kernel
theorem dX10_end_20 : decode cX10_end 20 = .ok (.iconst (-1), 1) := by decide +kernel
theorem dX10_end_21 : decode cX10_end 21 = .ok (.ireturn, 1) := by decide +kernel
theorem dX10_end_22 : decode cX10_end 22 = .ok (.aload_n 2, 1) := by decide +kernel
theorem dX10_end_23 : decode cX10_end 23 = .ok (.getfield 83, 3) := by decide +kernel
theorem dX10_end_26 : decode cX10_end 26 = .ok (.istore_n 3, 1) := by decide +kernel
theorem dX10_end_27 : decode cX10_end 27 = .ok (.aload_n 2, 1) := by decide +kernel
theorem dX10_end_28 : decode cX10_end 28 = .ok (.iload_n 1, 1) := by decide +kernel
theorem dX10_end_29 : decode cX10_end 29 = .ok (.putfield 83, 3) := by decide +kernel
theorem dX10_end_32 : decode cX10_end 32 = .ok (.iload_n 3, 1) := by decide +kernel
theorem dX10_end_33 : decode cX10_end 33 = .ok (.ireturn, 1) := by decide +kernel
theorem dX10_text_0 : decode cX10_text 0 = .ok (.aload_n 0, 1) := by decide +kernel
theorem dX10_text_1 : decode cX10_text 1 = .ok (.getfield 10, 3) := by decide +kernel
theorem dX10_text_4 : decode cX10_text 4 = .ok (.getfield 79, 3) := by decide +kernel
theorem dX10_text_7 : decode cX10_text 7 = .ok (.astore_n 1, 1) := by decide +kernel
theorem dX10_text_8 : decode cX10_text 8 = .ok (.aload_n 1, 1) := by decide +kernel
theorem dX10_text_9 : decode cX10_text 9 = .ok (.invokevirtual 97, 3) := by decide +kernel
theorem dX10_text_12 : decode cX10_text 12 = .ok (.aload_n 0, 1) := by decide +kernel
theorem dX10_text_13 : decode cX10_text 13 = .ok (.getfield 10, 3) := by decide +kernel
theorem dX10_text_16 : decode cX10_text 16 = .ok (.invokevirtual 100, 3) := by decide +kernel
theorem dX10_text_19 : decode cX10_text 19 = .ok (.aload_n 1, 1) := by decide +kernel
theorem dX10_text_20 : decode cX10_text 20 = .ok (.iconst 0, 1) := by decide +kernel
theorem dX10_text_21 : decode cX10_text 21 = .ok (.putfield 83, 3) := by decide +kernel
theorem dX10_text_24 : decode cX10_text 24 = .ok (.aload_n 0, 1) := by decide +kernel
theorem dX10_text_25 : decode cX10_text 25 = .ok (.aload_n 0, 1) := by decide +kernel
theorem dX10_text_26 : decode cX10_text 26 = .ok (.getfield 10, 3) := by decide +kernel
theorem dX10_text_29 : decode cX10_text 29 = .ok (.getfield 103, 3) := by decide +kernel
theorem dX10_text_32 : decode cX10_text 32 = .ok (.putfield 106, 3) := by decide +kernel
theorem dX10_text_35 : decode cX10_text 35 = .ok (.aload_n 0, 1) := by decide +kernel
theorem dX10_text_36 : decode cX10_text 36 = .ok (.getfield 10, 3) := by decide +kernel
theorem dX10_text_39 : decode cX10_text 39 = .ok (.getfield 103, 3) := by decide +kernel
theorem dX10_text_42 : decode cX10_text 42 = .ok (.ifCond .eq 14, 3) := by decide +kernel
theorem dX10_text_45 : decode cX10_text 45 = .ok (.bipush (-10), 2) := by decide +kernel
theorem dX10_text_47 : decode cX10_text 47 = .ok (.aload_n 0, 1) := by decide +kernel
theorem dX10_text_48 : decode cX10_text 48 = .ok (.getfield 10, 3) := by decide +kernel
theorem dX10_text_51 : decode cX10_text 51 = .ok (.getfield 109, 3) := by decide +kernel
theorem dX10_text_54 : decode cX10_text 54 = .ok (.isub, 1) := by decide +kernel
theorem dX10_text_55 : decode cX10_text 55 = .ok (.ireturn, 1) := by decide +kernel
theorem dX10_text_56 : decode cX10_text 56 = .ok (.aload_n 0, 1) := by decide +kernel
theorem dX10_text_57 : decode cX10_text 57 = .ok (.aload_n 0, 1) := by decide +kernel
theorem dX10_text_58 : decode cX10_text 58 = .ok (.getfield 10, 3) := by decide +kernel
theorem dX10_text_61 : decode cX10_text 61 = .ok (.aload_n 0, 1) := by decide +kernel
theorem dX10_text_62 : decode cX10_text 62 = .ok (.getfield 75, 3) := by decide +kernel
theorem dX10_text_65 : decode cX10_text 65 = .ok (.invokevirtual 112, 3) := by decide +kernel
theorem dX10_text_68 : decode cX10_text 68 = .ok (.putfield 75, 3) := by decide +kernel
theorem dX10_text_71 : decode cX10_text 71 = .ok (.aload_n 0, 1) := by decide +kernel
theorem dX10_text_72 : decode cX10_text 72 = .ok (.getfield 10, 3) := by decide +kernel
theorem dX10_text_75 : decode cX10_text 75 = .ok (.getfield 116, 3) := by decide +kernel
theorem dX10_text_78 : decode cX10_text 78 = .ok (.ireturn, 1) := by decide +kernel
theorem dX10_fault_0 : decode cX10_fault 0 = .ok (.aload_n 0, 1) := by decide +kernel
theorem dX10_fault_1 : decode cX10_fault 1 = .ok (.getfield 106, 3) := by decide +kernel
theorem dX10_fault_4 : decode cX10_fault 4 = .ok (.ireturn, 1) := by decide +kernel
theorem dX10_rule_0 : decode cX10_rule 0 = .ok (.iload_n 1, 1) := by decide +kernel
theorem dX10_rule_1 : decode cX10_rule 1 = .ok (.tableswitch 65 0 3 #[31, 39, 47, 55], 31) := by decide +kernel
theorem dX10_rule_32 : decode cX10_rule 32 = .ok (.aload_n 0, 1) := by decide +kernel
theorem dX10_rule_33 : decode cX10_rule 33 = .ok (.getfield 75, 3) := by decide +kernel
theorem dX10_rule_36 : decode cX10_rule 36 = .ok (.getfield 119, 3) := by decide +kernel
theorem dX10_rule_39 : decode cX10_rule 39 = .ok (.ireturn, 1) := by decide +kernel
theorem dX10_rule_40 : decode cX10_rule 40 = .ok (.aload_n 0, 1) := by decide +kernel
theorem dX10_rule_41 : decode cX10_rule 41 = .ok (.getfield 75, 3) := by decide +kernel
theorem dX10_rule_44 : decode cX10_rule 44 = .ok (.getfield 122, 3) := by decide +kernel
theorem dX10_rule_47 : decode cX10_rule 47 = .ok (.ireturn, 1) := by decide +kernel
theorem dX10_rule_48 : decode cX10_rule 48 = .ok (.aload_n 0, 1) := by decide +kernel
theorem dX10_rule_49 : decode cX10_rule 49 = .ok (.getfield 75, 3) := by decide +kernel
theorem dX10_rule_52 : decode cX10_rule 52 = .ok (.getfield 125, 3) := by decide +kernel
theorem dX10_rule_55 : decode cX10_rule 55 = .ok (.ireturn, 1) := by decide +kernel
theorem dX10_rule_56 : decode cX10_rule 56 = .ok (.aload_n 0, 1) := by decide +kernel
theorem dX10_rule_57 : decode cX10_rule 57 = .ok (.getfield 75, 3) := by decide +kernel
theorem dX10_rule_60 : decode cX10_rule 60 = .ok (.bipush 24, 2) := by decide +kernel
theorem dX10_rule_62 : decode cX10_rule 62 = .ok (.invokevirtual 128, 3) := by decide +kernel
theorem dX10_rule_65 : decode cX10_rule 65 = .ok (.ireturn, 1) := by decide +kernel
theorem dX10_rule_66 : decode cX10_rule 66 = .ok (.iload_n 1, 1) := by decide +kernel
theorem dX10_rule_67 : decode cX10_rule 67 = .ok (.bipush 10, 2) := by decide +kernel
theorem dX10_rule_69 : decode cX10_rule 69 = .ok (.bipush 9, 2) := by decide +kernel
theorem dX10_rule_71 : decode cX10_rule 71 = .ok (.aload_n 0, 1) := by decide +kernel
theorem dX10_rule_72 : decode cX10_rule 72 = .ok (.getfield 75, 3) := by decide +kernel
theorem dX10_rule_75 : decode cX10_rule 75 = .ok (.getfield 119, 3) := by decide +kernel
theorem dX10_rule_78 : decode cX10_rule 78 = .ok (.iadd, 1) := by decide +kernel
theorem dX10_rule_79 : decode cX10_rule 79 = .ok (.invokestatic 93, 3) := by decide +kernel
theorem dX10_rule_82 : decode cX10_rule 82 = .ok (.ifCond .eq 17, 3) := by decide +kernel
theorem dX10_rule_85 : decode cX10_rule 85 = .ok (.aload_n 0, 1) := by decide +kernel
theorem dX10_rule_86 : decode cX10_rule 86 = .ok (.getfield 75, 3) := by decide +kernel
theorem dX10_rule_89 : decode cX10_rule 89 = .ok (.iload_n 1, 1) := by decide +kernel
theorem dX10_rule_90 : decode cX10_rule 90 = .ok (.bipush 10, 2) := by decide +kernel
theorem dX10_rule_92 : decode cX10_rule 92 = .ok (.isub, 1) := by decide +kernel
theorem dX10_rule_93 : decode cX10_rule 93 = .ok (.invokevirtual 132, 3) := by decide +kernel
theorem dX10_rule_96 : decode cX10_rule 96 = .ok (.goto 4, 3) := by decide +kernel
theorem dX10_rule_99 : decode cX10_rule 99 = .ok (.iconst (-1), 1) := by decide +kernel
theorem dX10_rule_100 : decode cX10_rule 100 = .ok (.ireturn, 1) := by decide +kernel
theorem dX10_branch_0 : decode cX10_branch 0 = .ok (.aload_n 0, 1) := by decide +kernel
theorem dX10_branch_1 : decode cX10_branch 1 = .ok (.getfield 75, 3) := by decide +kernel
theorem dX10_branch_4 : decode cX10_branch 4 = .ok (.iload_n 1, 1) := by decide +kernel
theorem dX10_branch_5 : decode cX10_branch 5 = .ok (.iload_n 2, 1) := by decide +kernel
theorem dX10_branch_6 : decode cX10_branch 6 = .ok (.invokevirtual 135, 3) := by decide +kernel
theorem dX10_branch_9 : decode cX10_branch 9 = .ok (.istore 4, 2) := by decide +kernel
theorem dX10_branch_11 : decode cX10_branch 11 = .ok (.iload 4, 2) := by decide +kernel
theorem dX10_branch_13 : decode cX10_branch 13 = .ok (.ifCond .ge 5, 3) := by decide +kernel
theorem dX10_branch_16 : decode cX10_branch 16 = .ok (.iconst (-1), 1) := by decide +kernel
theorem dX10_branch_17 : decode cX10_branch 17 = .ok (.ireturn, 1) := by decide +kernel
theorem dX10_branch_18 : decode cX10_branch 18 = .ok (.aload_n 0, 1) := by decide +kernel
theorem dX10_branch_19 : decode cX10_branch 19 = .ok (.getfield 75, 3) := by decide +kernel
theorem dX10_branch_22 : decode cX10_branch 22 = .ok (.iload 4, 2) := by decide +kernel
theorem dX10_branch_24 : decode cX10_branch 24 = .ok (.invokevirtual 128, 3) := by decide +kernel
theorem dX10_branch_27 : decode cX10_branch 27 = .ok (.istore 5, 2) := by decide +kernel
theorem dX10_branch_29 : decode cX10_branch 29 = .ok (.iload_n 3, 1) := by decide +kernel
theorem dX10_branch_30 : decode cX10_branch 30 = .ok (.bipush 10, 2) := by decide +kernel
theorem dX10_branch_32 : decode cX10_branch 32 = .ok (.bipush 9, 2) := by decide +kernel
theorem dX10_branch_34 : decode cX10_branch 34 = .ok (.iload 5, 2) := by decide +kernel
theorem dX10_branch_36 : decode cX10_branch 36 = .ok (.iadd, 1) := by decide +kernel
theorem dX10_branch_37 : decode cX10_branch 37 = .ok (.invokestatic 93, 3) := by decide +kernel
theorem dX10_branch_40 : decode cX10_branch 40 = .ok (.ifCond .eq 17, 3) := by decide +kernel
theorem dX10_branch_43 : decode cX10_branch 43 = .ok (.aload_n 0, 1) := by decide +kernel
theorem dX10_branch_44 : decode cX10_branch 44 = .ok (.getfield 75, 3) := by decide +kernel
theorem dX10_branch_47 : decode cX10_branch 47 = .ok (.iload 4, 2) := by decide +kernel
theorem dX10_branch_49 : decode cX10_branch 49 = .ok (.iload_n 3, 1) := by decide +kernel
theorem dX10_branch_50 : decode cX10_branch 50 = .ok (.bipush 10, 2) := by decide +kernel
theorem dX10_branch_52 : decode cX10_branch 52 = .ok (.isub, 1) := by decide +kernel
theorem dX10_branch_53 : decode cX10_branch 53 = .ok (.invokevirtual 139, 3) := by decide +kernel
theorem dX10_branch_56 : decode cX10_branch 56 = .ok (.ireturn, 1) := by decide +kernel
theorem dX10_branch_57 : decode cX10_branch 57 = .ok (.iload_n 3, 1) := by decide +kernel
theorem dX10_branch_58 : decode cX10_branch 58 = .ok (.bipush 20, 2) := by decide +kernel
theorem dX10_branch_60 : decode cX10_branch 60 = .ok (.bipush 19, 2) := by decide +kernel
theorem dX10_branch_62 : decode cX10_branch 62 = .ok (.iload 5, 2) := by decide +kernel
theorem dX10_branch_64 : decode cX10_branch 64 = .ok (.iadd, 1) := by decide +kernel
theorem dX10_branch_65 : decode cX10_branch 65 = .ok (.invokestatic 93, 3) := by decide +kernel
theorem dX10_branch_68 : decode cX10_branch 68 = .ok (.ifCond .eq 17, 3) := by decide +kernel
theorem dX10_branch_71 : decode cX10_branch 71 = .ok (.aload_n 0, 1) := by decide +kernel
theorem dX10_branch_72 : decode cX10_branch 72 = .ok (.getfield 75, 3) := by decide +kernel
theorem dX10_branch_75 : decode cX10_branch 75 = .ok (.iload 4, 2) := by decide +kernel
theorem dX10_branch_77 : decode cX10_branch 77 = .ok (.iload_n 3, 1) := by decide +kernel
theorem dX10_branch_78 : decode cX10_branch 78 = .ok (.bipush 20, 2) := by decide +kernel
theorem dX10_branch_80 : decode cX10_branch 80 = .ok (.isub, 1) := by decide +kernel
theorem dX10_branch_81 : decode cX10_branch 81 = .ok (.invokevirtual 142, 3) := by decide +kernel
theorem dX10_branch_84 : decode cX10_branch 84 = .ok (.ireturn, 1) := by decide +kernel
theorem dX10_branch_85 : decode cX10_branch 85 = .ok (.iload_n 3, 1) := by decide +kernel
theorem dX10_branch_86 : decode cX10_branch 86 = .ok (.tableswitch 49 0 2 #[26, 29, 39], 26) := by decide +kernel
theorem dX10_branch_112 : decode cX10_branch 112 = .ok (.iload 5, 2) := by decide +kernel
theorem dX10_branch_114 : decode cX10_branch 114 = .ok (.ireturn, 1) := by decide +kernel
theorem dX10_branch_115 : decode cX10_branch 115 = .ok (.aload_n 0, 1) := by decide +kernel
theorem dX10_branch_116 : decode cX10_branch 116 = .ok (.getfield 75, 3) := by decide +kernel
theorem dX10_branch_119 : decode cX10_branch 119 = .ok (.iload 4, 2) := by decide +kernel
theorem dX10_branch_121 : decode cX10_branch 121 = .ok (.invokevirtual 145, 3) := by decide +kernel
theorem dX10_branch_124 : decode cX10_branch 124 = .ok (.ireturn, 1) := by decide +kernel
theorem dX10_branch_125 : decode cX10_branch 125 = .ok (.aload_n 0, 1) := by decide +kernel
theorem dX10_branch_126 : decode cX10_branch 126 = .ok (.getfield 75, 3) := by decide +kernel
theorem dX10_branch_129 : decode cX10_branch 129 = .ok (.iload 4, 2) := by decide +kernel
theorem dX10_branch_131 : decode cX10_branch 131 = .ok (.invokevirtual 148, 3) := by decide +kernel
theorem dX10_branch_134 : decode cX10_branch 134 = .ok (.ireturn, 1) := by decide +kernel
theorem dX10_branch_135 : decode cX10_branch 135 = .ok (.iconst (-1), 1) := by decide +kernel
theorem dX10_branch_136 : decode cX10_branch 136 = .ok (.ireturn, 1) := by decide +kernel
theorem dX10_see_0 : decode cX10_see 0 = .ok (.iload_n 1, 1) := by decide +kernel
theorem dX10_see_1 : decode cX10_see 1 = .ok (.iload_n 2, 1) := by decide +kernel
theorem dX10_see_2 : decode cX10_see 2 = .ok (.aload_n 0, 1) := by decide +kernel
theorem dX10_see_3 : decode cX10_see 3 = .ok (.getfield 19, 3) := by decide +kernel
theorem dX10_see_6 : decode cX10_see 6 = .ok (.getfield 151, 3) := by decide +kernel
theorem dX10_see_9 : decode cX10_see 9 = .ok (.invokestatic 152, 3) := by decide +kernel
theorem dX10_see_12 : decode cX10_see 12 = .ok (.istore_n 3, 1) := by decide +kernel
theorem dX10_see_13 : decode cX10_see 13 = .ok (.iload_n 3, 1) := by decide +kernel
theorem dX10_see_14 : decode cX10_see 14 = .ok (.ifCond .eq 5, 3) := by decide +kernel
theorem dX10_see_17 : decode cX10_see 17 = .ok (.iload_n 3, 1) := by decide +kernel
theorem dX10_see_18 : decode cX10_see 18 = .ok (.ireturn, 1) := by decide +kernel
theorem dX10_see_19 : decode cX10_see 19 = .ok (.aload_n 0, 1) := by decide +kernel
theorem dX10_see_20 : decode cX10_see 20 = .ok (.getfield 19, 3) := by decide +kernel
theorem dX10_see_23 : decode cX10_see 23 = .ok (.iload_n 1, 1) := by decide +kernel
theorem dX10_see_24 : decode cX10_see 24 = .ok (.iload_n 2, 1) := by decide +kernel
theorem dX10_see_25 : decode cX10_see 25 = .ok (.invokevirtual 156, 3) := by decide +kernel
theorem dX10_see_28 : decode cX10_see 28 = .ok (.aload_n 0, 1) := by decide +kernel
theorem dX10_see_29 : decode cX10_see 29 = .ok (.getfield 19, 3) := by decide +kernel
theorem dX10_see_32 : decode cX10_see 32 = .ok (.getfield 151, 3) := by decide +kernel
theorem dX10_see_35 : decode cX10_see 35 = .ok (.ireturn, 1) := by decide +kernel
theorem dX10_cut_0 : decode cX10_cut 0 = .ok (.iload_n 1, 1) := by decide +kernel
theorem dX10_cut_1 : decode cX10_cut 1 = .ok (.iconst 0, 1) := by decide +kernel
theorem dX10_cut_2 : decode cX10_cut 2 = .ok (.aload_n 0, 1) := by decide +kernel
theorem dX10_cut_3 : decode cX10_cut 3 = .ok (.getfield 19, 3) := by decide +kernel
theorem dX10_cut_6 : decode cX10_cut 6 = .ok (.getfield 151, 3) := by decide +kernel
theorem dX10_cut_9 : decode cX10_cut 9 = .ok (.invokestatic 93, 3) := by decide +kernel
theorem dX10_cut_12 : decode cX10_cut 12 = .ok (.ifCond .ne 5, 3) := by decide +kernel
theorem dX10_cut_15 : decode cX10_cut 15 = .ok (.iconst (-1), 1) := by decide +kernel
theorem dX10_cut_16 : decode cX10_cut 16 = .ok (.ireturn, 1) := by decide +kernel
theorem dX10_cut_17 : decode cX10_cut 17 = .ok (.aload_n 0, 1) := by decide +kernel
theorem dX10_cut_18 : decode cX10_cut 18 = .ok (.getfield 19, 3) := by decide +kernel
theorem dX10_cut_21 : decode cX10_cut 21 = .ok (.getfield 151, 3) := by decide +kernel
theorem dX10_cut_24 : decode cX10_cut 24 = .ok (.istore_n 2, 1) := by decide +kernel
theorem dX10_cut_25 : decode cX10_cut 25 = .ok (.aload_n 0, 1) := by decide +kernel
theorem dX10_cut_26 : decode cX10_cut 26 = .ok (.getfield 19, 3) := by decide +kernel
theorem dX10_cut_29 : decode cX10_cut 29 = .ok (.iload_n 1, 1) := by decide +kernel
theorem dX10_cut_30 : decode cX10_cut 30 = .ok (.putfield 151, 3) := by decide +kernel
theorem dX10_cut_33 : decode cX10_cut 33 = .ok (.iload_n 2, 1) := by decide +kernel
theorem dX10_cut_34 : decode cX10_cut 34 = .ok (.ireturn, 1) := by decide +kernel
theorem dX10_at_0 : decode cX10_at 0 = .ok (.aload_n 0, 1) := by decide +kernel
theorem dX10_at_1 : decode cX10_at 1 = .ok (.getfield 19, 3) := by decide +kernel
theorem dX10_at_4 : decode cX10_at 4 = .ok (.iload_n 1, 1) := by decide +kernel
theorem dX10_at_5 : decode cX10_at 5 = .ok (.invokevirtual 159, 3) := by decide +kernel
theorem dX10_at_8 : decode cX10_at 8 = .ok (.ifCond .eq 14, 3) := by decide +kernel
theorem dX10_at_11 : decode cX10_at 11 = .ok (.aload_n 0, 1) := by decide +kernel
theorem dX10_at_12 : decode cX10_at 12 = .ok (.getfield 19, 3) := by decide +kernel
theorem dX10_at_15 : decode cX10_at 15 = .ok (.iload_n 1, 1) := by decide +kernel
theorem dX10_at_16 : decode cX10_at 16 = .ok (.invokevirtual 163, 3) := by decide +kernel
theorem dX10_at_19 : decode cX10_at 19 = .ok (.goto 4, 3) := by decide +kernel
theorem dX10_at_22 : decode cX10_at 22 = .ok (.iconst (-1), 1) := by decide +kernel
theorem dX10_at_23 : decode cX10_at 23 = .ok (.ireturn, 1) := by decide +kernel
theorem dX10_put_0 : decode cX10_put 0 = .ok (.aload_n 0, 1) := by decide +kernel
theorem dX10_put_1 : decode cX10_put 1 = .ok (.getfield 19, 3) := by decide +kernel
theorem dX10_put_4 : decode cX10_put 4 = .ok (.iload_n 1, 1) := by decide +kernel
theorem dX10_put_5 : decode cX10_put 5 = .ok (.invokevirtual 159, 3) := by decide +kernel
theorem dX10_put_8 : decode cX10_put 8 = .ok (.ifCond .eq 14, 3) := by decide +kernel
theorem dX10_put_11 : decode cX10_put 11 = .ok (.iload_n 2, 1) := by decide +kernel
theorem dX10_put_12 : decode cX10_put 12 = .ok (.iconst 0, 1) := by decide +kernel
theorem dX10_put_13 : decode cX10_put 13 = .ok (.sipush 255, 3) := by decide +kernel
theorem dX10_put_16 : decode cX10_put 16 = .ok (.invokestatic 93, 3) := by decide +kernel
theorem dX10_put_19 : decode cX10_put 19 = .ok (.ifCond .ne 5, 3) := by decide +kernel
theorem dX10_put_22 : decode cX10_put 22 = .ok (.iconst (-1), 1) := by decide +kernel
theorem dX10_put_23 : decode cX10_put 23 = .ok (.ireturn, 1) := by decide +kernel
theorem dX10_put_24 : decode cX10_put 24 = .ok (.aload_n 0, 1) := by decide +kernel
theorem dX10_put_25 : decode cX10_put 25 = .ok (.getfield 19, 3) := by decide +kernel
theorem dX10_put_28 : decode cX10_put 28 = .ok (.iload_n 1, 1) := by decide +kernel
theorem dX10_put_29 : decode cX10_put 29 = .ok (.invokevirtual 163, 3) := by decide +kernel
theorem dX10_put_32 : decode cX10_put 32 = .ok (.istore_n 3, 1) := by decide +kernel
theorem dX10_put_33 : decode cX10_put 33 = .ok (.aload_n 0, 1) := by decide +kernel
theorem dX10_put_34 : decode cX10_put 34 = .ok (.getfield 19, 3) := by decide +kernel
theorem dX10_put_37 : decode cX10_put 37 = .ok (.iload_n 1, 1) := by decide +kernel
theorem dX10_put_38 : decode cX10_put 38 = .ok (.iload_n 2, 1) := by decide +kernel
theorem dX10_put_39 : decode cX10_put 39 = .ok (.invokevirtual 166, 3) := by decide +kernel
theorem dX10_put_42 : decode cX10_put 42 = .ok (.iload_n 3, 1) := by decide +kernel
theorem dX10_put_43 : decode cX10_put 43 = .ok (.ireturn, 1) := by decide +kernel
theorem dX10_run_0 : decode cX10_run 0 = .ok (.iload_n 1, 1) := by decide +kernel
theorem dX10_run_1 : decode cX10_run 1 = .ok (.iconst 0, 1) := by decide +kernel
theorem dX10_run_2 : decode cX10_run 2 = .ok (.iconst 3, 1) := by decide +kernel
theorem dX10_run_3 : decode cX10_run 3 = .ok (.invokestatic 93, 3) := by decide +kernel
theorem dX10_run_6 : decode cX10_run 6 = .ok (.ifCond .ne 5, 3) := by decide +kernel
theorem dX10_run_9 : decode cX10_run 9 = .ok (.iconst (-1), 1) := by decide +kernel
theorem dX10_run_10 : decode cX10_run 10 = .ok (.ireturn, 1) := by decide +kernel
theorem dX10_run_11 : decode cX10_run 11 = .ok (.aload_n 0, 1) := by decide +kernel
theorem dX10_run_12 : decode cX10_run 12 = .ok (.getfield 75, 3) := by decide +kernel
theorem dX10_run_15 : decode cX10_run 15 = .ok (.getfield 119, 3) := by decide +kernel
theorem dX10_run_18 : decode cX10_run 18 = .ok (.ifCond .ne 6, 3) := by decide +kernel
theorem dX10_run_21 : decode cX10_run 21 = .ok (.bipush (-2), 2) := by decide +kernel
theorem dX10_run_23 : decode cX10_run 23 = .ok (.ireturn, 1) := by decide +kernel
theorem dX10_run_24 : decode cX10_run 24 = .ok (.aload_n 0, 1) := by decide +kernel
theorem dX10_run_25 : decode cX10_run 25 = .ok (.getfield 40, 3) := by decide +kernel
theorem dX10_run_28 : decode cX10_run 28 = .ok (.aload_n 0, 1) := by decide +kernel
theorem dX10_run_29 : decode cX10_run 29 = .ok (.getfield 75, 3) := by decide +kernel
theorem dX10_run_32 : decode cX10_run 32 = .ok (.aload_n 0, 1) := by decide +kernel
theorem dX10_run_33 : decode cX10_run 33 = .ok (.getfield 19, 3) := by decide +kernel
theorem dX10_run_36 : decode cX10_run 36 = .ok (.aload_n 0, 1) := by decide +kernel
theorem dX10_run_37 : decode cX10_run 37 = .ok (.getfield 19, 3) := by decide +kernel
theorem dX10_run_40 : decode cX10_run 40 = .ok (.getfield 151, 3) := by decide +kernel
theorem dX10_run_43 : decode cX10_run 43 = .ok (.invokevirtual 169, 3) := by decide +kernel
theorem dX10_run_46 : decode cX10_run 46 = .ok (.iload_n 1, 1) := by decide +kernel
theorem dX10_run_47 : decode cX10_run 47 = .ok (.tableswitch 49 0 2 #[25, 33, 41], 25) := by decide +kernel
theorem dX10_run_72 : decode cX10_run 72 = .ok (.aload_n 0, 1) := by decide +kernel
theorem dX10_run_73 : decode cX10_run 73 = .ok (.getfield 40, 3) := by decide +kernel
theorem dX10_run_76 : decode cX10_run 76 = .ok (.getfield 173, 3) := by decide +kernel
theorem dX10_run_79 : decode cX10_run 79 = .ok (.ireturn, 1) := by decide +kernel
theorem dX10_run_80 : decode cX10_run 80 = .ok (.aload_n 0, 1) := by decide +kernel
theorem dX10_run_81 : decode cX10_run 81 = .ok (.getfield 40, 3) := by decide +kernel
theorem dX10_run_84 : decode cX10_run 84 = .ok (.getfield 176, 3) := by decide +kernel
theorem dX10_run_87 : decode cX10_run 87 = .ok (.ireturn, 1) := by decide +kernel
theorem dX10_run_88 : decode cX10_run 88 = .ok (.aload_n 0, 1) := by decide +kernel
theorem dX10_run_89 : decode cX10_run 89 = .ok (.getfield 40, 3) := by decide +kernel
theorem dX10_run_92 : decode cX10_run 92 = .ok (.getfield 179, 3) := by decide +kernel
theorem dX10_run_95 : decode cX10_run 95 = .ok (.ireturn, 1) := by decide +kernel
theorem dX10_run_96 : decode cX10_run 96 = .ok (.aload_n 0, 1) := by decide +kernel
theorem dX10_run_97 : decode cX10_run 97 = .ok (.getfield 40, 3) := by decide +kernel
theorem dX10_run_100 : decode cX10_run 100 = .ok (.getfield 182, 3) := by decide +kernel
theorem dX10_run_103 : decode cX10_run 103 = .ok (.ireturn, 1) := by decide +kernel
theorem dX10_state_0 : decode cX10_state 0 = .ok (.aload_n 0, 1) := by decide +kernel
theorem dX10_state_1 : decode cX10_state 1 = .ok (.getfield 19, 3) := by decide +kernel
theorem dX10_state_4 : decode cX10_state 4 = .ok (.iload_n 1, 1) := by decide +kernel
theorem dX10_state_5 : decode cX10_state 5 = .ok (.invokevirtual 159, 3) := by decide +kernel
theorem dX10_state_8 : decode cX10_state 8 = .ok (.ifCond .ne 5, 3) := by decide +kernel
theorem dX10_state_11 : decode cX10_state 11 = .ok (.iconst (-1), 1) := by decide +kernel
theorem dX10_state_12 : decode cX10_state 12 = .ok (.ireturn, 1) := by decide +kernel
theorem dX10_state_13 : decode cX10_state 13 = .ok (.aload_n 0, 1) := by decide +kernel
theorem dX10_state_14 : decode cX10_state 14 = .ok (.getfield 75, 3) := by decide +kernel
theorem dX10_state_17 : decode cX10_state 17 = .ok (.getfield 119, 3) := by decide +kernel
theorem dX10_state_20 : decode cX10_state 20 = .ok (.ifCond .ne 6, 3) := by decide +kernel
theorem dX10_state_23 : decode cX10_state 23 = .ok (.bipush (-2), 2) := by decide +kernel
theorem dX10_state_25 : decode cX10_state 25 = .ok (.ireturn, 1) := by decide +kernel
theorem dX10_state_26 : decode cX10_state 26 = .ok (.aload_n 0, 1) := by decide +kernel
theorem dX10_state_27 : decode cX10_state 27 = .ok (.getfield 40, 3) := by decide +kernel
theorem dX10_state_30 : decode cX10_state 30 = .ok (.aload_n 0, 1) := by decide +kernel
theorem dX10_state_31 : decode cX10_state 31 = .ok (.getfield 75, 3) := by decide +kernel
theorem dX10_state_34 : decode cX10_state 34 = .ok (.aload_n 0, 1) := by decide +kernel
theorem dX10_state_35 : decode cX10_state 35 = .ok (.getfield 19, 3) := by decide +kernel
theorem dX10_state_38 : decode cX10_state 38 = .ok (.iload_n 1, 1) := by decide +kernel
theorem dX10_state_39 : decode cX10_state 39 = .ok (.iconst 1, 1) := by decide +kernel
theorem dX10_state_40 : decode cX10_state 40 = .ok (.iadd, 1) := by decide +kernel
theorem dX10_state_41 : decode cX10_state 41 = .ok (.invokevirtual 169, 3) := by decide +kernel
theorem dX10_state_44 : decode cX10_state 44 = .ok (.aload_n 0, 1) := by decide +kernel
theorem dX10_state_45 : decode cX10_state 45 = .ok (.getfield 40, 3) := by decide +kernel
theorem dX10_state_48 : decode cX10_state 48 = .ok (.getfield 176, 3) := by decide +kernel
theorem dX10_state_51 : decode cX10_state 51 = .ok (.ireturn, 1) := by decide +kernel
theorem dX10_stored_0 : decode cX10_stored 0 = .ok (.iload_n 1, 1) := by decide +kernel
theorem dX10_stored_1 : decode cX10_stored 1 = .ok (.iconst 0, 1) := by decide +kernel
theorem dX10_stored_2 : decode cX10_stored 2 = .ok (.iconst 2, 1) := by decide +kernel
theorem dX10_stored_3 : decode cX10_stored 3 = .ok (.invokestatic 93, 3) := by decide +kernel
theorem dX10_stored_6 : decode cX10_stored 6 = .ok (.ifCond .ne 17, 3) := by decide +kernel
theorem dX10_stored_9 : decode cX10_stored 9 = .ok (.iload_n 1, 1) := by decide +kernel
theorem dX10_stored_10 : decode cX10_stored 10 = .ok (.bipush 10, 2) := by decide +kernel
theorem dX10_stored_12 : decode cX10_stored 12 = .ok (.sipush 409, 3) := by decide +kernel
theorem dX10_stored_15 : decode cX10_stored 15 = .ok (.invokestatic 93, 3) := by decide +kernel
theorem dX10_stored_18 : decode cX10_stored 18 = .ok (.ifCond .ne 5, 3) := by decide +kernel
theorem dX10_stored_21 : decode cX10_stored 21 = .ok (.iconst (-1), 1) := by decide +kernel
theorem dX10_stored_22 : decode cX10_stored 22 = .ok (.ireturn, 1) := by decide +kernel
theorem dX10_stored_23 : decode cX10_stored 23 = .ok (.aload_n 0, 1) := by decide +kernel
theorem dX10_stored_24 : decode cX10_stored 24 = .ok (.getfield 40, 3) := by decide +kernel
theorem dX10_stored_27 : decode cX10_stored 27 = .ok (.aload_n 0, 1) := by decide +kernel
theorem dX10_stored_28 : decode cX10_stored 28 = .ok (.getfield 75, 3) := by decide +kernel
theorem dX10_stored_31 : decode cX10_stored 31 = .ok (.aload_n 0, 1) := by decide +kernel
theorem dX10_stored_32 : decode cX10_stored 32 = .ok (.getfield 19, 3) := by decide +kernel
theorem dX10_stored_35 : decode cX10_stored 35 = .ok (.aload_n 0, 1) := by decide +kernel
theorem dX10_stored_36 : decode cX10_stored 36 = .ok (.getfield 19, 3) := by decide +kernel
theorem dX10_stored_39 : decode cX10_stored 39 = .ok (.getfield 151, 3) := by decide +kernel
theorem dX10_stored_42 : decode cX10_stored 42 = .ok (.invokevirtual 169, 3) := by decide +kernel
theorem dX10_stored_45 : decode cX10_stored 45 = .ok (.aload_n 0, 1) := by decide +kernel
theorem dX10_stored_46 : decode cX10_stored 46 = .ok (.getfield 40, 3) := by decide +kernel
theorem dX10_stored_49 : decode cX10_stored 49 = .ok (.getfield 173, 3) := by decide +kernel
theorem dX10_stored_52 : decode cX10_stored 52 = .ok (.ifCond .ge 6, 3) := by decide +kernel
theorem dX10_stored_55 : decode cX10_stored 55 = .ok (.bipush (-4), 2) := by decide +kernel
theorem dX10_stored_57 : decode cX10_stored 57 = .ok (.ireturn, 1) := by decide +kernel
theorem dX10_stored_58 : decode cX10_stored 58 = .ok (.bipush (-4), 2) := by decide +kernel
theorem dX10_stored_60 : decode cX10_stored 60 = .ok (.istore_n 2, 1) := by decide +kernel
theorem dX10_stored_61 : decode cX10_stored 61 = .ok (.bipush (-4), 2) := by decide +kernel
theorem dX10_stored_63 : decode cX10_stored 63 = .ok (.istore_n 3, 1) := by decide +kernel
theorem dX10_stored_64 : decode cX10_stored 64 = .ok (.iconst 0, 1) := by decide +kernel
theorem dX10_stored_65 : decode cX10_stored 65 = .ok (.istore 4, 2) := by decide +kernel
theorem dX10_stored_67 : decode cX10_stored 67 = .ok (.aload_n 0, 1) := by decide +kernel
theorem dX10_stored_68 : decode cX10_stored 68 = .ok (.getfield 40, 3) := by decide +kernel
theorem dX10_stored_71 : decode cX10_stored 71 = .ok (.getfield 173, 3) := by decide +kernel
theorem dX10_stored_74 : decode cX10_stored 74 = .ok (.aload_n 0, 1) := by decide +kernel
theorem dX10_stored_75 : decode cX10_stored 75 = .ok (.getfield 75, 3) := by decide +kernel
theorem dX10_stored_78 : decode cX10_stored 78 = .ok (.getfield 125, 3) := by decide +kernel
theorem dX10_stored_81 : decode cX10_stored 81 = .ok (.isub, 1) := by decide +kernel
theorem dX10_stored_82 : decode cX10_stored 82 = .ok (.istore 5, 2) := by decide +kernel
theorem dX10_stored_84 : decode cX10_stored 84 = .ok (.iload 5, 2) := by decide +kernel
theorem dX10_stored_86 : decode cX10_stored 86 = .ok (.aload_n 0, 1) := by decide +kernel
theorem dX10_stored_87 : decode cX10_stored 87 = .ok (.getfield 75, 3) := by decide +kernel
theorem dX10_stored_90 : decode cX10_stored 90 = .ok (.getfield 122, 3) := by decide +kernel
theorem dX10_stored_93 : decode cX10_stored 93 = .ok (.iadd, 1) := by decide +kernel
theorem dX10_stored_94 : decode cX10_stored 94 = .ok (.aload_n 0, 1) := by decide +kernel
theorem dX10_stored_95 : decode cX10_stored 95 = .ok (.getfield 19, 3) := by decide +kernel
theorem dX10_stored_98 : decode cX10_stored 98 = .ok (.getfield 151, 3) := by decide +kernel
theorem dX10_stored_101 : decode cX10_stored 101 = .ok (.invokestatic 185, 3) := by decide +kernel
theorem dX10_stored_104 : decode cX10_stored 104 = .ok (.istore 6, 2) := by decide +kernel
theorem dX10_stored_106 : decode cX10_stored 106 = .ok (.iload 5, 2) := by decide +kernel
theorem dX10_stored_108 : decode cX10_stored 108 = .ok (.iconst 0, 1) := by decide +kernel
theorem dX10_stored_109 : decode cX10_stored 109 = .ok (.invokestatic 190, 3) := by decide +kernel
theorem dX10_stored_112 : decode cX10_stored 112 = .ok (.istore 7, 2) := by decide +kernel
theorem dX10_stored_114 : decode cX10_stored 114 = .ok (.iload 7, 2) := by decide +kernel
theorem dX10_stored_116 : decode cX10_stored 116 = .ok (.iload 6, 2) := by decide +kernel
theorem dX10_stored_118 : decode cX10_stored 118 = .ok (.if_icmp .ge 62, 3) := by decide +kernel
theorem dX10_stored_121 : decode cX10_stored 121 = .ok (.aload_n 0, 1) := by decide +kernel
theorem dX10_stored_122 : decode cX10_stored 122 = .ok (.getfield 75, 3) := by decide +kernel
theorem dX10_stored_125 : decode cX10_stored 125 = .ok (.bipush 24, 2) := by decide +kernel
theorem dX10_stored_127 : decode cX10_stored 127 = .ok (.aload_n 0, 1) := by decide +kernel
theorem dX10_stored_128 : decode cX10_stored 128 = .ok (.getfield 19, 3) := by decide +kernel
theorem dX10_stored_131 : decode cX10_stored 131 = .ok (.iload 7, 2) := by decide +kernel
theorem dX10_stored_133 : decode cX10_stored 133 = .ok (.iload 7, 2) := by decide +kernel
theorem dX10_stored_135 : decode cX10_stored 135 = .ok (.invokevirtual 193, 3) := by decide +kernel
theorem dX10_stored_138 : decode cX10_stored 138 = .ok (.ifCond .ne 6, 3) := by decide +kernel
theorem dX10_stored_141 : decode cX10_stored 141 = .ok (.goto 33, 3) := by decide +kernel
theorem dX10_stored_144 : decode cX10_stored 144 = .ok (.iload 4, 2) := by decide +kernel
theorem dX10_stored_146 : decode cX10_stored 146 = .ok (.iload_n 1, 1) := by decide +kernel
theorem dX10_stored_147 : decode cX10_stored 147 = .ok (.bipush 10, 2) := by decide +kernel
theorem dX10_stored_149 : decode cX10_stored 149 = .ok (.isub, 1) := by decide +kernel
theorem dX10_stored_150 : decode cX10_stored 150 = .ok (.if_icmp .ne 6, 3) := by decide +kernel
theorem dX10_stored_153 : decode cX10_stored 153 = .ok (.iload 7, 2) := by decide +kernel
theorem dX10_stored_155 : decode cX10_stored 155 = .ok (.ireturn, 1) := by decide +kernel
theorem dX10_stored_156 : decode cX10_stored 156 = .ok (.iload 4, 2) := by decide +kernel
theorem dX10_stored_158 : decode cX10_stored 158 = .ok (.ifCond .ne 8, 3) := by decide +kernel
theorem dX10_stored_161 : decode cX10_stored 161 = .ok (.iload 7, 2) := by decide +kernel
theorem dX10_stored_163 : decode cX10_stored 163 = .ok (.goto 4, 3) := by decide +kernel
theorem dX10_stored_166 : decode cX10_stored 166 = .ok (.iload_n 2, 1) := by decide +kernel
theorem dX10_stored_167 : decode cX10_stored 167 = .ok (.istore_n 2, 1) := by decide +kernel
theorem dX10_stored_168 : decode cX10_stored 168 = .ok (.iload 7, 2) := by decide +kernel
theorem dX10_stored_170 : decode cX10_stored 170 = .ok (.istore_n 3, 1) := by decide +kernel
theorem dX10_stored_171 : decode cX10_stored 171 = .ok (.iinc 4 1, 3) := by decide +kernel
theorem dX10_stored_174 : decode cX10_stored 174 = .ok (.iinc 7 1, 3) := by decide +kernel
theorem dX10_stored_177 : decode cX10_stored 177 = .ok (.goto (-63), 3) := by decide +kernel
theorem dX10_stored_180 : decode cX10_stored 180 = .ok (.iload_n 1, 1) := by decide +kernel
theorem dX10_stored_181 : decode cX10_stored 181 = .ok (.tableswitch 34 0 2 #[27, 30, 32], 27) := by decide +kernel
theorem dX10_stored_208 : decode cX10_stored 208 = .ok (.iload 4, 2) := by decide +kernel
theorem dX10_stored_210 : decode cX10_stored 210 = .ok (.ireturn, 1) := by decide +kernel
theorem dX10_stored_211 : decode cX10_stored 211 = .ok (.iload_n 2, 1) := by decide +kernel
theorem dX10_stored_212 : decode cX10_stored 212 = .ok (.ireturn, 1) := by decide +kernel
theorem dX10_stored_213 : decode cX10_stored 213 = .ok (.iload_n 3, 1) := by decide +kernel
theorem dX10_stored_214 : decode cX10_stored 214 = .ok (.ireturn, 1) := by decide +kernel
theorem dX10_stored_215 : decode cX10_stored 215 = .ok (.iconst (-1), 1) := by decide +kernel
theorem dX10_stored_216 : decode cX10_stored 216 = .ok (.ireturn, 1) := by decide +kernel
theorem dX10_next_0 : decode cX10_next 0 = .ok (.aload_n 0, 1) := by decide +kernel
theorem dX10_next_1 : decode cX10_next 1 = .ok (.getfield 19, 3) := by decide +kernel
theorem dX10_next_4 : decode cX10_next 4 = .ok (.iload_n 1, 1) := by decide +kernel
theorem dX10_next_5 : decode cX10_next 5 = .ok (.invokevirtual 159, 3) := by decide +kernel
theorem dX10_next_8 : decode cX10_next 8 = .ok (.ifCond .ne 5, 3) := by decide +kernel
theorem dX10_next_11 : decode cX10_next 11 = .ok (.iconst (-1), 1) := by decide +kernel
theorem dX10_next_12 : decode cX10_next 12 = .ok (.ireturn, 1) := by decide +kernel
theorem dX10_next_13 : decode cX10_next 13 = .ok (.iload_n 1, 1) := by decide +kernel
theorem dX10_next_14 : decode cX10_next 14 = .ok (.istore_n 2, 1) := by decide +kernel
theorem dX10_next_15 : decode cX10_next 15 = .ok (.iload_n 2, 1) := by decide +kernel
theorem dX10_next_16 : decode cX10_next 16 = .ok (.aload_n 0, 1) := by decide +kernel
theorem dX10_next_17 : decode cX10_next 17 = .ok (.getfield 19, 3) := by decide +kernel
theorem dX10_next_20 : decode cX10_next 20 = .ok (.getfield 151, 3) := by decide +kernel
theorem dX10_next_23 : decode cX10_next 23 = .ok (.if_icmp .ge 29, 3) := by decide +kernel
theorem dX10_next_26 : decode cX10_next 26 = .ok (.aload_n 0, 1) := by decide +kernel
theorem dX10_next_27 : decode cX10_next 27 = .ok (.getfield 75, 3) := by decide +kernel
theorem dX10_next_30 : decode cX10_next 30 = .ok (.bipush 24, 2) := by decide +kernel
theorem dX10_next_32 : decode cX10_next 32 = .ok (.aload_n 0, 1) := by decide +kernel
theorem dX10_next_33 : decode cX10_next 33 = .ok (.getfield 19, 3) := by decide +kernel
theorem dX10_next_36 : decode cX10_next 36 = .ok (.iload_n 2, 1) := by decide +kernel
theorem dX10_next_37 : decode cX10_next 37 = .ok (.iload_n 2, 1) := by decide +kernel
theorem dX10_next_38 : decode cX10_next 38 = .ok (.invokevirtual 193, 3) := by decide +kernel
theorem dX10_next_41 : decode cX10_next 41 = .ok (.ifCond .eq 5, 3) := by decide +kernel
theorem dX10_next_44 : decode cX10_next 44 = .ok (.iload_n 2, 1) := by decide +kernel
theorem dX10_next_45 : decode cX10_next 45 = .ok (.ireturn, 1) := by decide +kernel
theorem dX10_next_46 : decode cX10_next 46 = .ok (.iinc 2 1, 3) := by decide +kernel
theorem dX10_next_49 : decode cX10_next 49 = .ok (.goto (-34), 3) := by decide +kernel
theorem dX10_next_52 : decode cX10_next 52 = .ok (.bipush (-4), 2) := by decide +kernel
theorem dX10_next_54 : decode cX10_next 54 = .ok (.ireturn, 1) := by decide +kernel
theorem dX10_edges_0 : decode cX10_edges 0 = .ok (.iload_n 1, 1) := by decide +kernel
theorem dX10_edges_1 : decode cX10_edges 1 = .ok (.invokestatic 197, 3) := by decide +kernel
theorem dX10_edges_4 : decode cX10_edges 4 = .ok (.ifCond .ne 5, 3) := by decide +kernel
theorem dX10_edges_7 : decode cX10_edges 7 = .ok (.iconst (-1), 1) := by decide +kernel
theorem dX10_edges_8 : decode cX10_edges 8 = .ok (.ireturn, 1) := by decide +kernel
theorem dX10_edges_9 : decode cX10_edges 9 = .ok (.iconst 0, 1) := by decide +kernel
theorem dX10_edges_10 : decode cX10_edges 10 = .ok (.istore_n 3, 1) := by decide +kernel
theorem dX10_edges_11 : decode cX10_edges 11 = .ok (.iconst 1, 1) := by decide +kernel
theorem dX10_edges_12 : decode cX10_edges 12 = .ok (.istore 4, 2) := by decide +kernel
theorem dX10_edges_14 : decode cX10_edges 14 = .ok (.iload 4, 2) := by decide +kernel
theorem dX10_edges_16 : decode cX10_edges 16 = .ok (.aload_n 0, 1) := by decide +kernel
theorem dX10_edges_17 : decode cX10_edges 17 = .ok (.getfield 19, 3) := by decide +kernel
theorem dX10_edges_20 : decode cX10_edges 20 = .ok (.getfield 151, 3) := by decide +kernel
theorem dX10_edges_23 : decode cX10_edges 23 = .ok (.if_icmp .ge 28, 3) := by decide +kernel
theorem dX10_edges_26 : decode cX10_edges 26 = .ok (.iload_n 3, 1) := by decide +kernel
theorem dX10_edges_27 : decode cX10_edges 27 = .ok (.aload_n 0, 1) := by decide +kernel
theorem dX10_edges_28 : decode cX10_edges 28 = .ok (.iload_n 1, 1) := by decide +kernel
theorem dX10_edges_29 : decode cX10_edges 29 = .ok (.iload_n 2, 1) := by decide +kernel
theorem dX10_edges_30 : decode cX10_edges 30 = .ok (.iload 4, 2) := by decide +kernel
theorem dX10_edges_32 : decode cX10_edges 32 = .ok (.invokevirtual 200, 3) := by decide +kernel
theorem dX10_edges_35 : decode cX10_edges 35 = .ok (.ifCond .eq 7, 3) := by decide +kernel
theorem dX10_edges_38 : decode cX10_edges 38 = .ok (.iconst 1, 1) := by decide +kernel
theorem dX10_edges_39 : decode cX10_edges 39 = .ok (.goto 4, 3) := by decide +kernel
theorem dX10_edges_42 : decode cX10_edges 42 = .ok (.iconst 0, 1) := by decide +kernel
theorem dX10_edges_43 : decode cX10_edges 43 = .ok (.iadd, 1) := by decide +kernel
theorem dX10_edges_44 : decode cX10_edges 44 = .ok (.istore_n 3, 1) := by decide +kernel
theorem dX10_edges_45 : decode cX10_edges 45 = .ok (.iinc 4 1, 3) := by decide +kernel
theorem dX10_edges_48 : decode cX10_edges 48 = .ok (.goto (-34), 3) := by decide +kernel
theorem dX10_edges_51 : decode cX10_edges 51 = .ok (.iload_n 3, 1) := by decide +kernel
theorem dX10_edges_52 : decode cX10_edges 52 = .ok (.ireturn, 1) := by decide +kernel
theorem dX10_edge_0 : decode cX10_edge 0 = .ok (.iload_n 1, 1) := by decide +kernel
theorem dX10_edge_1 : decode cX10_edge 1 = .ok (.invokestatic 197, 3) := by decide +kernel
theorem dX10_edge_4 : decode cX10_edge 4 = .ok (.ifCond .eq 7, 3) := by decide +kernel
theorem dX10_edge_7 : decode cX10_edge 7 = .ok (.iload_n 3, 1) := by decide +kernel
theorem dX10_edge_8 : decode cX10_edge 8 = .ok (.ifCond .ge 5, 3) := by decide +kernel
theorem dX10_edge_11 : decode cX10_edge 11 = .ok (.iconst (-1), 1) := by decide +kernel
theorem dX10_edge_12 : decode cX10_edge 12 = .ok (.ireturn, 1) := by decide +kernel
theorem dX10_edge_13 : decode cX10_edge 13 = .ok (.iconst 0, 1) := by decide +kernel
theorem dX10_edge_14 : decode cX10_edge 14 = .ok (.istore 4, 2) := by decide +kernel
theorem dX10_edge_16 : decode cX10_edge 16 = .ok (.iconst 1, 1) := by decide +kernel
theorem dX10_edge_17 : decode cX10_edge 17 = .ok (.istore 5, 2) := by decide +kernel
theorem dX10_edge_19 : decode cX10_edge 19 = .ok (.iload 5, 2) := by decide +kernel
theorem dX10_edge_21 : decode cX10_edge 21 = .ok (.aload_n 0, 1) := by decide +kernel
theorem dX10_edge_22 : decode cX10_edge 22 = .ok (.getfield 19, 3) := by decide +kernel
theorem dX10_edge_25 : decode cX10_edge 25 = .ok (.getfield 151, 3) := by decide +kernel
theorem dX10_edge_28 : decode cX10_edge 28 = .ok (.if_icmp .ge 35, 3) := by decide +kernel
theorem dX10_edge_31 : decode cX10_edge 31 = .ok (.aload_n 0, 1) := by decide +kernel
theorem dX10_edge_32 : decode cX10_edge 32 = .ok (.iload_n 1, 1) := by decide +kernel
theorem dX10_edge_33 : decode cX10_edge 33 = .ok (.iload_n 2, 1) := by decide +kernel
theorem dX10_edge_34 : decode cX10_edge 34 = .ok (.iload 5, 2) := by decide +kernel
theorem dX10_edge_36 : decode cX10_edge 36 = .ok (.invokevirtual 200, 3) := by decide +kernel
theorem dX10_edge_39 : decode cX10_edge 39 = .ok (.ifCond .ne 6, 3) := by decide +kernel
theorem dX10_edge_42 : decode cX10_edge 42 = .ok (.goto 15, 3) := by decide +kernel
theorem dX10_edge_45 : decode cX10_edge 45 = .ok (.iload 4, 2) := by decide +kernel
theorem dX10_edge_47 : decode cX10_edge 47 = .ok (.iload_n 3, 1) := by decide +kernel
theorem dX10_edge_48 : decode cX10_edge 48 = .ok (.if_icmp .ne 6, 3) := by decide +kernel
theorem dX10_edge_51 : decode cX10_edge 51 = .ok (.iload 5, 2) := by decide +kernel
theorem dX10_edge_53 : decode cX10_edge 53 = .ok (.ireturn, 1) := by decide +kernel
theorem dX10_edge_54 : decode cX10_edge 54 = .ok (.iinc 4 1, 3) := by decide +kernel
theorem dX10_edge_57 : decode cX10_edge 57 = .ok (.iinc 5 1, 3) := by decide +kernel
theorem dX10_edge_60 : decode cX10_edge 60 = .ok (.goto (-41), 3) := by decide +kernel
theorem dX10_edge_63 : decode cX10_edge 63 = .ok (.bipush (-4), 2) := by decide +kernel
theorem dX10_edge_65 : decode cX10_edge 65 = .ok (.ireturn, 1) := by decide +kernel
theorem dX10_pulse_0 : decode cX10_pulse 0 = .ok (.iload_n 1, 1) := by decide +kernel
theorem dX10_pulse_1 : decode cX10_pulse 1 = .ok (.invokestatic 197, 3) := by decide +kernel
theorem dX10_pulse_4 : decode cX10_pulse 4 = .ok (.ifCond .eq 21, 3) := by decide +kernel
theorem dX10_pulse_7 : decode cX10_pulse 7 = .ok (.iload_n 2, 1) := by decide +kernel
theorem dX10_pulse_8 : decode cX10_pulse 8 = .ok (.iconst 0, 1) := by decide +kernel
theorem dX10_pulse_9 : decode cX10_pulse 9 = .ok (.iconst 1, 1) := by decide +kernel
theorem dX10_pulse_10 : decode cX10_pulse 10 = .ok (.invokestatic 93, 3) := by decide +kernel
theorem dX10_pulse_13 : decode cX10_pulse 13 = .ok (.ifCond .eq 12, 3) := by decide +kernel
theorem dX10_pulse_16 : decode cX10_pulse 16 = .ok (.iload_n 3, 1) := by decide +kernel
theorem dX10_pulse_17 : decode cX10_pulse 17 = .ok (.iconst 0, 1) := by decide +kernel
theorem dX10_pulse_18 : decode cX10_pulse 18 = .ok (.iconst 4, 1) := by decide +kernel
theorem dX10_pulse_19 : decode cX10_pulse 19 = .ok (.invokestatic 93, 3) := by decide +kernel
theorem dX10_pulse_22 : decode cX10_pulse 22 = .ok (.ifCond .ne 5, 3) := by decide +kernel
theorem dX10_pulse_25 : decode cX10_pulse 25 = .ok (.iconst (-1), 1) := by decide +kernel
theorem dX10_pulse_26 : decode cX10_pulse 26 = .ok (.ireturn, 1) := by decide +kernel
theorem dX10_pulse_27 : decode cX10_pulse 27 = .ok (.aload_n 0, 1) := by decide +kernel
theorem dX10_pulse_28 : decode cX10_pulse 28 = .ok (.getfield 47, 3) := by decide +kernel
theorem dX10_pulse_31 : decode cX10_pulse 31 = .ok (.aload_n 0, 1) := by decide +kernel
theorem dX10_pulse_32 : decode cX10_pulse 32 = .ok (.getfield 19, 3) := by decide +kernel
theorem dX10_pulse_35 : decode cX10_pulse 35 = .ok (.iload_n 1, 1) := by decide +kernel
theorem dX10_pulse_36 : decode cX10_pulse 36 = .ok (.iload_n 2, 1) := by decide +kernel
theorem dX10_pulse_37 : decode cX10_pulse 37 = .ok (.iconst 0, 1) := by decide +kernel
theorem dX10_pulse_38 : decode cX10_pulse 38 = .ok (.invokevirtual 204, 3) := by decide +kernel
theorem dX10_pulse_41 : decode cX10_pulse 41 = .ok (.iload_n 3, 1) := by decide +kernel
theorem dX10_pulse_42 : decode cX10_pulse 42 = .ok (.tableswitch 62 0 3 #[30, 38, 46, 54], 30) := by decide +kernel
theorem dX10_pulse_72 : decode cX10_pulse 72 = .ok (.aload_n 0, 1) := by decide +kernel
theorem dX10_pulse_73 : decode cX10_pulse 73 = .ok (.getfield 47, 3) := by decide +kernel
theorem dX10_pulse_76 : decode cX10_pulse 76 = .ok (.getfield 208, 3) := by decide +kernel
theorem dX10_pulse_79 : decode cX10_pulse 79 = .ok (.ireturn, 1) := by decide +kernel
theorem dX10_pulse_80 : decode cX10_pulse 80 = .ok (.aload_n 0, 1) := by decide +kernel
theorem dX10_pulse_81 : decode cX10_pulse 81 = .ok (.getfield 47, 3) := by decide +kernel
theorem dX10_pulse_84 : decode cX10_pulse 84 = .ok (.getfield 211, 3) := by decide +kernel
theorem dX10_pulse_87 : decode cX10_pulse 87 = .ok (.ireturn, 1) := by decide +kernel
theorem dX10_pulse_88 : decode cX10_pulse 88 = .ok (.aload_n 0, 1) := by decide +kernel
theorem dX10_pulse_89 : decode cX10_pulse 89 = .ok (.getfield 47, 3) := by decide +kernel
theorem dX10_pulse_92 : decode cX10_pulse 92 = .ok (.getfield 214, 3) := by decide +kernel
theorem dX10_pulse_95 : decode cX10_pulse 95 = .ok (.ireturn, 1) := by decide +kernel
theorem dX10_pulse_96 : decode cX10_pulse 96 = .ok (.aload_n 0, 1) := by decide +kernel
theorem dX10_pulse_97 : decode cX10_pulse 97 = .ok (.getfield 47, 3) := by decide +kernel
theorem dX10_pulse_100 : decode cX10_pulse 100 = .ok (.getfield 217, 3) := by decide +kernel
theorem dX10_pulse_103 : decode cX10_pulse 103 = .ok (.ireturn, 1) := by decide +kernel
theorem dX10_pulse_104 : decode cX10_pulse 104 = .ok (.aload_n 0, 1) := by decide +kernel
theorem dX10_pulse_105 : decode cX10_pulse 105 = .ok (.getfield 47, 3) := by decide +kernel
theorem dX10_pulse_108 : decode cX10_pulse 108 = .ok (.getfield 220, 3) := by decide +kernel
theorem dX10_pulse_111 : decode cX10_pulse 111 = .ok (.ireturn, 1) := by decide +kernel
theorem dX10_duty_0 : decode cX10_duty 0 = .ok (.iload_n 1, 1) := by decide +kernel
theorem dX10_duty_1 : decode cX10_duty 1 = .ok (.invokestatic 197, 3) := by decide +kernel
theorem dX10_duty_4 : decode cX10_duty 4 = .ok (.ifCond .eq 12, 3) := by decide +kernel
theorem dX10_duty_7 : decode cX10_duty 7 = .ok (.iload_n 2, 1) := by decide +kernel
theorem dX10_duty_8 : decode cX10_duty 8 = .ok (.iconst 0, 1) := by decide +kernel
theorem dX10_duty_9 : decode cX10_duty 9 = .ok (.iconst 1, 1) := by decide +kernel
theorem dX10_duty_10 : decode cX10_duty 10 = .ok (.invokestatic 93, 3) := by decide +kernel
theorem dX10_duty_13 : decode cX10_duty 13 = .ok (.ifCond .ne 5, 3) := by decide +kernel
theorem dX10_duty_16 : decode cX10_duty 16 = .ok (.iconst (-1), 1) := by decide +kernel
theorem dX10_duty_17 : decode cX10_duty 17 = .ok (.ireturn, 1) := by decide +kernel
theorem dX10_duty_18 : decode cX10_duty 18 = .ok (.aload_n 0, 1) := by decide +kernel
theorem dX10_duty_19 : decode cX10_duty 19 = .ok (.iload_n 1, 1) := by decide +kernel
theorem dX10_duty_20 : decode cX10_duty 20 = .ok (.invokevirtual 223, 3) := by decide +kernel
theorem dX10_duty_23 : decode cX10_duty 23 = .ok (.istore_n 3, 1) := by decide +kernel
theorem dX10_duty_24 : decode cX10_duty 24 = .ok (.aload_n 0, 1) := by decide +kernel
theorem dX10_duty_25 : decode cX10_duty 25 = .ok (.iload_n 1, 1) := by decide +kernel
theorem dX10_duty_26 : decode cX10_duty 26 = .ok (.invokevirtual 226, 3) := by decide +kernel
theorem dX10_duty_29 : decode cX10_duty 29 = .ok (.istore 4, 2) := by decide +kernel
theorem dX10_duty_31 : decode cX10_duty 31 = .ok (.iload_n 3, 1) := by decide +kernel
theorem dX10_duty_32 : decode cX10_duty 32 = .ok (.ifCond .lt 9, 3) := by decide +kernel
theorem dX10_duty_35 : decode cX10_duty 35 = .ok (.iload_n 3, 1) := by decide +kernel
theorem dX10_duty_36 : decode cX10_duty 36 = .ok (.iload 4, 2) := by decide +kernel
theorem dX10_duty_38 : decode cX10_duty 38 = .ok (.if_icmp .ne 6, 3) := by decide +kernel
theorem dX10_duty_41 : decode cX10_duty 41 = .ok (.bipush (-4), 2) := by decide +kernel
theorem dX10_duty_43 : decode cX10_duty 43 = .ok (.ireturn, 1) := by decide +kernel
theorem dX10_duty_44 : decode cX10_duty 44 = .ok (.iconst 0, 1) := by decide +kernel
theorem dX10_duty_45 : decode cX10_duty 45 = .ok (.istore 5, 2) := by decide +kernel
theorem dX10_duty_47 : decode cX10_duty 47 = .ok (.iload_n 3, 1) := by decide +kernel
theorem dX10_duty_48 : decode cX10_duty 48 = .ok (.istore 6, 2) := by decide +kernel
theorem dX10_duty_50 : decode cX10_duty 50 = .ok (.iload 6, 2) := by decide +kernel
theorem dX10_duty_52 : decode cX10_duty 52 = .ok (.iload 4, 2) := by decide +kernel
theorem dX10_duty_54 : decode cX10_duty 54 = .ok (.if_icmp .ge 32, 3) := by decide +kernel
theorem dX10_duty_57 : decode cX10_duty 57 = .ok (.iload 5, 2) := by decide +kernel
theorem dX10_duty_59 : decode cX10_duty 59 = .ok (.aload_n 0, 1) := by decide +kernel
theorem dX10_duty_60 : decode cX10_duty 60 = .ok (.getfield 19, 3) := by decide +kernel
theorem dX10_duty_63 : decode cX10_duty 63 = .ok (.iload_n 1, 1) := by decide +kernel
theorem dX10_duty_64 : decode cX10_duty 64 = .ok (.iload 6, 2) := by decide +kernel
theorem dX10_duty_66 : decode cX10_duty 66 = .ok (.invokevirtual 229, 3) := by decide +kernel
theorem dX10_duty_69 : decode cX10_duty 69 = .ok (.ifCond .eq 7, 3) := by decide +kernel
theorem dX10_duty_72 : decode cX10_duty 72 = .ok (.iconst 1, 1) := by decide +kernel
theorem dX10_duty_73 : decode cX10_duty 73 = .ok (.goto 4, 3) := by decide +kernel
theorem dX10_duty_76 : decode cX10_duty 76 = .ok (.iconst 0, 1) := by decide +kernel
theorem dX10_duty_77 : decode cX10_duty 77 = .ok (.iadd, 1) := by decide +kernel
theorem dX10_duty_78 : decode cX10_duty 78 = .ok (.istore 5, 2) := by decide +kernel
theorem dX10_duty_80 : decode cX10_duty 80 = .ok (.iinc 6 1, 3) := by decide +kernel
theorem dX10_duty_83 : decode cX10_duty 83 = .ok (.goto (-33), 3) := by decide +kernel
theorem dX10_duty_86 : decode cX10_duty 86 = .ok (.iload 5, 2) := by decide +kernel
theorem dX10_duty_88 : decode cX10_duty 88 = .ok (.iload 4, 2) := by decide +kernel
theorem dX10_duty_90 : decode cX10_duty 90 = .ok (.iload_n 3, 1) := by decide +kernel
theorem dX10_duty_91 : decode cX10_duty 91 = .ok (.isub, 1) := by decide +kernel
theorem dX10_duty_92 : decode cX10_duty 92 = .ok (.invokestatic 233, 3) := by decide +kernel
theorem dX10_duty_95 : decode cX10_duty 95 = .ok (.istore 6, 2) := by decide +kernel
theorem dX10_duty_97 : decode cX10_duty 97 = .ok (.iload 6, 2) := by decide +kernel
theorem dX10_duty_99 : decode cX10_duty 99 = .ok (.ifCond .ne 6, 3) := by decide +kernel
theorem dX10_duty_102 : decode cX10_duty 102 = .ok (.bipush (-4), 2) := by decide +kernel
theorem dX10_duty_104 : decode cX10_duty 104 = .ok (.ireturn, 1) := by decide +kernel
theorem dX10_duty_105 : decode cX10_duty 105 = .ok (.iload_n 2, 1) := by decide +kernel
theorem dX10_duty_106 : decode cX10_duty 106 = .ok (.ifCond .ne 8, 3) := by decide +kernel
theorem dX10_duty_109 : decode cX10_duty 109 = .ok (.iload 5, 2) := by decide +kernel
theorem dX10_duty_111 : decode cX10_duty 111 = .ok (.goto 7, 3) := by decide +kernel
theorem dX10_duty_114 : decode cX10_duty 114 = .ok (.iload 4, 2) := by decide +kernel
theorem dX10_duty_116 : decode cX10_duty 116 = .ok (.iload_n 3, 1) := by decide +kernel
theorem dX10_duty_117 : decode cX10_duty 117 = .ok (.isub, 1) := by decide +kernel
theorem dX10_duty_118 : decode cX10_duty 118 = .ok (.iload 6, 2) := by decide +kernel
theorem dX10_duty_120 : decode cX10_duty 120 = .ok (.idiv, 1) := by decide +kernel
theorem dX10_duty_121 : decode cX10_duty 121 = .ok (.ireturn, 1) := by decide +kernel
theorem dX10_shorter_0 : decode cX10_shorter 0 = .ok (.iload_n 1, 1) := by decide +kernel
theorem dX10_shorter_1 : decode cX10_shorter 1 = .ok (.invokestatic 197, 3) := by decide +kernel
theorem dX10_shorter_4 : decode cX10_shorter 4 = .ok (.ifCond .eq 14, 3) := by decide +kernel
theorem dX10_shorter_7 : decode cX10_shorter 7 = .ok (.iload_n 2, 1) := by decide +kernel
theorem dX10_shorter_8 : decode cX10_shorter 8 = .ok (.iconst 1, 1) := by decide +kernel
theorem dX10_shorter_9 : decode cX10_shorter 9 = .ok (.sipush 400, 3) := by decide +kernel
theorem dX10_shorter_12 : decode cX10_shorter 12 = .ok (.invokestatic 93, 3) := by decide +kernel
theorem dX10_shorter_15 : decode cX10_shorter 15 = .ok (.ifCond .ne 5, 3) := by decide +kernel
theorem dX10_shorter_18 : decode cX10_shorter 18 = .ok (.iconst (-1), 1) := by decide +kernel
theorem dX10_shorter_19 : decode cX10_shorter 19 = .ok (.ireturn, 1) := by decide +kernel
theorem dX10_shorter_20 : decode cX10_shorter 20 = .ok (.aload_n 0, 1) := by decide +kernel
theorem dX10_shorter_21 : decode cX10_shorter 21 = .ok (.getfield 47, 3) := by decide +kernel
theorem dX10_shorter_24 : decode cX10_shorter 24 = .ok (.aload_n 0, 1) := by decide +kernel
theorem dX10_shorter_25 : decode cX10_shorter 25 = .ok (.getfield 19, 3) := by decide +kernel
theorem dX10_shorter_28 : decode cX10_shorter 28 = .ok (.iload_n 1, 1) := by decide +kernel
theorem dX10_shorter_29 : decode cX10_shorter 29 = .ok (.iconst (-1), 1) := by decide +kernel
theorem dX10_shorter_30 : decode cX10_shorter 30 = .ok (.iload_n 2, 1) := by decide +kernel
theorem dX10_shorter_31 : decode cX10_shorter 31 = .ok (.invokevirtual 204, 3) := by decide +kernel
theorem dX10_shorter_34 : decode cX10_shorter 34 = .ok (.aload_n 0, 1) := by decide +kernel
theorem dX10_shorter_35 : decode cX10_shorter 35 = .ok (.getfield 47, 3) := by decide +kernel
theorem dX10_shorter_38 : decode cX10_shorter 38 = .ok (.getfield 236, 3) := by decide +kernel
theorem dX10_shorter_41 : decode cX10_shorter 41 = .ok (.ireturn, 1) := by decide +kernel
theorem dX10_smooth_0 : decode cX10_smooth 0 = .ok (.iload_n 1, 1) := by decide +kernel
theorem dX10_smooth_1 : decode cX10_smooth 1 = .ok (.iconst 1, 1) := by decide +kernel
theorem dX10_smooth_2 : decode cX10_smooth 2 = .ok (.sipush 400, 3) := by decide +kernel
theorem dX10_smooth_5 : decode cX10_smooth 5 = .ok (.invokestatic 93, 3) := by decide +kernel
theorem dX10_smooth_8 : decode cX10_smooth 8 = .ok (.ifCond .ne 5, 3) := by decide +kernel
theorem dX10_smooth_11 : decode cX10_smooth 11 = .ok (.iconst (-1), 1) := by decide +kernel
theorem dX10_smooth_12 : decode cX10_smooth 12 = .ok (.ireturn, 1) := by decide +kernel
theorem dX10_smooth_13 : decode cX10_smooth 13 = .ok (.aload_n 0, 1) := by decide +kernel
theorem dX10_smooth_14 : decode cX10_smooth 14 = .ok (.getfield 23, 3) := by decide +kernel
theorem dX10_smooth_17 : decode cX10_smooth 17 = .ok (.aload_n 0, 1) := by decide +kernel
theorem dX10_smooth_18 : decode cX10_smooth 18 = .ok (.getfield 19, 3) := by decide +kernel
theorem dX10_smooth_21 : decode cX10_smooth 21 = .ok (.invokevirtual 239, 3) := by decide +kernel
theorem dX10_smooth_24 : decode cX10_smooth 24 = .ok (.iconst 0, 1) := by decide +kernel
theorem dX10_smooth_25 : decode cX10_smooth 25 = .ok (.istore_n 2, 1) := by decide +kernel
theorem dX10_smooth_26 : decode cX10_smooth 26 = .ok (.iload_n 2, 1) := by decide +kernel
theorem dX10_smooth_27 : decode cX10_smooth 27 = .ok (.bipush 8, 2) := by decide +kernel
theorem dX10_smooth_29 : decode cX10_smooth 29 = .ok (.if_icmp .ge 18, 3) := by decide +kernel
theorem dX10_smooth_32 : decode cX10_smooth 32 = .ok (.aload_n 0, 1) := by decide +kernel
theorem dX10_smooth_33 : decode cX10_smooth 33 = .ok (.getfield 19, 3) := by decide +kernel
theorem dX10_smooth_36 : decode cX10_smooth 36 = .ok (.iload_n 2, 1) := by decide +kernel
theorem dX10_smooth_37 : decode cX10_smooth 37 = .ok (.iload_n 1, 1) := by decide +kernel
theorem dX10_smooth_38 : decode cX10_smooth 38 = .ok (.invokevirtual 243, 3) := by decide +kernel
theorem dX10_smooth_41 : decode cX10_smooth 41 = .ok (.iinc 2 1, 3) := by decide +kernel
theorem dX10_smooth_44 : decode cX10_smooth 44 = .ok (.goto (-18), 3) := by decide +kernel
theorem dX10_smooth_47 : decode cX10_smooth 47 = .ok (.iconst 0, 1) := by decide +kernel
theorem dX10_smooth_48 : decode cX10_smooth 48 = .ok (.istore_n 2, 1) := by decide +kernel
theorem dX10_smooth_49 : decode cX10_smooth 49 = .ok (.iconst 0, 1) := by decide +kernel
theorem dX10_smooth_50 : decode cX10_smooth 50 = .ok (.istore_n 3, 1) := by decide +kernel
theorem dX10_smooth_51 : decode cX10_smooth 51 = .ok (.iload_n 3, 1) := by decide +kernel
theorem dX10_smooth_52 : decode cX10_smooth 52 = .ok (.aload_n 0, 1) := by decide +kernel
theorem dX10_smooth_53 : decode cX10_smooth 53 = .ok (.getfield 19, 3) := by decide +kernel
theorem dX10_smooth_56 : decode cX10_smooth 56 = .ok (.getfield 151, 3) := by decide +kernel
theorem dX10_smooth_59 : decode cX10_smooth 59 = .ok (.if_icmp .ge 36, 3) := by decide +kernel
theorem dX10_smooth_62 : decode cX10_smooth 62 = .ok (.iload_n 2, 1) := by decide +kernel
theorem dX10_smooth_63 : decode cX10_smooth 63 = .ok (.aload_n 0, 1) := by decide +kernel
theorem dX10_smooth_64 : decode cX10_smooth 64 = .ok (.getfield 19, 3) := by decide +kernel
theorem dX10_smooth_67 : decode cX10_smooth 67 = .ok (.iload_n 3, 1) := by decide +kernel
theorem dX10_smooth_68 : decode cX10_smooth 68 = .ok (.invokevirtual 163, 3) := by decide +kernel
theorem dX10_smooth_71 : decode cX10_smooth 71 = .ok (.aload_n 0, 1) := by decide +kernel
theorem dX10_smooth_72 : decode cX10_smooth 72 = .ok (.getfield 23, 3) := by decide +kernel
theorem dX10_smooth_75 : decode cX10_smooth 75 = .ok (.iload_n 3, 1) := by decide +kernel
theorem dX10_smooth_76 : decode cX10_smooth 76 = .ok (.invokevirtual 163, 3) := by decide +kernel
theorem dX10_smooth_79 : decode cX10_smooth 79 = .ok (.if_icmp .eq 7, 3) := by decide +kernel
theorem dX10_smooth_82 : decode cX10_smooth 82 = .ok (.iconst 1, 1) := by decide +kernel
theorem dX10_smooth_83 : decode cX10_smooth 83 = .ok (.goto 4, 3) := by decide +kernel
theorem dX10_smooth_86 : decode cX10_smooth 86 = .ok (.iconst 0, 1) := by decide +kernel
theorem dX10_smooth_87 : decode cX10_smooth 87 = .ok (.iadd, 1) := by decide +kernel
theorem dX10_smooth_88 : decode cX10_smooth 88 = .ok (.istore_n 2, 1) := by decide +kernel
theorem dX10_smooth_89 : decode cX10_smooth 89 = .ok (.iinc 3 1, 3) := by decide +kernel
theorem dX10_smooth_92 : decode cX10_smooth 92 = .ok (.goto (-41), 3) := by decide +kernel
theorem dX10_smooth_95 : decode cX10_smooth 95 = .ok (.iload_n 2, 1) := by decide +kernel
theorem dX10_smooth_96 : decode cX10_smooth 96 = .ok (.ireturn, 1) := by decide +kernel
theorem dX10_setup_0 : decode cX10_setup 0 = .ok (.iload_n 1, 1) := by decide +kernel
theorem dX10_setup_1 : decode cX10_setup 1 = .ok (.invokestatic 197, 3) := by decide +kernel
theorem dX10_setup_4 : decode cX10_setup 4 = .ok (.ifCond .eq 19, 3) := by decide +kernel
theorem dX10_setup_7 : decode cX10_setup 7 = .ok (.iload_n 2, 1) := by decide +kernel
theorem dX10_setup_8 : decode cX10_setup 8 = .ok (.invokestatic 197, 3) := by decide +kernel
theorem dX10_setup_11 : decode cX10_setup 11 = .ok (.ifCond .eq 12, 3) := by decide +kernel
theorem dX10_setup_14 : decode cX10_setup 14 = .ok (.iload_n 3, 1) := by decide +kernel
theorem dX10_setup_15 : decode cX10_setup 15 = .ok (.iconst 0, 1) := by decide +kernel
theorem dX10_setup_16 : decode cX10_setup 16 = .ok (.iconst 3, 1) := by decide +kernel
theorem dX10_setup_17 : decode cX10_setup 17 = .ok (.invokestatic 93, 3) := by decide +kernel
theorem dX10_setup_20 : decode cX10_setup 20 = .ok (.ifCond .ne 5, 3) := by decide +kernel
theorem dX10_setup_23 : decode cX10_setup 23 = .ok (.iconst (-1), 1) := by decide +kernel
theorem dX10_setup_24 : decode cX10_setup 24 = .ok (.ireturn, 1) := by decide +kernel
theorem dX10_setup_25 : decode cX10_setup 25 = .ok (.aload_n 0, 1) := by decide +kernel
theorem dX10_setup_26 : decode cX10_setup 26 = .ok (.getfield 54, 3) := by decide +kernel
theorem dX10_setup_29 : decode cX10_setup 29 = .ok (.aload_n 0, 1) := by decide +kernel
theorem dX10_setup_30 : decode cX10_setup 30 = .ok (.getfield 19, 3) := by decide +kernel
theorem dX10_setup_33 : decode cX10_setup 33 = .ok (.iload_n 1, 1) := by decide +kernel
theorem dX10_setup_34 : decode cX10_setup 34 = .ok (.iload_n 2, 1) := by decide +kernel
theorem dX10_setup_35 : decode cX10_setup 35 = .ok (.iconst 0, 1) := by decide +kernel
theorem dX10_setup_36 : decode cX10_setup 36 = .ok (.iconst 0, 1) := by decide +kernel
theorem dX10_setup_37 : decode cX10_setup 37 = .ok (.invokevirtual 246, 3) := by decide +kernel
theorem dX10_setup_40 : decode cX10_setup 40 = .ok (.iload_n 3, 1) := by decide +kernel
theorem dX10_setup_41 : decode cX10_setup 41 = .ok (.tableswitch 51 0 2 #[27, 35, 43], 27) := by decide +kernel
theorem dX10_setup_68 : decode cX10_setup 68 = .ok (.aload_n 0, 1) := by decide +kernel
theorem dX10_setup_69 : decode cX10_setup 69 = .ok (.getfield 54, 3) := by decide +kernel
theorem dX10_setup_72 : decode cX10_setup 72 = .ok (.getfield 249, 3) := by decide +kernel
theorem dX10_setup_75 : decode cX10_setup 75 = .ok (.ireturn, 1) := by decide +kernel
theorem dX10_setup_76 : decode cX10_setup 76 = .ok (.aload_n 0, 1) := by decide +kernel
theorem dX10_setup_77 : decode cX10_setup 77 = .ok (.getfield 54, 3) := by decide +kernel
theorem dX10_setup_80 : decode cX10_setup 80 = .ok (.getfield 252, 3) := by decide +kernel
theorem dX10_setup_83 : decode cX10_setup 83 = .ok (.ireturn, 1) := by decide +kernel
theorem dX10_setup_84 : decode cX10_setup 84 = .ok (.aload_n 0, 1) := by decide +kernel
theorem dX10_setup_85 : decode cX10_setup 85 = .ok (.getfield 54, 3) := by decide +kernel
theorem dX10_setup_88 : decode cX10_setup 88 = .ok (.getfield 255, 3) := by decide +kernel
theorem dX10_setup_91 : decode cX10_setup 91 = .ok (.ireturn, 1) := by decide +kernel
theorem dX10_setup_92 : decode cX10_setup 92 = .ok (.aload_n 0, 1) := by decide +kernel
theorem dX10_setup_93 : decode cX10_setup 93 = .ok (.getfield 54, 3) := by decide +kernel
theorem dX10_setup_96 : decode cX10_setup 96 = .ok (.getfield 258, 3) := by decide +kernel
theorem dX10_setup_99 : decode cX10_setup 99 = .ok (.ireturn, 1) := by decide +kernel
theorem dX10_tight_0 : decode cX10_tight 0 = .ok (.iload_n 1, 1) := by decide +kernel
theorem dX10_tight_1 : decode cX10_tight 1 = .ok (.invokestatic 197, 3) := by decide +kernel
theorem dX10_tight_4 : decode cX10_tight 4 = .ok (.ifCond .eq 33, 3) := by decide +kernel
theorem dX10_tight_7 : decode cX10_tight 7 = .ok (.iload_n 2, 1) := by decide +kernel
theorem dX10_tight_8 : decode cX10_tight 8 = .ok (.invokestatic 197, 3) := by decide +kernel
theorem dX10_tight_11 : decode cX10_tight 11 = .ok (.ifCond .eq 26, 3) := by decide +kernel
theorem dX10_tight_14 : decode cX10_tight 14 = .ok (.iload_n 3, 1) := by decide +kernel
theorem dX10_tight_15 : decode cX10_tight 15 = .ok (.iconst 0, 1) := by decide +kernel
theorem dX10_tight_16 : decode cX10_tight 16 = .ok (.sipush 400, 3) := by decide +kernel
theorem dX10_tight_19 : decode cX10_tight 19 = .ok (.invokestatic 93, 3) := by decide +kernel
theorem dX10_tight_22 : decode cX10_tight 22 = .ok (.ifCond .eq 15, 3) := by decide +kernel
theorem dX10_tight_25 : decode cX10_tight 25 = .ok (.iload 4, 2) := by decide +kernel
theorem dX10_tight_27 : decode cX10_tight 27 = .ok (.iconst 0, 1) := by decide +kernel
theorem dX10_tight_28 : decode cX10_tight 28 = .ok (.sipush 400, 3) := by decide +kernel
theorem dX10_tight_31 : decode cX10_tight 31 = .ok (.invokestatic 93, 3) := by decide +kernel
theorem dX10_tight_34 : decode cX10_tight 34 = .ok (.ifCond .ne 5, 3) := by decide +kernel
theorem dX10_tight_37 : decode cX10_tight 37 = .ok (.iconst (-1), 1) := by decide +kernel
theorem dX10_tight_38 : decode cX10_tight 38 = .ok (.ireturn, 1) := by decide +kernel
theorem dX10_tight_39 : decode cX10_tight 39 = .ok (.aload_n 0, 1) := by decide +kernel
theorem dX10_tight_40 : decode cX10_tight 40 = .ok (.getfield 54, 3) := by decide +kernel
theorem dX10_tight_43 : decode cX10_tight 43 = .ok (.aload_n 0, 1) := by decide +kernel
theorem dX10_tight_44 : decode cX10_tight 44 = .ok (.getfield 19, 3) := by decide +kernel
theorem dX10_tight_47 : decode cX10_tight 47 = .ok (.iload_n 1, 1) := by decide +kernel
theorem dX10_tight_48 : decode cX10_tight 48 = .ok (.iload_n 2, 1) := by decide +kernel
theorem dX10_tight_49 : decode cX10_tight 49 = .ok (.iload_n 3, 1) := by decide +kernel
theorem dX10_tight_50 : decode cX10_tight 50 = .ok (.iload 4, 2) := by decide +kernel
theorem dX10_tight_52 : decode cX10_tight 52 = .ok (.invokevirtual 246, 3) := by decide +kernel
theorem dX10_tight_55 : decode cX10_tight 55 = .ok (.aload_n 0, 1) := by decide +kernel
theorem dX10_tight_56 : decode cX10_tight 56 = .ok (.getfield 54, 3) := by decide +kernel
theorem dX10_tight_59 : decode cX10_tight 59 = .ok (.getfield 261, 3) := by decide +kernel
theorem dX10_tight_62 : decode cX10_tight 62 = .ok (.ireturn, 1) := by decide +kernel
theorem dX10_bits_0 : decode cX10_bits 0 = .ok (.iload_n 1, 1) := by decide +kernel
theorem dX10_bits_1 : decode cX10_bits 1 = .ok (.invokestatic 197, 3) := by decide +kernel
theorem dX10_bits_4 : decode cX10_bits 4 = .ok (.ifCond .eq 17, 3) := by decide +kernel
theorem dX10_bits_7 : decode cX10_bits 7 = .ok (.iload_n 2, 1) := by decide +kernel
theorem dX10_bits_8 : decode cX10_bits 8 = .ok (.invokestatic 197, 3) := by decide +kernel
theorem dX10_bits_11 : decode cX10_bits 11 = .ok (.ifCond .eq 10, 3) := by decide +kernel
theorem dX10_bits_14 : decode cX10_bits 14 = .ok (.iload_n 3, 1) := by decide +kernel
theorem dX10_bits_15 : decode cX10_bits 15 = .ok (.invokestatic 197, 3) := by decide +kernel
theorem dX10_bits_18 : decode cX10_bits 18 = .ok (.ifCond .ne 5, 3) := by decide +kernel
theorem dX10_bits_21 : decode cX10_bits 21 = .ok (.iconst (-1), 1) := by decide +kernel
theorem dX10_bits_22 : decode cX10_bits 22 = .ok (.ireturn, 1) := by decide +kernel
theorem dX10_bits_23 : decode cX10_bits 23 = .ok (.aload_n 0, 1) := by decide +kernel
theorem dX10_bits_24 : decode cX10_bits 24 = .ok (.getfield 61, 3) := by decide +kernel
theorem dX10_bits_27 : decode cX10_bits 27 = .ok (.aload_n 0, 1) := by decide +kernel
theorem dX10_bits_28 : decode cX10_bits 28 = .ok (.getfield 19, 3) := by decide +kernel
theorem dX10_bits_31 : decode cX10_bits 31 = .ok (.iload_n 1, 1) := by decide +kernel
theorem dX10_bits_32 : decode cX10_bits 32 = .ok (.iload_n 2, 1) := by decide +kernel
theorem dX10_bits_33 : decode cX10_bits 33 = .ok (.iload_n 3, 1) := by decide +kernel
theorem dX10_bits_34 : decode cX10_bits 34 = .ok (.invokevirtual 264, 3) := by decide +kernel
theorem dX10_bits_37 : decode cX10_bits 37 = .ok (.iload 4, 2) := by decide +kernel
theorem dX10_bits_39 : decode cX10_bits 39 = .ok (.tableswitch 49 0 2 #[25, 33, 41], 25) := by decide +kernel
theorem dX10_bits_64 : decode cX10_bits 64 = .ok (.aload_n 0, 1) := by decide +kernel
theorem dX10_bits_65 : decode cX10_bits 65 = .ok (.getfield 61, 3) := by decide +kernel
theorem dX10_bits_68 : decode cX10_bits 68 = .ok (.getfield 267, 3) := by decide +kernel
theorem dX10_bits_71 : decode cX10_bits 71 = .ok (.ireturn, 1) := by decide +kernel
theorem dX10_bits_72 : decode cX10_bits 72 = .ok (.aload_n 0, 1) := by decide +kernel
theorem dX10_bits_73 : decode cX10_bits 73 = .ok (.getfield 61, 3) := by decide +kernel
theorem dX10_bits_76 : decode cX10_bits 76 = .ok (.getfield 270, 3) := by decide +kernel
theorem dX10_bits_79 : decode cX10_bits 79 = .ok (.ireturn, 1) := by decide +kernel
theorem dX10_bits_80 : decode cX10_bits 80 = .ok (.aload_n 0, 1) := by decide +kernel
theorem dX10_bits_81 : decode cX10_bits 81 = .ok (.getfield 61, 3) := by decide +kernel
theorem dX10_bits_84 : decode cX10_bits 84 = .ok (.getfield 273, 3) := by decide +kernel
theorem dX10_bits_87 : decode cX10_bits 87 = .ok (.ireturn, 1) := by decide +kernel
theorem dX10_bits_88 : decode cX10_bits 88 = .ok (.iload 4, 2) := by decide +kernel
theorem dX10_bits_90 : decode cX10_bits 90 = .ok (.bipush 10, 2) := by decide +kernel
theorem dX10_bits_92 : decode cX10_bits 92 = .ok (.if_icmp .ge 7, 3) := by decide +kernel
theorem dX10_bits_95 : decode cX10_bits 95 = .ok (.iconst (-1), 1) := by decide +kernel
theorem dX10_bits_96 : decode cX10_bits 96 = .ok (.goto 15, 3) := by decide +kernel
theorem dX10_bits_99 : decode cX10_bits 99 = .ok (.aload_n 0, 1) := by decide +kernel
theorem dX10_bits_100 : decode cX10_bits 100 = .ok (.getfield 61, 3) := by decide +kernel
theorem dX10_bits_103 : decode cX10_bits 103 = .ok (.iload 4, 2) := by decide +kernel
theorem dX10_bits_105 : decode cX10_bits 105 = .ok (.bipush 10, 2) := by decide +kernel
theorem dX10_bits_107 : decode cX10_bits 107 = .ok (.isub, 1) := by decide +kernel
theorem dX10_bits_108 : decode cX10_bits 108 = .ok (.invokevirtual 276, 3) := by decide +kernel
theorem dX10_bits_111 : decode cX10_bits 111 = .ok (.ireturn, 1) := by decide +kernel
theorem dX10_serial_0 : decode cX10_serial 0 = .ok (.iload_n 1, 1) := by decide +kernel
theorem dX10_serial_1 : decode cX10_serial 1 = .ok (.invokestatic 197, 3) := by decide +kernel
theorem dX10_serial_4 : decode cX10_serial 4 = .ok (.ifCond .eq 13, 3) := by decide +kernel
theorem dX10_serial_7 : decode cX10_serial 7 = .ok (.iload_n 2, 1) := by decide +kernel
theorem dX10_serial_8 : decode cX10_serial 8 = .ok (.iconst 2, 1) := by decide +kernel
theorem dX10_serial_9 : decode cX10_serial 9 = .ok (.bipush 50, 2) := by decide +kernel
theorem dX10_serial_11 : decode cX10_serial 11 = .ok (.invokestatic 93, 3) := by decide +kernel
theorem dX10_serial_14 : decode cX10_serial 14 = .ok (.ifCond .ne 5, 3) := by decide +kernel
theorem dX10_serial_17 : decode cX10_serial 17 = .ok (.iconst (-1), 1) := by decide +kernel
theorem dX10_serial_18 : decode cX10_serial 18 = .ok (.ireturn, 1) := by decide +kernel
theorem dX10_serial_19 : decode cX10_serial 19 = .ok (.aload_n 0, 1) := by decide +kernel
theorem dX10_serial_20 : decode cX10_serial 20 = .ok (.getfield 61, 3) := by decide +kernel
theorem dX10_serial_23 : decode cX10_serial 23 = .ok (.aload_n 0, 1) := by decide +kernel
theorem dX10_serial_24 : decode cX10_serial 24 = .ok (.getfield 19, 3) := by decide +kernel
theorem dX10_serial_27 : decode cX10_serial 27 = .ok (.iload_n 1, 1) := by decide +kernel
theorem dX10_serial_28 : decode cX10_serial 28 = .ok (.iload_n 2, 1) := by decide +kernel
theorem dX10_serial_29 : decode cX10_serial 29 = .ok (.invokevirtual 279, 3) := by decide +kernel
theorem dX10_serial_32 : decode cX10_serial 32 = .ok (.iload_n 3, 1) := by decide +kernel
theorem dX10_serial_33 : decode cX10_serial 33 = .ok (.lookupswitch 43 #[(0, 27), (1, 35)], 27) := by decide +kernel
theorem dX10_serial_60 : decode cX10_serial 60 = .ok (.aload_n 0, 1) := by decide +kernel
theorem dX10_serial_61 : decode cX10_serial 61 = .ok (.getfield 61, 3) := by decide +kernel
theorem dX10_serial_64 : decode cX10_serial 64 = .ok (.getfield 267, 3) := by decide +kernel
theorem dX10_serial_67 : decode cX10_serial 67 = .ok (.ireturn, 1) := by decide +kernel
theorem dX10_serial_68 : decode cX10_serial 68 = .ok (.aload_n 0, 1) := by decide +kernel
theorem dX10_serial_69 : decode cX10_serial 69 = .ok (.getfield 61, 3) := by decide +kernel
theorem dX10_serial_72 : decode cX10_serial 72 = .ok (.getfield 283, 3) := by decide +kernel
theorem dX10_serial_75 : decode cX10_serial 75 = .ok (.ireturn, 1) := by decide +kernel
theorem dX10_serial_76 : decode cX10_serial 76 = .ok (.iload_n 3, 1) := by decide +kernel
theorem dX10_serial_77 : decode cX10_serial 77 = .ok (.bipush 10, 2) := by decide +kernel
theorem dX10_serial_79 : decode cX10_serial 79 = .ok (.if_icmp .ge 7, 3) := by decide +kernel
theorem dX10_serial_82 : decode cX10_serial 82 = .ok (.iconst (-1), 1) := by decide +kernel
theorem dX10_serial_83 : decode cX10_serial 83 = .ok (.goto 14, 3) := by decide +kernel
theorem dX10_serial_86 : decode cX10_serial 86 = .ok (.aload_n 0, 1) := by decide +kernel
theorem dX10_serial_87 : decode cX10_serial 87 = .ok (.getfield 61, 3) := by decide +kernel
theorem dX10_serial_90 : decode cX10_serial 90 = .ok (.iload_n 3, 1) := by decide +kernel
theorem dX10_serial_91 : decode cX10_serial 91 = .ok (.bipush 10, 2) := by decide +kernel
theorem dX10_serial_93 : decode cX10_serial 93 = .ok (.isub, 1) := by decide +kernel
theorem dX10_serial_94 : decode cX10_serial 94 = .ok (.invokevirtual 276, 3) := by decide +kernel
theorem dX10_serial_97 : decode cX10_serial 97 = .ok (.ireturn, 1) := by decide +kernel
theorem dX10_rate_0 : decode cX10_rate 0 = .ok (.iload_n 1, 1) := by decide +kernel
theorem dX10_rate_1 : decode cX10_rate 1 = .ok (.invokestatic 197, 3) := by decide +kernel
theorem dX10_rate_4 : decode cX10_rate 4 = .ok (.ifCond .eq 12, 3) := by decide +kernel
theorem dX10_rate_7 : decode cX10_rate 7 = .ok (.iload_n 2, 1) := by decide +kernel
theorem dX10_rate_8 : decode cX10_rate 8 = .ok (.iconst 0, 1) := by decide +kernel
theorem dX10_rate_9 : decode cX10_rate 9 = .ok (.iconst 2, 1) := by decide +kernel
theorem dX10_rate_10 : decode cX10_rate 10 = .ok (.invokestatic 93, 3) := by decide +kernel
theorem dX10_rate_13 : decode cX10_rate 13 = .ok (.ifCond .ne 5, 3) := by decide +kernel
theorem dX10_rate_16 : decode cX10_rate 16 = .ok (.iconst (-1), 1) := by decide +kernel
theorem dX10_rate_17 : decode cX10_rate 17 = .ok (.ireturn, 1) := by decide +kernel
theorem dX10_rate_18 : decode cX10_rate 18 = .ok (.iconst 0, 1) := by decide +kernel
theorem dX10_rate_19 : decode cX10_rate 19 = .ok (.istore_n 3, 1) := by decide +kernel
theorem dX10_rate_20 : decode cX10_rate 20 = .ok (.iconst 0, 1) := by decide +kernel
theorem dX10_rate_21 : decode cX10_rate 21 = .ok (.istore 4, 2) := by decide +kernel
theorem dX10_rate_23 : decode cX10_rate 23 = .ok (.iconst 0, 1) := by decide +kernel
theorem dX10_rate_24 : decode cX10_rate 24 = .ok (.istore 5, 2) := by decide +kernel
theorem dX10_rate_26 : decode cX10_rate 26 = .ok (.iconst 2, 1) := by decide +kernel
theorem dX10_rate_27 : decode cX10_rate 27 = .ok (.istore 6, 2) := by decide +kernel
theorem dX10_rate_29 : decode cX10_rate 29 = .ok (.iload 6, 2) := by decide +kernel
theorem dX10_rate_31 : decode cX10_rate 31 = .ok (.bipush 50, 2) := by decide +kernel
theorem dX10_rate_33 : decode cX10_rate 33 = .ok (.if_icmp .gt 84, 3) := by decide +kernel
theorem dX10_rate_36 : decode cX10_rate 36 = .ok (.aload_n 0, 1) := by decide +kernel
theorem dX10_rate_37 : decode cX10_rate 37 = .ok (.getfield 61, 3) := by decide +kernel
theorem dX10_rate_40 : decode cX10_rate 40 = .ok (.aload_n 0, 1) := by decide +kernel
theorem dX10_rate_41 : decode cX10_rate 41 = .ok (.getfield 19, 3) := by decide +kernel
theorem dX10_rate_44 : decode cX10_rate 44 = .ok (.iload_n 1, 1) := by decide +kernel
theorem dX10_rate_45 : decode cX10_rate 45 = .ok (.iload 6, 2) := by decide +kernel
theorem dX10_rate_47 : decode cX10_rate 47 = .ok (.invokevirtual 279, 3) := by decide +kernel
theorem dX10_rate_50 : decode cX10_rate 50 = .ok (.iload_n 3, 1) := by decide +kernel
theorem dX10_rate_51 : decode cX10_rate 51 = .ok (.ifCond .eq 39, 3) := by decide +kernel
theorem dX10_rate_54 : decode cX10_rate 54 = .ok (.aload_n 0, 1) := by decide +kernel
theorem dX10_rate_55 : decode cX10_rate 55 = .ok (.getfield 61, 3) := by decide +kernel
theorem dX10_rate_58 : decode cX10_rate 58 = .ok (.getfield 267, 3) := by decide +kernel
theorem dX10_rate_61 : decode cX10_rate 61 = .ok (.iload 4, 2) := by decide +kernel
theorem dX10_rate_63 : decode cX10_rate 63 = .ok (.if_icmp .gt 27, 3) := by decide +kernel
theorem dX10_rate_66 : decode cX10_rate 66 = .ok (.aload_n 0, 1) := by decide +kernel
theorem dX10_rate_67 : decode cX10_rate 67 = .ok (.getfield 61, 3) := by decide +kernel
theorem dX10_rate_70 : decode cX10_rate 70 = .ok (.getfield 267, 3) := by decide +kernel
theorem dX10_rate_73 : decode cX10_rate 73 = .ok (.iload 4, 2) := by decide +kernel
theorem dX10_rate_75 : decode cX10_rate 75 = .ok (.if_icmp .ne 36, 3) := by decide +kernel
theorem dX10_rate_78 : decode cX10_rate 78 = .ok (.aload_n 0, 1) := by decide +kernel
theorem dX10_rate_79 : decode cX10_rate 79 = .ok (.getfield 61, 3) := by decide +kernel
theorem dX10_rate_82 : decode cX10_rate 82 = .ok (.getfield 283, 3) := by decide +kernel
theorem dX10_rate_85 : decode cX10_rate 85 = .ok (.iload 5, 2) := by decide +kernel
theorem dX10_rate_87 : decode cX10_rate 87 = .ok (.if_icmp .ge 24, 3) := by decide +kernel
theorem dX10_rate_90 : decode cX10_rate 90 = .ok (.iload 6, 2) := by decide +kernel
theorem dX10_rate_92 : decode cX10_rate 92 = .ok (.istore_n 3, 1) := by decide +kernel
theorem dX10_rate_93 : decode cX10_rate 93 = .ok (.aload_n 0, 1) := by decide +kernel
theorem dX10_rate_94 : decode cX10_rate 94 = .ok (.getfield 61, 3) := by decide +kernel
theorem dX10_rate_97 : decode cX10_rate 97 = .ok (.getfield 267, 3) := by decide +kernel
theorem dX10_rate_100 : decode cX10_rate 100 = .ok (.istore 4, 2) := by decide +kernel
theorem dX10_rate_102 : decode cX10_rate 102 = .ok (.aload_n 0, 1) := by decide +kernel
theorem dX10_rate_103 : decode cX10_rate 103 = .ok (.getfield 61, 3) := by decide +kernel
theorem dX10_rate_106 : decode cX10_rate 106 = .ok (.getfield 283, 3) := by decide +kernel
theorem dX10_rate_109 : decode cX10_rate 109 = .ok (.istore 5, 2) := by decide +kernel
theorem dX10_rate_111 : decode cX10_rate 111 = .ok (.iinc 6 1, 3) := by decide +kernel
theorem dX10_rate_114 : decode cX10_rate 114 = .ok (.goto (-85), 3) := by decide +kernel
theorem dX10_rate_117 : decode cX10_rate 117 = .ok (.iload_n 2, 1) := by decide +kernel
theorem dX10_rate_118 : decode cX10_rate 118 = .ok (.lookupswitch 31 #[(0, 26), (1, 28)], 26) := by decide +kernel
theorem dX10_rate_144 : decode cX10_rate 144 = .ok (.iload_n 3, 1) := by decide +kernel
theorem dX10_rate_145 : decode cX10_rate 145 = .ok (.ireturn, 1) := by decide +kernel
theorem dX10_rate_146 : decode cX10_rate 146 = .ok (.iload 4, 2) := by decide +kernel
theorem dX10_rate_148 : decode cX10_rate 148 = .ok (.ireturn, 1) := by decide +kernel
theorem dX10_rate_149 : decode cX10_rate 149 = .ok (.iload 5, 2) := by decide +kernel
theorem dX10_rate_151 : decode cX10_rate 151 = .ok (.ireturn, 1) := by decide +kernel
theorem dX10_seen_0 : decode cX10_seen 0 = .ok (.iload_n 1, 1) := by decide +kernel
theorem dX10_seen_1 : decode cX10_seen 1 = .ok (.iconst 1, 1) := by decide +kernel
theorem dX10_seen_2 : decode cX10_seen 2 = .ok (.sipush 400, 3) := by decide +kernel
theorem dX10_seen_5 : decode cX10_seen 5 = .ok (.invokestatic 93, 3) := by decide +kernel
theorem dX10_seen_8 : decode cX10_seen 8 = .ok (.ifCond .eq 23, 3) := by decide +kernel
theorem dX10_seen_11 : decode cX10_seen 11 = .ok (.iload_n 2, 1) := by decide +kernel
theorem dX10_seen_12 : decode cX10_seen 12 = .ok (.iconst 0, 1) := by decide +kernel
theorem dX10_seen_13 : decode cX10_seen 13 = .ok (.iload_n 1, 1) := by decide +kernel
theorem dX10_seen_14 : decode cX10_seen 14 = .ok (.iconst 1, 1) := by decide +kernel
theorem dX10_seen_15 : decode cX10_seen 15 = .ok (.isub, 1) := by decide +kernel
theorem dX10_seen_16 : decode cX10_seen 16 = .ok (.invokestatic 93, 3) := by decide +kernel
theorem dX10_seen_19 : decode cX10_seen 19 = .ok (.ifCond .eq 12, 3) := by decide +kernel
theorem dX10_seen_22 : decode cX10_seen 22 = .ok (.iload_n 3, 1) := by decide +kernel
theorem dX10_seen_23 : decode cX10_seen 23 = .ok (.iconst 0, 1) := by decide +kernel
theorem dX10_seen_24 : decode cX10_seen 24 = .ok (.iconst 2, 1) := by decide +kernel
theorem dX10_seen_25 : decode cX10_seen 25 = .ok (.invokestatic 93, 3) := by decide +kernel
theorem dX10_seen_28 : decode cX10_seen 28 = .ok (.ifCond .ne 5, 3) := by decide +kernel
theorem dX10_seen_31 : decode cX10_seen 31 = .ok (.iconst (-1), 1) := by decide +kernel
theorem dX10_seen_32 : decode cX10_seen 32 = .ok (.ireturn, 1) := by decide +kernel
theorem dX10_seen_33 : decode cX10_seen 33 = .ok (.iload_n 3, 1) := by decide +kernel
theorem dX10_seen_34 : decode cX10_seen 34 = .ok (.lookupswitch 67 #[(0, 26), (1, 57)], 26) := by decide +kernel
theorem dX10_seen_60 : decode cX10_seen 60 = .ok (.iload_n 2, 1) := by decide +kernel
theorem dX10_seen_61 : decode cX10_seen 61 = .ok (.aload_n 0, 1) := by decide +kernel
theorem dX10_seen_62 : decode cX10_seen 62 = .ok (.getfield 19, 3) := by decide +kernel
theorem dX10_seen_65 : decode cX10_seen 65 = .ok (.getfield 151, 3) := by decide +kernel
theorem dX10_seen_68 : decode cX10_seen 68 = .ok (.if_icmp .ge 21, 3) := by decide +kernel
theorem dX10_seen_71 : decode cX10_seen 71 = .ok (.aload_n 0, 1) := by decide +kernel
theorem dX10_seen_72 : decode cX10_seen 72 = .ok (.getfield 19, 3) := by decide +kernel
theorem dX10_seen_75 : decode cX10_seen 75 = .ok (.getfield 151, 3) := by decide +kernel
theorem dX10_seen_78 : decode cX10_seen 78 = .ok (.iload_n 2, 1) := by decide +kernel
theorem dX10_seen_79 : decode cX10_seen 79 = .ok (.isub, 1) := by decide +kernel
theorem dX10_seen_80 : decode cX10_seen 80 = .ok (.iload_n 1, 1) := by decide +kernel
theorem dX10_seen_81 : decode cX10_seen 81 = .ok (.iadd, 1) := by decide +kernel
theorem dX10_seen_82 : decode cX10_seen 82 = .ok (.iconst 1, 1) := by decide +kernel
theorem dX10_seen_83 : decode cX10_seen 83 = .ok (.isub, 1) := by decide +kernel
theorem dX10_seen_84 : decode cX10_seen 84 = .ok (.iload_n 1, 1) := by decide +kernel
theorem dX10_seen_85 : decode cX10_seen 85 = .ok (.idiv, 1) := by decide +kernel
theorem dX10_seen_86 : decode cX10_seen 86 = .ok (.goto 4, 3) := by decide +kernel
theorem dX10_seen_89 : decode cX10_seen 89 = .ok (.iconst 0, 1) := by decide +kernel
theorem dX10_seen_90 : decode cX10_seen 90 = .ok (.ireturn, 1) := by decide +kernel
theorem dX10_seen_91 : decode cX10_seen 91 = .ok (.aload_n 0, 1) := by decide +kernel
theorem dX10_seen_92 : decode cX10_seen 92 = .ok (.getfield 19, 3) := by decide +kernel
theorem dX10_seen_95 : decode cX10_seen 95 = .ok (.iload_n 1, 1) := by decide +kernel
theorem dX10_seen_96 : decode cX10_seen 96 = .ok (.iload_n 2, 1) := by decide +kernel
theorem dX10_seen_97 : decode cX10_seen 97 = .ok (.invokevirtual 286, 3) := by decide +kernel
theorem dX10_seen_100 : decode cX10_seen 100 = .ok (.ireturn, 1) := by decide +kernel
theorem dX10_seen_101 : decode cX10_seen 101 = .ok (.aload_n 0, 1) := by decide +kernel
theorem dX10_seen_102 : decode cX10_seen 102 = .ok (.getfield 19, 3) := by decide +kernel
theorem dX10_seen_105 : decode cX10_seen 105 = .ok (.iconst 1, 1) := by decide +kernel
theorem dX10_seen_106 : decode cX10_seen 106 = .ok (.iconst 0, 1) := by decide +kernel
theorem dX10_seen_107 : decode cX10_seen 107 = .ok (.invokevirtual 286, 3) := by decide +kernel
theorem dX10_seen_110 : decode cX10_seen 110 = .ok (.aload_n 0, 1) := by decide +kernel
theorem dX10_seen_111 : decode cX10_seen 111 = .ok (.getfield 19, 3) := by decide +kernel
theorem dX10_seen_114 : decode cX10_seen 114 = .ok (.iload_n 1, 1) := by decide +kernel
theorem dX10_seen_115 : decode cX10_seen 115 = .ok (.iload_n 2, 1) := by decide +kernel
theorem dX10_seen_116 : decode cX10_seen 116 = .ok (.invokevirtual 286, 3) := by decide +kernel
theorem dX10_seen_119 : decode cX10_seen 119 = .ok (.isub, 1) := by decide +kernel
theorem dX10_seen_120 : decode cX10_seen 120 = .ok (.ireturn, 1) := by decide +kernel
theorem dX10_widest_0 : decode cX10_widest 0 = .ok (.sipush 400, 3) := by decide +kernel
theorem dX10_widest_3 : decode cX10_widest 3 = .ok (.istore_n 1, 1) := by decide +kernel
theorem dX10_widest_4 : decode cX10_widest 4 = .ok (.iconst 0, 1) := by decide +kernel
theorem dX10_widest_5 : decode cX10_widest 5 = .ok (.istore_n 2, 1) := by decide +kernel
theorem dX10_widest_6 : decode cX10_widest 6 = .ok (.iload_n 2, 1) := by decide +kernel
theorem dX10_widest_7 : decode cX10_widest 7 = .ok (.bipush 8, 2) := by decide +kernel
theorem dX10_widest_9 : decode cX10_widest 9 = .ok (.if_icmp .ge 45, 3) := by decide +kernel
theorem dX10_widest_12 : decode cX10_widest 12 = .ok (.aload_n 0, 1) := by decide +kernel
theorem dX10_widest_13 : decode cX10_widest 13 = .ok (.getfield 47, 3) := by decide +kernel
theorem dX10_widest_16 : decode cX10_widest 16 = .ok (.aload_n 0, 1) := by decide +kernel
theorem dX10_widest_17 : decode cX10_widest 17 = .ok (.getfield 19, 3) := by decide +kernel
theorem dX10_widest_20 : decode cX10_widest 20 = .ok (.iload_n 2, 1) := by decide +kernel
theorem dX10_widest_21 : decode cX10_widest 21 = .ok (.iconst (-1), 1) := by decide +kernel
theorem dX10_widest_22 : decode cX10_widest 22 = .ok (.iconst 0, 1) := by decide +kernel
theorem dX10_widest_23 : decode cX10_widest 23 = .ok (.invokevirtual 204, 3) := by decide +kernel
theorem dX10_widest_26 : decode cX10_widest 26 = .ok (.aload_n 0, 1) := by decide +kernel
theorem dX10_widest_27 : decode cX10_widest 27 = .ok (.getfield 47, 3) := by decide +kernel
theorem dX10_widest_30 : decode cX10_widest 30 = .ok (.getfield 208, 3) := by decide +kernel
theorem dX10_widest_33 : decode cX10_widest 33 = .ok (.ifCond .le 15, 3) := by decide +kernel
theorem dX10_widest_36 : decode cX10_widest 36 = .ok (.iload_n 1, 1) := by decide +kernel
theorem dX10_widest_37 : decode cX10_widest 37 = .ok (.aload_n 0, 1) := by decide +kernel
theorem dX10_widest_38 : decode cX10_widest 38 = .ok (.getfield 47, 3) := by decide +kernel
theorem dX10_widest_41 : decode cX10_widest 41 = .ok (.getfield 211, 3) := by decide +kernel
theorem dX10_widest_44 : decode cX10_widest 44 = .ok (.invokestatic 185, 3) := by decide +kernel
theorem dX10_widest_47 : decode cX10_widest 47 = .ok (.istore_n 1, 1) := by decide +kernel
theorem dX10_widest_48 : decode cX10_widest 48 = .ok (.iinc 2 1, 3) := by decide +kernel
theorem dX10_widest_51 : decode cX10_widest 51 = .ok (.goto (-45), 3) := by decide +kernel
theorem dX10_widest_54 : decode cX10_widest 54 = .ok (.iload_n 1, 1) := by decide +kernel
theorem dX10_widest_55 : decode cX10_widest 55 = .ok (.ireturn, 1) := by decide +kernel
theorem dX10_runs_0 : decode cX10_runs 0 = .ok (.iconst 0, 1) := by decide +kernel
theorem dX10_runs_1 : decode cX10_runs 1 = .ok (.istore_n 1, 1) := by decide +kernel
theorem dX10_runs_2 : decode cX10_runs 2 = .ok (.iconst 0, 1) := by decide +kernel
theorem dX10_runs_3 : decode cX10_runs 3 = .ok (.istore_n 2, 1) := by decide +kernel
theorem dX10_runs_4 : decode cX10_runs 4 = .ok (.iload_n 2, 1) := by decide +kernel
theorem dX10_runs_5 : decode cX10_runs 5 = .ok (.aload_n 0, 1) := by decide +kernel
theorem dX10_runs_6 : decode cX10_runs 6 = .ok (.getfield 19, 3) := by decide +kernel
theorem dX10_runs_9 : decode cX10_runs 9 = .ok (.getfield 151, 3) := by decide +kernel
theorem dX10_runs_12 : decode cX10_runs 12 = .ok (.if_icmp .ge 28, 3) := by decide +kernel
theorem dX10_runs_15 : decode cX10_runs 15 = .ok (.iload_n 1, 1) := by decide +kernel
theorem dX10_runs_16 : decode cX10_runs 16 = .ok (.aload_n 0, 1) := by decide +kernel
theorem dX10_runs_17 : decode cX10_runs 17 = .ok (.getfield 19, 3) := by decide +kernel
theorem dX10_runs_20 : decode cX10_runs 20 = .ok (.iload_n 2, 1) := by decide +kernel
theorem dX10_runs_21 : decode cX10_runs 21 = .ok (.invokevirtual 289, 3) := by decide +kernel
theorem dX10_runs_24 : decode cX10_runs 24 = .ok (.ifCond .eq 7, 3) := by decide +kernel
theorem dX10_runs_27 : decode cX10_runs 27 = .ok (.iconst 1, 1) := by decide +kernel
theorem dX10_runs_28 : decode cX10_runs 28 = .ok (.goto 4, 3) := by decide +kernel
theorem dX10_runs_31 : decode cX10_runs 31 = .ok (.iconst 0, 1) := by decide +kernel
theorem dX10_runs_32 : decode cX10_runs 32 = .ok (.iadd, 1) := by decide +kernel
theorem dX10_runs_33 : decode cX10_runs 33 = .ok (.istore_n 1, 1) := by decide +kernel
theorem dX10_runs_34 : decode cX10_runs 34 = .ok (.iinc 2 1, 3) := by decide +kernel
theorem dX10_runs_37 : decode cX10_runs 37 = .ok (.goto (-33), 3) := by decide +kernel
theorem dX10_runs_40 : decode cX10_runs 40 = .ok (.iload_n 1, 1) := by decide +kernel
theorem dX10_runs_41 : decode cX10_runs 41 = .ok (.ireturn, 1) := by decide +kernel
theorem dX10_fills_0 : decode cX10_fills 0 = .ok (.iload_n 1, 1) := by decide +kernel
theorem dX10_fills_1 : decode cX10_fills 1 = .ok (.iconst 1, 1) := by decide +kernel
theorem dX10_fills_2 : decode cX10_fills 2 = .ok (.sipush 400, 3) := by decide +kernel
theorem dX10_fills_5 : decode cX10_fills 5 = .ok (.invokestatic 93, 3) := by decide +kernel
theorem dX10_fills_8 : decode cX10_fills 8 = .ok (.ifCond .eq 14, 3) := by decide +kernel
theorem dX10_fills_11 : decode cX10_fills 11 = .ok (.aload_n 0, 1) := by decide +kernel
theorem dX10_fills_12 : decode cX10_fills 12 = .ok (.getfield 19, 3) := by decide +kernel
theorem dX10_fills_15 : decode cX10_fills 15 = .ok (.iload_n 2, 1) := by decide +kernel
theorem dX10_fills_16 : decode cX10_fills 16 = .ok (.invokevirtual 159, 3) := by decide +kernel
theorem dX10_fills_19 : decode cX10_fills 19 = .ok (.ifCond .ne 5, 3) := by decide +kernel
theorem dX10_fills_22 : decode cX10_fills 22 = .ok (.iconst (-1), 1) := by decide +kernel
theorem dX10_fills_23 : decode cX10_fills 23 = .ok (.ireturn, 1) := by decide +kernel
theorem dX10_fills_24 : decode cX10_fills 24 = .ok (.iconst 1, 1) := by decide +kernel
theorem dX10_fills_25 : decode cX10_fills 25 = .ok (.istore_n 3, 1) := by decide +kernel
theorem dX10_fills_26 : decode cX10_fills 26 = .ok (.iload_n 2, 1) := by decide +kernel
theorem dX10_fills_27 : decode cX10_fills 27 = .ok (.iconst 1, 1) := by decide +kernel
theorem dX10_fills_28 : decode cX10_fills 28 = .ok (.iadd, 1) := by decide +kernel
theorem dX10_fills_29 : decode cX10_fills 29 = .ok (.istore 4, 2) := by decide +kernel
theorem dX10_fills_31 : decode cX10_fills 31 = .ok (.iload 4, 2) := by decide +kernel
theorem dX10_fills_33 : decode cX10_fills 33 = .ok (.aload_n 0, 1) := by decide +kernel
theorem dX10_fills_34 : decode cX10_fills 34 = .ok (.getfield 19, 3) := by decide +kernel
theorem dX10_fills_37 : decode cX10_fills 37 = .ok (.getfield 151, 3) := by decide +kernel
theorem dX10_fills_40 : decode cX10_fills 40 = .ok (.if_icmp .ge 39, 3) := by decide +kernel
theorem dX10_fills_43 : decode cX10_fills 43 = .ok (.iload_n 3, 1) := by decide +kernel
theorem dX10_fills_44 : decode cX10_fills 44 = .ok (.aload_n 0, 1) := by decide +kernel
theorem dX10_fills_45 : decode cX10_fills 45 = .ok (.getfield 19, 3) := by decide +kernel
theorem dX10_fills_48 : decode cX10_fills 48 = .ok (.iload 4, 2) := by decide +kernel
theorem dX10_fills_50 : decode cX10_fills 50 = .ok (.invokevirtual 289, 3) := by decide +kernel
theorem dX10_fills_53 : decode cX10_fills 53 = .ok (.ifCond .eq 7, 3) := by decide +kernel
theorem dX10_fills_56 : decode cX10_fills 56 = .ok (.iconst 1, 1) := by decide +kernel
theorem dX10_fills_57 : decode cX10_fills 57 = .ok (.goto 4, 3) := by decide +kernel
theorem dX10_fills_60 : decode cX10_fills 60 = .ok (.iconst 0, 1) := by decide +kernel
theorem dX10_fills_61 : decode cX10_fills 61 = .ok (.iadd, 1) := by decide +kernel
theorem dX10_fills_62 : decode cX10_fills 62 = .ok (.istore_n 3, 1) := by decide +kernel
theorem dX10_fills_63 : decode cX10_fills 63 = .ok (.iload_n 3, 1) := by decide +kernel
theorem dX10_fills_64 : decode cX10_fills 64 = .ok (.iload_n 1, 1) := by decide +kernel
theorem dX10_fills_65 : decode cX10_fills 65 = .ok (.if_icmp .le 8, 3) := by decide +kernel
theorem dX10_fills_68 : decode cX10_fills 68 = .ok (.iload 4, 2) := by decide +kernel
theorem dX10_fills_70 : decode cX10_fills 70 = .ok (.iload_n 2, 1) := by decide +kernel
theorem dX10_fills_71 : decode cX10_fills 71 = .ok (.isub, 1) := by decide +kernel
theorem dX10_fills_72 : decode cX10_fills 72 = .ok (.ireturn, 1) := by decide +kernel
theorem dX10_fills_73 : decode cX10_fills 73 = .ok (.iinc 4 1, 3) := by decide +kernel
theorem dX10_fills_76 : decode cX10_fills 76 = .ok (.goto (-45), 3) := by decide +kernel
theorem dX10_fills_79 : decode cX10_fills 79 = .ok (.aload_n 0, 1) := by decide +kernel
theorem dX10_fills_80 : decode cX10_fills 80 = .ok (.getfield 19, 3) := by decide +kernel
theorem dX10_fills_83 : decode cX10_fills 83 = .ok (.getfield 151, 3) := by decide +kernel
theorem dX10_fills_86 : decode cX10_fills 86 = .ok (.iload_n 2, 1) := by decide +kernel
theorem dX10_fills_87 : decode cX10_fills 87 = .ok (.isub, 1) := by decide +kernel
theorem dX10_fills_88 : decode cX10_fills 88 = .ok (.ireturn, 1) := by decide +kernel
theorem dX10_values_0 : decode cX10_values 0 = .ok (.iload_n 1, 1) := by decide +kernel
theorem dX10_values_1 : decode cX10_values 1 = .ok (.iconst 0, 1) := by decide +kernel
theorem dX10_values_2 : decode cX10_values 2 = .ok (.iconst 3, 1) := by decide +kernel
theorem dX10_values_3 : decode cX10_values 3 = .ok (.invokestatic 93, 3) := by decide +kernel
theorem dX10_values_6 : decode cX10_values 6 = .ok (.ifCond .ne 5, 3) := by decide +kernel
theorem dX10_values_9 : decode cX10_values 9 = .ok (.iconst (-1), 1) := by decide +kernel
theorem dX10_values_10 : decode cX10_values 10 = .ok (.ireturn, 1) := by decide +kernel
theorem dX10_values_11 : decode cX10_values 11 = .ok (.iload_n 1, 1) := by decide +kernel
theorem dX10_values_12 : decode cX10_values 12 = .ok (.iconst 1, 1) := by decide +kernel
theorem dX10_values_13 : decode cX10_values 13 = .ok (.if_icmp .ne 15, 3) := by decide +kernel
theorem dX10_values_16 : decode cX10_values 16 = .ok (.aload_n 0, 1) := by decide +kernel
theorem dX10_values_17 : decode cX10_values 17 = .ok (.getfield 68, 3) := by decide +kernel
theorem dX10_values_20 : decode cX10_values 20 = .ok (.aload_n 0, 1) := by decide +kernel
theorem dX10_values_21 : decode cX10_values 21 = .ok (.getfield 19, 3) := by decide +kernel
theorem dX10_values_24 : decode cX10_values 24 = .ok (.invokevirtual 292, 3) := by decide +kernel
theorem dX10_values_27 : decode cX10_values 27 = .ok (.ireturn, 1) := by decide +kernel
theorem dX10_values_28 : decode cX10_values 28 = .ok (.aload_n 0, 1) := by decide +kernel
theorem dX10_values_29 : decode cX10_values 29 = .ok (.getfield 68, 3) := by decide +kernel
theorem dX10_values_32 : decode cX10_values 32 = .ok (.aload_n 0, 1) := by decide +kernel
theorem dX10_values_33 : decode cX10_values 33 = .ok (.getfield 19, 3) := by decide +kernel
theorem dX10_values_36 : decode cX10_values 36 = .ok (.invokevirtual 296, 3) := by decide +kernel
theorem dX10_values_39 : decode cX10_values 39 = .ok (.iload_n 1, 1) := by decide +kernel
theorem dX10_values_40 : decode cX10_values 40 = .ok (.lookupswitch 44 #[(0, 28), (2, 36)], 28) := by decide +kernel
theorem dX10_values_68 : decode cX10_values 68 = .ok (.aload_n 0, 1) := by decide +kernel
theorem dX10_values_69 : decode cX10_values 69 = .ok (.getfield 68, 3) := by decide +kernel
theorem dX10_values_72 : decode cX10_values 72 = .ok (.getfield 299, 3) := by decide +kernel
theorem dX10_values_75 : decode cX10_values 75 = .ok (.ireturn, 1) := by decide +kernel
theorem dX10_values_76 : decode cX10_values 76 = .ok (.aload_n 0, 1) := by decide +kernel
theorem dX10_values_77 : decode cX10_values 77 = .ok (.getfield 68, 3) := by decide +kernel
theorem dX10_values_80 : decode cX10_values 80 = .ok (.getfield 302, 3) := by decide +kernel
theorem dX10_values_83 : decode cX10_values 83 = .ok (.ireturn, 1) := by decide +kernel
theorem dX10_values_84 : decode cX10_values 84 = .ok (.aload_n 0, 1) := by decide +kernel
theorem dX10_values_85 : decode cX10_values 85 = .ok (.getfield 68, 3) := by decide +kernel
theorem dX10_values_88 : decode cX10_values 88 = .ok (.getfield 305, 3) := by decide +kernel
theorem dX10_values_91 : decode cX10_values 91 = .ok (.ireturn, 1) := by decide +kernel
theorem dX10_keep_0 : decode cX10_keep 0 = .ok (.aload_n 0, 1) := by decide +kernel
theorem dX10_keep_1 : decode cX10_keep 1 = .ok (.iload_n 1, 1) := by decide +kernel
theorem dX10_keep_2 : decode cX10_keep 2 = .ok (.invokevirtual 308, 3) := by decide +kernel
theorem dX10_keep_5 : decode cX10_keep 5 = .ok (.astore_n 2, 1) := by decide +kernel
theorem dX10_keep_6 : decode cX10_keep 6 = .ok (.aload_n 2, 1) := by decide +kernel
theorem dX10_keep_7 : decode cX10_keep 7 = .ok (.ifnonnull 5, 3) := by decide +kernel
theorem dX10_keep_10 : decode cX10_keep 10 = .ok (.iconst (-1), 1) := by decide +kernel
theorem dX10_keep_11 : decode cX10_keep 11 = .ok (.ireturn, 1) := by decide +kernel
theorem dX10_keep_12 : decode cX10_keep 12 = .ok (.aload_n 2, 1) := by decide +kernel
theorem dX10_keep_13 : decode cX10_keep 13 = .ok (.getfield 312, 3) := by decide +kernel
theorem dX10_keep_16 : decode cX10_keep 16 = .ok (.ifCond .eq 10, 3) := by decide +kernel
theorem dX10_keep_19 : decode cX10_keep 19 = .ok (.aload_n 2, 1) := by decide +kernel
theorem dX10_keep_20 : decode cX10_keep 20 = .ok (.getfield 151, 3) := by decide +kernel
theorem dX10_keep_23 : decode cX10_keep 23 = .ok (.goto 5, 3) := by decide +kernel
theorem dX10_keep_26 : decode cX10_keep 26 = .ok (.bipush (-4), 2) := by decide +kernel
theorem dX10_keep_28 : decode cX10_keep 28 = .ok (.istore_n 3, 1) := by decide +kernel
theorem dX10_keep_29 : decode cX10_keep 29 = .ok (.aload_n 2, 1) := by decide +kernel
theorem dX10_keep_30 : decode cX10_keep 30 = .ok (.aload_n 0, 1) := by decide +kernel
theorem dX10_keep_31 : decode cX10_keep 31 = .ok (.getfield 19, 3) := by decide +kernel
theorem dX10_keep_34 : decode cX10_keep 34 = .ok (.invokevirtual 239, 3) := by decide +kernel
theorem dX10_keep_37 : decode cX10_keep 37 = .ok (.aload_n 2, 1) := by decide +kernel
theorem dX10_keep_38 : decode cX10_keep 38 = .ok (.iconst 1, 1) := by decide +kernel
theorem dX10_keep_39 : decode cX10_keep 39 = .ok (.putfield 312, 3) := by decide +kernel
theorem dX10_keep_42 : decode cX10_keep 42 = .ok (.iload_n 3, 1) := by decide +kernel
theorem dX10_keep_43 : decode cX10_keep 43 = .ok (.ireturn, 1) := by decide +kernel
theorem dX10_back_0 : decode cX10_back 0 = .ok (.aload_n 0, 1) := by decide +kernel
theorem dX10_back_1 : decode cX10_back 1 = .ok (.iload_n 1, 1) := by decide +kernel
theorem dX10_back_2 : decode cX10_back 2 = .ok (.invokevirtual 308, 3) := by decide +kernel
theorem dX10_back_5 : decode cX10_back 5 = .ok (.astore_n 2, 1) := by decide +kernel
theorem dX10_back_6 : decode cX10_back 6 = .ok (.aload_n 2, 1) := by decide +kernel
theorem dX10_back_7 : decode cX10_back 7 = .ok (.ifnonnull 5, 3) := by decide +kernel
theorem dX10_back_10 : decode cX10_back 10 = .ok (.iconst (-1), 1) := by decide +kernel
theorem dX10_back_11 : decode cX10_back 11 = .ok (.ireturn, 1) := by decide +kernel
theorem dX10_back_12 : decode cX10_back 12 = .ok (.aload_n 2, 1) := by decide +kernel
theorem dX10_back_13 : decode cX10_back 13 = .ok (.getfield 312, 3) := by decide +kernel
theorem dX10_back_16 : decode cX10_back 16 = .ok (.ifCond .ne 6, 3) := by decide +kernel
theorem dX10_back_19 : decode cX10_back 19 = .ok (.bipush (-2), 2) := by decide +kernel
theorem dX10_back_21 : decode cX10_back 21 = .ok (.ireturn, 1) := by decide +kernel
theorem dX10_back_22 : decode cX10_back 22 = .ok (.aload_n 0, 1) := by decide +kernel
theorem dX10_back_23 : decode cX10_back 23 = .ok (.getfield 19, 3) := by decide +kernel
theorem dX10_back_26 : decode cX10_back 26 = .ok (.aload_n 2, 1) := by decide +kernel
theorem dX10_back_27 : decode cX10_back 27 = .ok (.invokevirtual 239, 3) := by decide +kernel
theorem dX10_back_30 : decode cX10_back 30 = .ok (.aload_n 0, 1) := by decide +kernel
theorem dX10_back_31 : decode cX10_back 31 = .ok (.getfield 19, 3) := by decide +kernel
theorem dX10_back_34 : decode cX10_back 34 = .ok (.getfield 151, 3) := by decide +kernel
theorem dX10_back_37 : decode cX10_back 37 = .ok (.ireturn, 1) := by decide +kernel
theorem dX10_unlike_0 : decode cX10_unlike 0 = .ok (.aload_n 0, 1) := by decide +kernel
theorem dX10_unlike_1 : decode cX10_unlike 1 = .ok (.iload_n 1, 1) := by decide +kernel
theorem dX10_unlike_2 : decode cX10_unlike 2 = .ok (.invokevirtual 308, 3) := by decide +kernel
theorem dX10_unlike_5 : decode cX10_unlike 5 = .ok (.astore_n 3, 1) := by decide +kernel
theorem dX10_unlike_6 : decode cX10_unlike 6 = .ok (.aload_n 3, 1) := by decide +kernel
theorem dX10_unlike_7 : decode cX10_unlike 7 = .ok (.ifnull 16, 3) := by decide +kernel
theorem dX10_unlike_10 : decode cX10_unlike 10 = .ok (.iload_n 2, 1) := by decide +kernel
theorem dX10_unlike_11 : decode cX10_unlike 11 = .ok (.sipush (-400), 3) := by decide +kernel
theorem dX10_unlike_14 : decode cX10_unlike 14 = .ok (.sipush 400, 3) := by decide +kernel
theorem dX10_unlike_17 : decode cX10_unlike 17 = .ok (.invokestatic 93, 3) := by decide +kernel
theorem dX10_unlike_20 : decode cX10_unlike 20 = .ok (.ifCond .ne 5, 3) := by decide +kernel
theorem dX10_unlike_23 : decode cX10_unlike 23 = .ok (.iconst (-1), 1) := by decide +kernel
theorem dX10_unlike_24 : decode cX10_unlike 24 = .ok (.ireturn, 1) := by decide +kernel
theorem dX10_unlike_25 : decode cX10_unlike 25 = .ok (.aload_n 3, 1) := by decide +kernel
theorem dX10_unlike_26 : decode cX10_unlike 26 = .ok (.getfield 312, 3) := by decide +kernel
theorem dX10_unlike_29 : decode cX10_unlike 29 = .ok (.ifCond .eq 15, 3) := by decide +kernel
theorem dX10_unlike_32 : decode cX10_unlike 32 = .ok (.aload_n 0, 1) := by decide +kernel
theorem dX10_unlike_33 : decode cX10_unlike 33 = .ok (.getfield 19, 3) := by decide +kernel
theorem dX10_unlike_36 : decode cX10_unlike 36 = .ok (.aload_n 3, 1) := by decide +kernel
theorem dX10_unlike_37 : decode cX10_unlike 37 = .ok (.iload_n 2, 1) := by decide +kernel
theorem dX10_unlike_38 : decode cX10_unlike 38 = .ok (.invokevirtual 316, 3) := by decide +kernel
theorem dX10_unlike_41 : decode cX10_unlike 41 = .ok (.goto 5, 3) := by decide +kernel
theorem dX10_unlike_44 : decode cX10_unlike 44 = .ok (.bipush (-2), 2) := by decide +kernel
theorem dX10_unlike_46 : decode cX10_unlike 46 = .ok (.ireturn, 1) := by decide +kernel
theorem dX10_shift_0 : decode cX10_shift 0 = .ok (.aload_n 0, 1) := by decide +kernel
theorem dX10_shift_1 : decode cX10_shift 1 = .ok (.iload_n 1, 1) := by decide +kernel
theorem dX10_shift_2 : decode cX10_shift 2 = .ok (.invokevirtual 308, 3) := by decide +kernel
theorem dX10_shift_5 : decode cX10_shift 5 = .ok (.astore_n 3, 1) := by decide +kernel
theorem dX10_shift_6 : decode cX10_shift 6 = .ok (.aload_n 3, 1) := by decide +kernel
theorem dX10_shift_7 : decode cX10_shift 7 = .ok (.ifnull 12, 3) := by decide +kernel
theorem dX10_shift_10 : decode cX10_shift 10 = .ok (.iload_n 2, 1) := by decide +kernel
theorem dX10_shift_11 : decode cX10_shift 11 = .ok (.iconst 0, 1) := by decide +kernel
theorem dX10_shift_12 : decode cX10_shift 12 = .ok (.iconst 1, 1) := by decide +kernel
theorem dX10_shift_13 : decode cX10_shift 13 = .ok (.invokestatic 93, 3) := by decide +kernel
theorem dX10_shift_16 : decode cX10_shift 16 = .ok (.ifCond .ne 5, 3) := by decide +kernel
theorem dX10_shift_19 : decode cX10_shift 19 = .ok (.iconst (-1), 1) := by decide +kernel
theorem dX10_shift_20 : decode cX10_shift 20 = .ok (.ireturn, 1) := by decide +kernel
theorem dX10_shift_21 : decode cX10_shift 21 = .ok (.aload_n 3, 1) := by decide +kernel
theorem dX10_shift_22 : decode cX10_shift 22 = .ok (.getfield 312, 3) := by decide +kernel
theorem dX10_shift_25 : decode cX10_shift 25 = .ok (.ifCond .ne 6, 3) := by decide +kernel
theorem dX10_shift_28 : decode cX10_shift 28 = .ok (.bipush (-2), 2) := by decide +kernel
theorem dX10_shift_30 : decode cX10_shift 30 = .ok (.ireturn, 1) := by decide +kernel
theorem dX10_shift_31 : decode cX10_shift 31 = .ok (.iconst 0, 1) := by decide +kernel
theorem dX10_shift_32 : decode cX10_shift 32 = .ok (.istore 4, 2) := by decide +kernel
theorem dX10_shift_34 : decode cX10_shift 34 = .ok (.aload_n 0, 1) := by decide +kernel
theorem dX10_shift_35 : decode cX10_shift 35 = .ok (.getfield 19, 3) := by decide +kernel
theorem dX10_shift_38 : decode cX10_shift 38 = .ok (.aload_n 3, 1) := by decide +kernel
theorem dX10_shift_39 : decode cX10_shift 39 = .ok (.iconst 0, 1) := by decide +kernel
theorem dX10_shift_40 : decode cX10_shift 40 = .ok (.invokevirtual 316, 3) := by decide +kernel
theorem dX10_shift_43 : decode cX10_shift 43 = .ok (.istore 5, 2) := by decide +kernel
theorem dX10_shift_45 : decode cX10_shift 45 = .ok (.iconst 1, 1) := by decide +kernel
theorem dX10_shift_46 : decode cX10_shift 46 = .ok (.istore 6, 2) := by decide +kernel
theorem dX10_shift_48 : decode cX10_shift 48 = .ok (.iload 6, 2) := by decide +kernel
theorem dX10_shift_50 : decode cX10_shift 50 = .ok (.bipush 40, 2) := by decide +kernel
theorem dX10_shift_52 : decode cX10_shift 52 = .ok (.if_icmp .gt 65, 3) := by decide +kernel
theorem dX10_shift_55 : decode cX10_shift 55 = .ok (.aload_n 0, 1) := by decide +kernel
theorem dX10_shift_56 : decode cX10_shift 56 = .ok (.getfield 19, 3) := by decide +kernel
theorem dX10_shift_59 : decode cX10_shift 59 = .ok (.aload_n 3, 1) := by decide +kernel
theorem dX10_shift_60 : decode cX10_shift 60 = .ok (.iload 6, 2) := by decide +kernel
theorem dX10_shift_62 : decode cX10_shift 62 = .ok (.ineg, 1) := by decide +kernel
theorem dX10_shift_63 : decode cX10_shift 63 = .ok (.invokevirtual 316, 3) := by decide +kernel
theorem dX10_shift_66 : decode cX10_shift 66 = .ok (.istore 7, 2) := by decide +kernel
theorem dX10_shift_68 : decode cX10_shift 68 = .ok (.iload 7, 2) := by decide +kernel
theorem dX10_shift_70 : decode cX10_shift 70 = .ok (.iload 5, 2) := by decide +kernel
theorem dX10_shift_72 : decode cX10_shift 72 = .ok (.if_icmp .ge 12, 3) := by decide +kernel
theorem dX10_shift_75 : decode cX10_shift 75 = .ok (.iload 6, 2) := by decide +kernel
theorem dX10_shift_77 : decode cX10_shift 77 = .ok (.ineg, 1) := by decide +kernel
theorem dX10_shift_78 : decode cX10_shift 78 = .ok (.istore 4, 2) := by decide +kernel
theorem dX10_shift_80 : decode cX10_shift 80 = .ok (.iload 7, 2) := by decide +kernel
theorem dX10_shift_82 : decode cX10_shift 82 = .ok (.istore 5, 2) := by decide +kernel
theorem dX10_shift_84 : decode cX10_shift 84 = .ok (.aload_n 0, 1) := by decide +kernel
theorem dX10_shift_85 : decode cX10_shift 85 = .ok (.getfield 19, 3) := by decide +kernel
theorem dX10_shift_88 : decode cX10_shift 88 = .ok (.aload_n 3, 1) := by decide +kernel
theorem dX10_shift_89 : decode cX10_shift 89 = .ok (.iload 6, 2) := by decide +kernel
theorem dX10_shift_91 : decode cX10_shift 91 = .ok (.invokevirtual 316, 3) := by decide +kernel
theorem dX10_shift_94 : decode cX10_shift 94 = .ok (.istore 8, 2) := by decide +kernel
theorem dX10_shift_96 : decode cX10_shift 96 = .ok (.iload 8, 2) := by decide +kernel
theorem dX10_shift_98 : decode cX10_shift 98 = .ok (.iload 5, 2) := by decide +kernel
theorem dX10_shift_100 : decode cX10_shift 100 = .ok (.if_icmp .ge 11, 3) := by decide +kernel
theorem dX10_shift_103 : decode cX10_shift 103 = .ok (.iload 6, 2) := by decide +kernel
theorem dX10_shift_105 : decode cX10_shift 105 = .ok (.istore 4, 2) := by decide +kernel
theorem dX10_shift_107 : decode cX10_shift 107 = .ok (.iload 8, 2) := by decide +kernel
theorem dX10_shift_109 : decode cX10_shift 109 = .ok (.istore 5, 2) := by decide +kernel
theorem dX10_shift_111 : decode cX10_shift 111 = .ok (.iinc 6 1, 3) := by decide +kernel
theorem dX10_shift_114 : decode cX10_shift 114 = .ok (.goto (-66), 3) := by decide +kernel
theorem dX10_shift_117 : decode cX10_shift 117 = .ok (.iload_n 2, 1) := by decide +kernel
theorem dX10_shift_118 : decode cX10_shift 118 = .ok (.ifCond .ne 8, 3) := by decide +kernel
theorem dX10_shift_121 : decode cX10_shift 121 = .ok (.iload 4, 2) := by decide +kernel
theorem dX10_shift_123 : decode cX10_shift 123 = .ok (.goto 5, 3) := by decide +kernel
theorem dX10_shift_126 : decode cX10_shift 126 = .ok (.iload 5, 2) := by decide +kernel
theorem dX10_shift_128 : decode cX10_shift 128 = .ok (.ireturn, 1) := by decide +kernel
theorem dX10_sheet_0 : decode cX10_sheet 0 = .ok (.aload_n 0, 1) := by decide +kernel
theorem dX10_sheet_1 : decode cX10_sheet 1 = .ok (.iload_n 1, 1) := by decide +kernel
theorem dX10_sheet_2 : decode cX10_sheet 2 = .ok (.invokevirtual 320, 3) := by decide +kernel
theorem dX10_sheet_5 : decode cX10_sheet 5 = .ok (.astore 4, 2) := by decide +kernel
theorem dX10_sheet_7 : decode cX10_sheet 7 = .ok (.aload 4, 2) := by decide +kernel
theorem dX10_sheet_9 : decode cX10_sheet 9 = .ok (.ifnull 16, 3) := by decide +kernel
theorem dX10_sheet_12 : decode cX10_sheet 12 = .ok (.iload_n 2, 1) := by decide +kernel
theorem dX10_sheet_13 : decode cX10_sheet 13 = .ok (.invokestatic 324, 3) := by decide +kernel
theorem dX10_sheet_16 : decode cX10_sheet 16 = .ok (.ifCond .eq 9, 3) := by decide +kernel
theorem dX10_sheet_19 : decode cX10_sheet 19 = .ok (.iload_n 3, 1) := by decide +kernel
theorem dX10_sheet_20 : decode cX10_sheet 20 = .ok (.bipush 40, 2) := by decide +kernel
theorem dX10_sheet_22 : decode cX10_sheet 22 = .ok (.if_icmp .le 5, 3) := by decide +kernel
theorem dX10_sheet_25 : decode cX10_sheet 25 = .ok (.iconst (-1), 1) := by decide +kernel
theorem dX10_sheet_26 : decode cX10_sheet 26 = .ok (.ireturn, 1) := by decide +kernel
theorem dX10_sheet_27 : decode cX10_sheet 27 = .ok (.iload_n 3, 1) := by decide +kernel
theorem dX10_sheet_28 : decode cX10_sheet 28 = .ok (.ifCond .ge 6, 3) := by decide +kernel
theorem dX10_sheet_31 : decode cX10_sheet 31 = .ok (.bipush (-14), 2) := by decide +kernel
theorem dX10_sheet_33 : decode cX10_sheet 33 = .ok (.ireturn, 1) := by decide +kernel
theorem dX10_sheet_34 : decode cX10_sheet 34 = .ok (.aload 4, 2) := by decide +kernel
theorem dX10_sheet_36 : decode cX10_sheet 36 = .ok (.iload_n 2, 1) := by decide +kernel
theorem dX10_sheet_37 : decode cX10_sheet 37 = .ok (.iload_n 3, 1) := by decide +kernel
theorem dX10_sheet_38 : decode cX10_sheet 38 = .ok (.invokevirtual 327, 3) := by decide +kernel
theorem dX10_sheet_41 : decode cX10_sheet 41 = .ok (.iconst 1, 1) := by decide +kernel
theorem dX10_sheet_42 : decode cX10_sheet 42 = .ok (.ireturn, 1) := by decide +kernel
theorem dX10_lay_0 : decode cX10_lay 0 = .ok (.aload_n 0, 1) := by decide +kernel
theorem dX10_lay_1 : decode cX10_lay 1 = .ok (.iload_n 1, 1) := by decide +kernel
theorem dX10_lay_2 : decode cX10_lay 2 = .ok (.invokevirtual 320, 3) := by decide +kernel
theorem dX10_lay_5 : decode cX10_lay 5 = .ok (.astore 4, 2) := by decide +kernel
theorem dX10_lay_7 : decode cX10_lay 7 = .ok (.aload 4, 2) := by decide +kernel
theorem dX10_lay_9 : decode cX10_lay 9 = .ok (.ifnonnull 5, 3) := by decide +kernel
theorem dX10_lay_12 : decode cX10_lay 12 = .ok (.iconst (-1), 1) := by decide +kernel
theorem dX10_lay_13 : decode cX10_lay 13 = .ok (.ireturn, 1) := by decide +kernel
theorem dX10_lay_14 : decode cX10_lay 14 = .ok (.aload 4, 2) := by decide +kernel
theorem dX10_lay_16 : decode cX10_lay 16 = .ok (.invokevirtual 330, 3) := by decide +kernel
theorem dX10_lay_19 : decode cX10_lay 19 = .ok (.ifCond .eq 6, 3) := by decide +kernel
theorem dX10_lay_22 : decode cX10_lay 22 = .ok (.bipush (-11), 2) := by decide +kernel
theorem dX10_lay_24 : decode cX10_lay 24 = .ok (.ireturn, 1) := by decide +kernel
theorem dX10_lay_25 : decode cX10_lay 25 = .ok (.aload 4, 2) := by decide +kernel
theorem dX10_lay_27 : decode cX10_lay 27 = .ok (.iload_n 2, 1) := by decide +kernel
theorem dX10_lay_28 : decode cX10_lay 28 = .ok (.invokevirtual 334, 3) := by decide +kernel
theorem dX10_lay_31 : decode cX10_lay 31 = .ok (.ifCond .ne 6, 3) := by decide +kernel
theorem dX10_lay_34 : decode cX10_lay 34 = .ok (.bipush (-12), 2) := by decide +kernel
theorem dX10_lay_36 : decode cX10_lay 36 = .ok (.ireturn, 1) := by decide +kernel
theorem dX10_lay_37 : decode cX10_lay 37 = .ok (.aload 4, 2) := by decide +kernel
theorem dX10_lay_39 : decode cX10_lay 39 = .ok (.iload_n 2, 1) := by decide +kernel
theorem dX10_lay_40 : decode cX10_lay 40 = .ok (.iload_n 3, 1) := by decide +kernel
theorem dX10_lay_41 : decode cX10_lay 41 = .ok (.invokevirtual 335, 3) := by decide +kernel
theorem dX10_lay_44 : decode cX10_lay 44 = .ok (.iconst 1, 1) := by decide +kernel
theorem dX10_lay_45 : decode cX10_lay 45 = .ok (.ireturn, 1) := by decide +kernel
theorem dX10_read_0 : decode cX10_read 0 = .ok (.aload_n 0, 1) := by decide +kernel
theorem dX10_read_1 : decode cX10_read 1 = .ok (.iload_n 1, 1) := by decide +kernel
theorem dX10_read_2 : decode cX10_read 2 = .ok (.invokevirtual 320, 3) := by decide +kernel
theorem dX10_read_5 : decode cX10_read 5 = .ok (.astore 5, 2) := by decide +kernel
theorem dX10_read_7 : decode cX10_read 7 = .ok (.aload 5, 2) := by decide +kernel
theorem dX10_read_9 : decode cX10_read 9 = .ok (.ifnull 21, 3) := by decide +kernel
theorem dX10_read_12 : decode cX10_read 12 = .ok (.iload_n 2, 1) := by decide +kernel
theorem dX10_read_13 : decode cX10_read 13 = .ok (.invokestatic 324, 3) := by decide +kernel
theorem dX10_read_16 : decode cX10_read 16 = .ok (.ifCond .eq 14, 3) := by decide +kernel
theorem dX10_read_19 : decode cX10_read 19 = .ok (.iload 4, 2) := by decide +kernel
theorem dX10_read_21 : decode cX10_read 21 = .ok (.iconst 0, 1) := by decide +kernel
theorem dX10_read_22 : decode cX10_read 22 = .ok (.bipush 20, 2) := by decide +kernel
theorem dX10_read_24 : decode cX10_read 24 = .ok (.invokestatic 93, 3) := by decide +kernel
theorem dX10_read_27 : decode cX10_read 27 = .ok (.ifCond .ne 5, 3) := by decide +kernel
theorem dX10_read_30 : decode cX10_read 30 = .ok (.iconst (-1), 1) := by decide +kernel
theorem dX10_read_31 : decode cX10_read 31 = .ok (.ireturn, 1) := by decide +kernel
theorem dX10_read_32 : decode cX10_read 32 = .ok (.iload 4, 2) := by decide +kernel
theorem dX10_read_34 : decode cX10_read 34 = .ok (.ifCond .ne 7, 3) := by decide +kernel
theorem dX10_read_37 : decode cX10_read 37 = .ok (.iconst 0, 1) := by decide +kernel
theorem dX10_read_38 : decode cX10_read 38 = .ok (.goto 9, 3) := by decide +kernel
theorem dX10_read_41 : decode cX10_read 41 = .ok (.aload 5, 2) := by decide +kernel
theorem dX10_read_43 : decode cX10_read 43 = .ok (.iload_n 2, 1) := by decide +kernel
theorem dX10_read_44 : decode cX10_read 44 = .ok (.invokevirtual 338, 3) := by decide +kernel
theorem dX10_read_47 : decode cX10_read 47 = .ok (.istore 6, 2) := by decide +kernel
theorem dX10_read_49 : decode cX10_read 49 = .ok (.iload 6, 2) := by decide +kernel
theorem dX10_read_51 : decode cX10_read 51 = .ok (.ifCond .ne 14, 3) := by decide +kernel
theorem dX10_read_54 : decode cX10_read 54 = .ok (.aload 5, 2) := by decide +kernel
theorem dX10_read_56 : decode cX10_read 56 = .ok (.iload_n 3, 1) := by decide +kernel
theorem dX10_read_57 : decode cX10_read 57 = .ok (.iload 4, 2) := by decide +kernel
theorem dX10_read_59 : decode cX10_read 59 = .ok (.invokevirtual 341, 3) := by decide +kernel
theorem dX10_read_62 : decode cX10_read 62 = .ok (.goto 4, 3) := by decide +kernel
theorem dX10_read_65 : decode cX10_read 65 = .ok (.iconst 0, 1) := by decide +kernel
theorem dX10_read_66 : decode cX10_read 66 = .ok (.istore 7, 2) := by decide +kernel
theorem dX10_read_68 : decode cX10_read 68 = .ok (.iload 6, 2) := by decide +kernel
theorem dX10_read_70 : decode cX10_read 70 = .ok (.ifCond .ne 13, 3) := by decide +kernel
theorem dX10_read_73 : decode cX10_read 73 = .ok (.iload 7, 2) := by decide +kernel
theorem dX10_read_75 : decode cX10_read 75 = .ok (.iload 4, 2) := by decide +kernel
theorem dX10_read_77 : decode cX10_read 77 = .ok (.if_icmp .ge 6, 3) := by decide +kernel
theorem dX10_read_80 : decode cX10_read 80 = .ok (.iconst 2, 1) := by decide +kernel
theorem dX10_read_81 : decode cX10_read 81 = .ok (.istore 6, 2) := by decide +kernel
theorem dX10_read_83 : decode cX10_read 83 = .ok (.aload_n 0, 1) := by decide +kernel
theorem dX10_read_84 : decode cX10_read 84 = .ok (.aload 5, 2) := by decide +kernel
theorem dX10_read_86 : decode cX10_read 86 = .ok (.iload_n 3, 1) := by decide +kernel
theorem dX10_read_87 : decode cX10_read 87 = .ok (.iload 7, 2) := by decide +kernel
theorem dX10_read_89 : decode cX10_read 89 = .ok (.invokevirtual 344, 3) := by decide +kernel
theorem dX10_read_92 : decode cX10_read 92 = .ok (.istore 8, 2) := by decide +kernel
theorem dX10_read_94 : decode cX10_read 94 = .ok (.iload 8, 2) := by decide +kernel
theorem dX10_read_96 : decode cX10_read 96 = .ok (.ifCond .eq 6, 3) := by decide +kernel
theorem dX10_read_99 : decode cX10_read 99 = .ok (.iload 8, 2) := by decide +kernel
theorem dX10_read_101 : decode cX10_read 101 = .ok (.ireturn, 1) := by decide +kernel
theorem dX10_read_102 : decode cX10_read 102 = .ok (.iconst 0, 1) := by decide +kernel
theorem dX10_read_103 : decode cX10_read 103 = .ok (.istore 9, 2) := by decide +kernel
theorem dX10_read_105 : decode cX10_read 105 = .ok (.iload 9, 2) := by decide +kernel
theorem dX10_read_107 : decode cX10_read 107 = .ok (.iload 7, 2) := by decide +kernel
theorem dX10_read_109 : decode cX10_read 109 = .ok (.if_icmp .ge 40, 3) := by decide +kernel
theorem dX10_read_112 : decode cX10_read 112 = .ok (.aload_n 0, 1) := by decide +kernel
theorem dX10_read_113 : decode cX10_read 113 = .ok (.getfield 19, 3) := by decide +kernel
theorem dX10_read_116 : decode cX10_read 116 = .ok (.aload 5, 2) := by decide +kernel
theorem dX10_read_118 : decode cX10_read 118 = .ok (.iload_n 3, 1) := by decide +kernel
theorem dX10_read_119 : decode cX10_read 119 = .ok (.iconst 2, 1) := by decide +kernel
theorem dX10_read_120 : decode cX10_read 120 = .ok (.iload 9, 2) := by decide +kernel
theorem dX10_read_122 : decode cX10_read 122 = .ok (.imul, 1) := by decide +kernel
theorem dX10_read_123 : decode cX10_read 123 = .ok (.iadd, 1) := by decide +kernel
theorem dX10_read_124 : decode cX10_read 124 = .ok (.invokevirtual 348, 3) := by decide +kernel
theorem dX10_read_127 : decode cX10_read 127 = .ok (.aload 5, 2) := by decide +kernel
theorem dX10_read_129 : decode cX10_read 129 = .ok (.iload_n 3, 1) := by decide +kernel
theorem dX10_read_130 : decode cX10_read 130 = .ok (.iconst 2, 1) := by decide +kernel
theorem dX10_read_131 : decode cX10_read 131 = .ok (.iload 9, 2) := by decide +kernel
theorem dX10_read_133 : decode cX10_read 133 = .ok (.imul, 1) := by decide +kernel
theorem dX10_read_134 : decode cX10_read 134 = .ok (.iadd, 1) := by decide +kernel
theorem dX10_read_135 : decode cX10_read 135 = .ok (.iconst 1, 1) := by decide +kernel
theorem dX10_read_136 : decode cX10_read 136 = .ok (.iadd, 1) := by decide +kernel
theorem dX10_read_137 : decode cX10_read 137 = .ok (.invokevirtual 348, 3) := by decide +kernel
theorem dX10_read_140 : decode cX10_read 140 = .ok (.invokevirtual 156, 3) := by decide +kernel
theorem dX10_read_143 : decode cX10_read 143 = .ok (.iinc 9 1, 3) := by decide +kernel
theorem dX10_read_146 : decode cX10_read 146 = .ok (.goto (-41), 3) := by decide +kernel
theorem dX10_read_149 : decode cX10_read 149 = .ok (.aload_n 0, 1) := by decide +kernel
theorem dX10_read_150 : decode cX10_read 150 = .ok (.iload 6, 2) := by decide +kernel
theorem dX10_read_152 : decode cX10_read 152 = .ok (.putfield 351, 3) := by decide +kernel
theorem dX10_read_155 : decode cX10_read 155 = .ok (.iload 7, 2) := by decide +kernel
theorem dX10_read_157 : decode cX10_read 157 = .ok (.ireturn, 1) := by decide +kernel
theorem dX10_torn_0 : decode cX10_torn 0 = .ok (.aload_n 0, 1) := by decide +kernel
theorem dX10_torn_1 : decode cX10_torn 1 = .ok (.getfield 351, 3) := by decide +kernel
theorem dX10_torn_4 : decode cX10_torn 4 = .ok (.ireturn, 1) := by decide +kernel
theorem dX10_count_0 : decode cX10_count 0 = .ok (.iload_n 1, 1) := by decide +kernel
theorem dX10_count_1 : decode cX10_count 1 = .ok (.tableswitch 60 0 3 #[31, 39, 44, 55], 31) := by decide +kernel
theorem dX10_count_32 : decode cX10_count 32 = .ok (.aload_n 0, 1) := by decide +kernel
theorem dX10_count_33 : decode cX10_count 33 = .ok (.getfield 19, 3) := by decide +kernel
theorem dX10_count_36 : decode cX10_count 36 = .ok (.getfield 151, 3) := by decide +kernel
theorem dX10_count_39 : decode cX10_count 39 = .ok (.ireturn, 1) := by decide +kernel
theorem dX10_count_40 : decode cX10_count 40 = .ok (.aload_n 0, 1) := by decide +kernel
theorem dX10_count_41 : decode cX10_count 41 = .ok (.invokevirtual 354, 3) := by decide +kernel
theorem dX10_count_44 : decode cX10_count 44 = .ok (.ireturn, 1) := by decide +kernel
theorem dX10_count_45 : decode cX10_count 45 = .ok (.aload_n 0, 1) := by decide +kernel
theorem dX10_count_46 : decode cX10_count 46 = .ok (.getfield 10, 3) := by decide +kernel
theorem dX10_count_49 : decode cX10_count 49 = .ok (.getfield 79, 3) := by decide +kernel
theorem dX10_count_52 : decode cX10_count 52 = .ok (.getfield 83, 3) := by decide +kernel
theorem dX10_count_55 : decode cX10_count 55 = .ok (.ireturn, 1) := by decide +kernel
theorem dX10_count_56 : decode cX10_count 56 = .ok (.aload_n 0, 1) := by decide +kernel
theorem dX10_count_57 : decode cX10_count 57 = .ok (.invokevirtual 358, 3) := by decide +kernel
theorem dX10_count_60 : decode cX10_count 60 = .ok (.ireturn, 1) := by decide +kernel
theorem dX10_count_61 : decode cX10_count 61 = .ok (.iconst (-1), 1) := by decide +kernel
theorem dX10_count_62 : decode cX10_count 62 = .ok (.ireturn, 1) := by decide +kernel
theorem dX10_within_0 : decode cX10_within 0 = .ok (.iload_n 0, 1) := by decide +kernel
theorem dX10_within_1 : decode cX10_within 1 = .ok (.iload_n 1, 1) := by decide +kernel
theorem dX10_within_2 : decode cX10_within 2 = .ok (.if_icmp .lt 12, 3) := by decide +kernel
theorem dX10_within_5 : decode cX10_within 5 = .ok (.iload_n 0, 1) := by decide +kernel
theorem dX10_within_6 : decode cX10_within 6 = .ok (.iload_n 2, 1) := by decide +kernel
theorem dX10_within_7 : decode cX10_within 7 = .ok (.if_icmp .gt 7, 3) := by decide +kernel
theorem dX10_within_10 : decode cX10_within 10 = .ok (.iconst 1, 1) := by decide +kernel
theorem dX10_within_11 : decode cX10_within 11 = .ok (.goto 4, 3) := by decide +kernel
theorem dX10_within_14 : decode cX10_within 14 = .ok (.iconst 0, 1) := by decide +kernel
theorem dX10_within_15 : decode cX10_within 15 = .ok (.ireturn, 1) := by decide +kernel
theorem dX10_isWire_0 : decode cX10_isWire 0 = .ok (.iload_n 0, 1) := by decide +kernel
theorem dX10_isWire_1 : decode cX10_isWire 1 = .ok (.iconst 0, 1) := by decide +kernel
theorem dX10_isWire_2 : decode cX10_isWire 2 = .ok (.bipush 7, 2) := by decide +kernel
theorem dX10_isWire_4 : decode cX10_isWire 4 = .ok (.invokestatic 93, 3) := by decide +kernel
theorem dX10_isWire_7 : decode cX10_isWire 7 = .ok (.ireturn, 1) := by decide +kernel
theorem dX10_isLane_0 : decode cX10_isLane 0 = .ok (.iload_n 0, 1) := by decide +kernel
theorem dX10_isLane_1 : decode cX10_isLane 1 = .ok (.iconst 0, 1) := by decide +kernel
theorem dX10_isLane_2 : decode cX10_isLane 2 = .ok (.iconst 2, 1) := by decide +kernel
theorem dX10_isLane_3 : decode cX10_isLane 3 = .ok (.invokestatic 93, 3) := by decide +kernel
theorem dX10_isLane_6 : decode cX10_isLane 6 = .ok (.ireturn, 1) := by decide +kernel
theorem dX10_greatestDivisor_0 : decode cX10_greatestDivisor 0 = .ok (.iload_n 0, 1) := by decide +kernel
theorem dX10_greatestDivisor_1 : decode cX10_greatestDivisor 1 = .ok (.istore_n 2, 1) := by decide +kernel
theorem dX10_greatestDivisor_2 : decode cX10_greatestDivisor 2 = .ok (.iload_n 1, 1) := by decide +kernel
theorem dX10_greatestDivisor_3 : decode cX10_greatestDivisor 3 = .ok (.istore_n 3, 1) := by decide +kernel
theorem dX10_greatestDivisor_4 : decode cX10_greatestDivisor 4 = .ok (.iconst 0, 1) := by decide +kernel
theorem dX10_greatestDivisor_5 : decode cX10_greatestDivisor 5 = .ok (.istore 4, 2) := by decide +kernel
theorem dX10_greatestDivisor_7 : decode cX10_greatestDivisor 7 = .ok (.iload 4, 2) := by decide +kernel
theorem dX10_greatestDivisor_9 : decode cX10_greatestDivisor 9 = .ok (.bipush 64, 2) := by decide +kernel
theorem dX10_greatestDivisor_11 : decode cX10_greatestDivisor 11 = .ok (.if_icmp .ge 23, 3) := by decide +kernel
theorem dX10_greatestDivisor_14 : decode cX10_greatestDivisor 14 = .ok (.iload_n 3, 1) := by decide +kernel
theorem dX10_greatestDivisor_15 : decode cX10_greatestDivisor 15 = .ok (.ifCond .eq 19, 3) := by decide +kernel
theorem dX10_greatestDivisor_18 : decode cX10_greatestDivisor 18 = .ok (.iload_n 2, 1) := by decide +kernel
theorem dX10_greatestDivisor_19 : decode cX10_greatestDivisor 19 = .ok (.iload_n 3, 1) := by decide +kernel
theorem dX10_greatestDivisor_20 : decode cX10_greatestDivisor 20 = .ok (.irem, 1) := by decide +kernel
theorem dX10_greatestDivisor_21 : decode cX10_greatestDivisor 21 = .ok (.istore 5, 2) := by decide +kernel
theorem dX10_greatestDivisor_23 : decode cX10_greatestDivisor 23 = .ok (.iload_n 3, 1) := by decide +kernel
theorem dX10_greatestDivisor_24 : decode cX10_greatestDivisor 24 = .ok (.istore_n 2, 1) := by decide +kernel
theorem dX10_greatestDivisor_25 : decode cX10_greatestDivisor 25 = .ok (.iload 5, 2) := by decide +kernel
theorem dX10_greatestDivisor_27 : decode cX10_greatestDivisor 27 = .ok (.istore_n 3, 1) := by decide +kernel
theorem dX10_greatestDivisor_28 : decode cX10_greatestDivisor 28 = .ok (.iinc 4 1, 3) := by decide +kernel
theorem dX10_greatestDivisor_31 : decode cX10_greatestDivisor 31 = .ok (.goto (-24), 3) := by decide +kernel
theorem dX10_greatestDivisor_34 : decode cX10_greatestDivisor 34 = .ok (.iload_n 2, 1) := by decide +kernel
theorem dX10_greatestDivisor_35 : decode cX10_greatestDivisor 35 = .ok (.ireturn, 1) := by decide +kernel
theorem dX10_refusalOf_0 : decode cX10_refusalOf 0 = .ok (.iload_n 0, 1) := by decide +kernel
theorem dX10_refusalOf_1 : decode cX10_refusalOf 1 = .ok (.iconst 1, 1) := by decide +kernel
theorem dX10_refusalOf_2 : decode cX10_refusalOf 2 = .ok (.sipush 400, 3) := by decide +kernel
theorem dX10_refusalOf_5 : decode cX10_refusalOf 5 = .ok (.invokestatic 93, 3) := by decide +kernel
theorem dX10_refusalOf_8 : decode cX10_refusalOf 8 = .ok (.ifCond .eq 14, 3) := by decide +kernel
theorem dX10_refusalOf_11 : decode cX10_refusalOf 11 = .ok (.iload_n 1, 1) := by decide +kernel
theorem dX10_refusalOf_12 : decode cX10_refusalOf 12 = .ok (.iconst 0, 1) := by decide +kernel
theorem dX10_refusalOf_13 : decode cX10_refusalOf 13 = .ok (.sipush 255, 3) := by decide +kernel
theorem dX10_refusalOf_16 : decode cX10_refusalOf 16 = .ok (.invokestatic 93, 3) := by decide +kernel
theorem dX10_refusalOf_19 : decode cX10_refusalOf 19 = .ok (.ifCond .ne 5, 3) := by decide +kernel
theorem dX10_refusalOf_22 : decode cX10_refusalOf 22 = .ok (.iconst (-1), 1) := by decide +kernel
theorem dX10_refusalOf_23 : decode cX10_refusalOf 23 = .ok (.ireturn, 1) := by decide +kernel
theorem dX10_refusalOf_24 : decode cX10_refusalOf 24 = .ok (.iload_n 2, 1) := by decide +kernel
theorem dX10_refusalOf_25 : decode cX10_refusalOf 25 = .ok (.iload_n 0, 1) := by decide +kernel
theorem dX10_refusalOf_26 : decode cX10_refusalOf 26 = .ok (.iadd, 1) := by decide +kernel
theorem dX10_refusalOf_27 : decode cX10_refusalOf 27 = .ok (.sipush 400, 3) := by decide +kernel
theorem dX10_refusalOf_30 : decode cX10_refusalOf 30 = .ok (.if_icmp .le 8, 3) := by decide +kernel
theorem dX10_refusalOf_33 : decode cX10_refusalOf 33 = .ok (.bipush (-3), 2) := by decide +kernel
theorem dX10_refusalOf_35 : decode cX10_refusalOf 35 = .ok (.goto 4, 3) := by decide +kernel
theorem dX10_refusalOf_38 : decode cX10_refusalOf 38 = .ok (.iconst 0, 1) := by decide +kernel
theorem dX10_refusalOf_39 : decode cX10_refusalOf 39 = .ok (.ireturn, 1) := by decide +kernel
theorem dX10_firstRefusal_0 : decode cX10_firstRefusal 0 = .ok (.aload_n 0, 1) := by decide +kernel
theorem dX10_firstRefusal_1 : decode cX10_firstRefusal 1 = .ok (.getfield 19, 3) := by decide +kernel
theorem dX10_firstRefusal_4 : decode cX10_firstRefusal 4 = .ok (.getfield 151, 3) := by decide +kernel
theorem dX10_firstRefusal_7 : decode cX10_firstRefusal 7 = .ok (.istore 4, 2) := by decide +kernel
theorem dX10_firstRefusal_9 : decode cX10_firstRefusal 9 = .ok (.iconst 0, 1) := by decide +kernel
theorem dX10_firstRefusal_10 : decode cX10_firstRefusal 10 = .ok (.istore 5, 2) := by decide +kernel
theorem dX10_firstRefusal_12 : decode cX10_firstRefusal 12 = .ok (.iload 5, 2) := by decide +kernel
theorem dX10_firstRefusal_14 : decode cX10_firstRefusal 14 = .ok (.iload_n 3, 1) := by decide +kernel
theorem dX10_firstRefusal_15 : decode cX10_firstRefusal 15 = .ok (.if_icmp .ge 69, 3) := by decide +kernel
theorem dX10_firstRefusal_18 : decode cX10_firstRefusal 18 = .ok (.aload_n 1, 1) := by decide +kernel
theorem dX10_firstRefusal_19 : decode cX10_firstRefusal 19 = .ok (.iload_n 2, 1) := by decide +kernel
theorem dX10_firstRefusal_20 : decode cX10_firstRefusal 20 = .ok (.iconst 2, 1) := by decide +kernel
theorem dX10_firstRefusal_21 : decode cX10_firstRefusal 21 = .ok (.iload 5, 2) := by decide +kernel
theorem dX10_firstRefusal_23 : decode cX10_firstRefusal 23 = .ok (.imul, 1) := by decide +kernel
theorem dX10_firstRefusal_24 : decode cX10_firstRefusal 24 = .ok (.iadd, 1) := by decide +kernel
theorem dX10_firstRefusal_25 : decode cX10_firstRefusal 25 = .ok (.invokevirtual 348, 3) := by decide +kernel
theorem dX10_firstRefusal_28 : decode cX10_firstRefusal 28 = .ok (.istore 6, 2) := by decide +kernel
theorem dX10_firstRefusal_30 : decode cX10_firstRefusal 30 = .ok (.iload 6, 2) := by decide +kernel
theorem dX10_firstRefusal_32 : decode cX10_firstRefusal 32 = .ok (.aload_n 1, 1) := by decide +kernel
theorem dX10_firstRefusal_33 : decode cX10_firstRefusal 33 = .ok (.iload_n 2, 1) := by decide +kernel
theorem dX10_firstRefusal_34 : decode cX10_firstRefusal 34 = .ok (.iconst 2, 1) := by decide +kernel
theorem dX10_firstRefusal_35 : decode cX10_firstRefusal 35 = .ok (.iload 5, 2) := by decide +kernel
theorem dX10_firstRefusal_37 : decode cX10_firstRefusal 37 = .ok (.imul, 1) := by decide +kernel
theorem dX10_firstRefusal_38 : decode cX10_firstRefusal 38 = .ok (.iadd, 1) := by decide +kernel
theorem dX10_firstRefusal_39 : decode cX10_firstRefusal 39 = .ok (.iconst 1, 1) := by decide +kernel
theorem dX10_firstRefusal_40 : decode cX10_firstRefusal 40 = .ok (.iadd, 1) := by decide +kernel
theorem dX10_firstRefusal_41 : decode cX10_firstRefusal 41 = .ok (.invokevirtual 348, 3) := by decide +kernel
theorem dX10_firstRefusal_44 : decode cX10_firstRefusal 44 = .ok (.iload 4, 2) := by decide +kernel
theorem dX10_firstRefusal_46 : decode cX10_firstRefusal 46 = .ok (.invokestatic 152, 3) := by decide +kernel
theorem dX10_firstRefusal_49 : decode cX10_firstRefusal 49 = .ok (.istore 7, 2) := by decide +kernel
theorem dX10_firstRefusal_51 : decode cX10_firstRefusal 51 = .ok (.iload 7, 2) := by decide +kernel
theorem dX10_firstRefusal_53 : decode cX10_firstRefusal 53 = .ok (.iconst (-1), 1) := by decide +kernel
theorem dX10_firstRefusal_54 : decode cX10_firstRefusal 54 = .ok (.if_icmp .ne 9, 3) := by decide +kernel
theorem dX10_firstRefusal_57 : decode cX10_firstRefusal 57 = .ok (.bipush (-20), 2) := by decide +kernel
theorem dX10_firstRefusal_59 : decode cX10_firstRefusal 59 = .ok (.iload 5, 2) := by decide +kernel
theorem dX10_firstRefusal_61 : decode cX10_firstRefusal 61 = .ok (.isub, 1) := by decide +kernel
theorem dX10_firstRefusal_62 : decode cX10_firstRefusal 62 = .ok (.ireturn, 1) := by decide +kernel
theorem dX10_firstRefusal_63 : decode cX10_firstRefusal 63 = .ok (.iload 7, 2) := by decide +kernel
theorem dX10_firstRefusal_65 : decode cX10_firstRefusal 65 = .ok (.ifCond .eq 6, 3) := by decide +kernel
theorem dX10_firstRefusal_68 : decode cX10_firstRefusal 68 = .ok (.iload 7, 2) := by decide +kernel
theorem dX10_firstRefusal_70 : decode cX10_firstRefusal 70 = .ok (.ireturn, 1) := by decide +kernel
theorem dX10_firstRefusal_71 : decode cX10_firstRefusal 71 = .ok (.iload 4, 2) := by decide +kernel
theorem dX10_firstRefusal_73 : decode cX10_firstRefusal 73 = .ok (.iload 6, 2) := by decide +kernel
theorem dX10_firstRefusal_75 : decode cX10_firstRefusal 75 = .ok (.iadd, 1) := by decide +kernel
theorem dX10_firstRefusal_76 : decode cX10_firstRefusal 76 = .ok (.istore 4, 2) := by decide +kernel
theorem dX10_firstRefusal_78 : decode cX10_firstRefusal 78 = .ok (.iinc 5 1, 3) := by decide +kernel
theorem dX10_firstRefusal_81 : decode cX10_firstRefusal 81 = .ok (.goto (-69), 3) := by decide +kernel
theorem dX10_firstRefusal_84 : decode cX10_firstRefusal 84 = .ok (.iconst 0, 1) := by decide +kernel
theorem dX10_firstRefusal_85 : decode cX10_firstRefusal 85 = .ok (.ireturn, 1) := by decide +kernel
theorem dX10_turns_0 : decode cX10_turns 0 = .ok (.iload_n 2, 1) := by decide +kernel
theorem dX10_turns_1 : decode cX10_turns 1 = .ok (.ifCond .eq 15, 3) := by decide +kernel
theorem dX10_turns_4 : decode cX10_turns 4 = .ok (.aload_n 0, 1) := by decide +kernel
theorem dX10_turns_5 : decode cX10_turns 5 = .ok (.getfield 19, 3) := by decide +kernel
theorem dX10_turns_8 : decode cX10_turns 8 = .ok (.iload_n 1, 1) := by decide +kernel
theorem dX10_turns_9 : decode cX10_turns 9 = .ok (.iload_n 3, 1) := by decide +kernel
theorem dX10_turns_10 : decode cX10_turns 10 = .ok (.invokevirtual 361, 3) := by decide +kernel
theorem dX10_turns_13 : decode cX10_turns 13 = .ok (.goto 12, 3) := by decide +kernel
theorem dX10_turns_16 : decode cX10_turns 16 = .ok (.aload_n 0, 1) := by decide +kernel
theorem dX10_turns_17 : decode cX10_turns 17 = .ok (.getfield 19, 3) := by decide +kernel
theorem dX10_turns_20 : decode cX10_turns 20 = .ok (.iload_n 1, 1) := by decide +kernel
theorem dX10_turns_21 : decode cX10_turns 21 = .ok (.iload_n 3, 1) := by decide +kernel
theorem dX10_turns_22 : decode cX10_turns 22 = .ok (.invokevirtual 364, 3) := by decide +kernel
theorem dX10_turns_25 : decode cX10_turns 25 = .ok (.ireturn, 1) := by decide +kernel
theorem dX10_firstRise_0 : decode cX10_firstRise 0 = .ok (.iconst 1, 1) := by decide +kernel
theorem dX10_firstRise_1 : decode cX10_firstRise 1 = .ok (.istore_n 2, 1) := by decide +kernel
theorem dX10_firstRise_2 : decode cX10_firstRise 2 = .ok (.iload_n 2, 1) := by decide +kernel
theorem dX10_firstRise_3 : decode cX10_firstRise 3 = .ok (.aload_n 0, 1) := by decide +kernel
theorem dX10_firstRise_4 : decode cX10_firstRise 4 = .ok (.getfield 19, 3) := by decide +kernel
theorem dX10_firstRise_7 : decode cX10_firstRise 7 = .ok (.getfield 151, 3) := by decide +kernel
theorem dX10_firstRise_10 : decode cX10_firstRise 10 = .ok (.if_icmp .ge 23, 3) := by decide +kernel
theorem dX10_firstRise_13 : decode cX10_firstRise 13 = .ok (.aload_n 0, 1) := by decide +kernel
theorem dX10_firstRise_14 : decode cX10_firstRise 14 = .ok (.getfield 19, 3) := by decide +kernel
theorem dX10_firstRise_17 : decode cX10_firstRise 17 = .ok (.iload_n 1, 1) := by decide +kernel
theorem dX10_firstRise_18 : decode cX10_firstRise 18 = .ok (.iload_n 2, 1) := by decide +kernel
theorem dX10_firstRise_19 : decode cX10_firstRise 19 = .ok (.invokevirtual 364, 3) := by decide +kernel
theorem dX10_firstRise_22 : decode cX10_firstRise 22 = .ok (.ifCond .eq 5, 3) := by decide +kernel
theorem dX10_firstRise_25 : decode cX10_firstRise 25 = .ok (.iload_n 2, 1) := by decide +kernel
theorem dX10_firstRise_26 : decode cX10_firstRise 26 = .ok (.ireturn, 1) := by decide +kernel
theorem dX10_firstRise_27 : decode cX10_firstRise 27 = .ok (.iinc 2 1, 3) := by decide +kernel
theorem dX10_firstRise_30 : decode cX10_firstRise 30 = .ok (.goto (-28), 3) := by decide +kernel
theorem dX10_firstRise_33 : decode cX10_firstRise 33 = .ok (.bipush (-4), 2) := by decide +kernel
theorem dX10_firstRise_35 : decode cX10_firstRise 35 = .ok (.ireturn, 1) := by decide +kernel
theorem dX10_lastRise_0 : decode cX10_lastRise 0 = .ok (.aload_n 0, 1) := by decide +kernel
theorem dX10_lastRise_1 : decode cX10_lastRise 1 = .ok (.getfield 19, 3) := by decide +kernel
theorem dX10_lastRise_4 : decode cX10_lastRise 4 = .ok (.getfield 151, 3) := by decide +kernel
theorem dX10_lastRise_7 : decode cX10_lastRise 7 = .ok (.iconst 1, 1) := by decide +kernel
theorem dX10_lastRise_8 : decode cX10_lastRise 8 = .ok (.isub, 1) := by decide +kernel
theorem dX10_lastRise_9 : decode cX10_lastRise 9 = .ok (.istore_n 2, 1) := by decide +kernel
theorem dX10_lastRise_10 : decode cX10_lastRise 10 = .ok (.iload_n 2, 1) := by decide +kernel
theorem dX10_lastRise_11 : decode cX10_lastRise 11 = .ok (.ifCond .le 23, 3) := by decide +kernel
theorem dX10_lastRise_14 : decode cX10_lastRise 14 = .ok (.aload_n 0, 1) := by decide +kernel
theorem dX10_lastRise_15 : decode cX10_lastRise 15 = .ok (.getfield 19, 3) := by decide +kernel
theorem dX10_lastRise_18 : decode cX10_lastRise 18 = .ok (.iload_n 1, 1) := by decide +kernel
theorem dX10_lastRise_19 : decode cX10_lastRise 19 = .ok (.iload_n 2, 1) := by decide +kernel
theorem dX10_lastRise_20 : decode cX10_lastRise 20 = .ok (.invokevirtual 364, 3) := by decide +kernel
theorem dX10_lastRise_23 : decode cX10_lastRise 23 = .ok (.ifCond .eq 5, 3) := by decide +kernel
theorem dX10_lastRise_26 : decode cX10_lastRise 26 = .ok (.iload_n 2, 1) := by decide +kernel
theorem dX10_lastRise_27 : decode cX10_lastRise 27 = .ok (.ireturn, 1) := by decide +kernel
theorem dX10_lastRise_28 : decode cX10_lastRise 28 = .ok (.iinc 2 (-1), 3) := by decide +kernel
theorem dX10_lastRise_31 : decode cX10_lastRise 31 = .ok (.goto (-21), 3) := by decide +kernel
theorem dX10_lastRise_34 : decode cX10_lastRise 34 = .ok (.bipush (-4), 2) := by decide +kernel
theorem dX10_lastRise_36 : decode cX10_lastRise 36 = .ok (.ireturn, 1) := by decide +kernel
theorem dX10_imageOf_0 : decode cX10_imageOf 0 = .ok (.iload_n 1, 1) := by decide +kernel
theorem dX10_imageOf_1 : decode cX10_imageOf 1 = .ok (.iconst 0, 1) := by decide +kernel
theorem dX10_imageOf_2 : decode cX10_imageOf 2 = .ok (.aload_n 0, 1) := by decide +kernel
theorem dX10_imageOf_3 : decode cX10_imageOf 3 = .ok (.getfield 26, 3) := by decide +kernel
theorem dX10_imageOf_6 : decode cX10_imageOf 6 = .ok (.arraylength, 1) := by decide +kernel
theorem dX10_imageOf_7 : decode cX10_imageOf 7 = .ok (.iconst 1, 1) := by decide +kernel
theorem dX10_imageOf_8 : decode cX10_imageOf 8 = .ok (.isub, 1) := by decide +kernel
theorem dX10_imageOf_9 : decode cX10_imageOf 9 = .ok (.invokestatic 93, 3) := by decide +kernel
theorem dX10_imageOf_12 : decode cX10_imageOf 12 = .ok (.ifCond .eq 12, 3) := by decide +kernel
theorem dX10_imageOf_15 : decode cX10_imageOf 15 = .ok (.aload_n 0, 1) := by decide +kernel
theorem dX10_imageOf_16 : decode cX10_imageOf 16 = .ok (.getfield 26, 3) := by decide +kernel
theorem dX10_imageOf_19 : decode cX10_imageOf 19 = .ok (.iload_n 1, 1) := by decide +kernel
theorem dX10_imageOf_20 : decode cX10_imageOf 20 = .ok (.aaload, 1) := by decide +kernel
theorem dX10_imageOf_21 : decode cX10_imageOf 21 = .ok (.goto 4, 3) := by decide +kernel
theorem dX10_imageOf_24 : decode cX10_imageOf 24 = .ok (.aconst_null, 1) := by decide +kernel
theorem dX10_imageOf_25 : decode cX10_imageOf 25 = .ok (.areturn, 1) := by decide +kernel
theorem dX10_sheetOf_0 : decode cX10_sheetOf 0 = .ok (.iload_n 1, 1) := by decide +kernel
theorem dX10_sheetOf_1 : decode cX10_sheetOf 1 = .ok (.iconst 0, 1) := by decide +kernel
theorem dX10_sheetOf_2 : decode cX10_sheetOf 2 = .ok (.aload_n 0, 1) := by decide +kernel
theorem dX10_sheetOf_3 : decode cX10_sheetOf 3 = .ok (.getfield 33, 3) := by decide +kernel
theorem dX10_sheetOf_6 : decode cX10_sheetOf 6 = .ok (.arraylength, 1) := by decide +kernel
theorem dX10_sheetOf_7 : decode cX10_sheetOf 7 = .ok (.iconst 1, 1) := by decide +kernel
theorem dX10_sheetOf_8 : decode cX10_sheetOf 8 = .ok (.isub, 1) := by decide +kernel
theorem dX10_sheetOf_9 : decode cX10_sheetOf 9 = .ok (.invokestatic 93, 3) := by decide +kernel
theorem dX10_sheetOf_12 : decode cX10_sheetOf 12 = .ok (.ifCond .eq 12, 3) := by decide +kernel
theorem dX10_sheetOf_15 : decode cX10_sheetOf 15 = .ok (.aload_n 0, 1) := by decide +kernel
theorem dX10_sheetOf_16 : decode cX10_sheetOf 16 = .ok (.getfield 33, 3) := by decide +kernel
theorem dX10_sheetOf_19 : decode cX10_sheetOf 19 = .ok (.iload_n 1, 1) := by decide +kernel
theorem dX10_sheetOf_20 : decode cX10_sheetOf 20 = .ok (.aaload, 1) := by decide +kernel
theorem dX10_sheetOf_21 : decode cX10_sheetOf 21 = .ok (.goto 4, 3) := by decide +kernel
theorem dX10_sheetOf_24 : decode cX10_sheetOf 24 = .ok (.aconst_null, 1) := by decide +kernel
theorem dX10_sheetOf_25 : decode cX10_sheetOf 25 = .ok (.areturn, 1) := by decide +kernel
theorem dX10_imagesKept_0 : decode cX10_imagesKept 0 = .ok (.iconst 0, 1) := by decide +kernel
theorem dX10_imagesKept_1 : decode cX10_imagesKept 1 = .ok (.istore_n 1, 1) := by decide +kernel
theorem dX10_imagesKept_2 : decode cX10_imagesKept 2 = .ok (.iconst 0, 1) := by decide +kernel
theorem dX10_imagesKept_3 : decode cX10_imagesKept 3 = .ok (.istore_n 2, 1) := by decide +kernel
theorem dX10_imagesKept_4 : decode cX10_imagesKept 4 = .ok (.iload_n 2, 1) := by decide +kernel
theorem dX10_imagesKept_5 : decode cX10_imagesKept 5 = .ok (.aload_n 0, 1) := by decide +kernel
theorem dX10_imagesKept_6 : decode cX10_imagesKept 6 = .ok (.getfield 26, 3) := by decide +kernel
theorem dX10_imagesKept_9 : decode cX10_imagesKept 9 = .ok (.arraylength, 1) := by decide +kernel
theorem dX10_imagesKept_10 : decode cX10_imagesKept 10 = .ok (.if_icmp .ge 35, 3) := by decide +kernel
theorem dX10_imagesKept_13 : decode cX10_imagesKept 13 = .ok (.aload_n 0, 1) := by decide +kernel
theorem dX10_imagesKept_14 : decode cX10_imagesKept 14 = .ok (.getfield 26, 3) := by decide +kernel
theorem dX10_imagesKept_17 : decode cX10_imagesKept 17 = .ok (.iload_n 2, 1) := by decide +kernel
theorem dX10_imagesKept_18 : decode cX10_imagesKept 18 = .ok (.aaload, 1) := by decide +kernel
theorem dX10_imagesKept_19 : decode cX10_imagesKept 19 = .ok (.astore_n 3, 1) := by decide +kernel
theorem dX10_imagesKept_20 : decode cX10_imagesKept 20 = .ok (.iload_n 1, 1) := by decide +kernel
theorem dX10_imagesKept_21 : decode cX10_imagesKept 21 = .ok (.aload_n 3, 1) := by decide +kernel
theorem dX10_imagesKept_22 : decode cX10_imagesKept 22 = .ok (.ifnull 14, 3) := by decide +kernel
theorem dX10_imagesKept_25 : decode cX10_imagesKept 25 = .ok (.aload_n 3, 1) := by decide +kernel
theorem dX10_imagesKept_26 : decode cX10_imagesKept 26 = .ok (.getfield 312, 3) := by decide +kernel
theorem dX10_imagesKept_29 : decode cX10_imagesKept 29 = .ok (.ifCond .eq 7, 3) := by decide +kernel
theorem dX10_imagesKept_32 : decode cX10_imagesKept 32 = .ok (.iconst 1, 1) := by decide +kernel
theorem dX10_imagesKept_33 : decode cX10_imagesKept 33 = .ok (.goto 4, 3) := by decide +kernel
theorem dX10_imagesKept_36 : decode cX10_imagesKept 36 = .ok (.iconst 0, 1) := by decide +kernel
theorem dX10_imagesKept_37 : decode cX10_imagesKept 37 = .ok (.iadd, 1) := by decide +kernel
theorem dX10_imagesKept_38 : decode cX10_imagesKept 38 = .ok (.istore_n 1, 1) := by decide +kernel
theorem dX10_imagesKept_39 : decode cX10_imagesKept 39 = .ok (.iinc 2 1, 3) := by decide +kernel
theorem dX10_imagesKept_42 : decode cX10_imagesKept 42 = .ok (.goto (-38), 3) := by decide +kernel
theorem dX10_imagesKept_45 : decode cX10_imagesKept 45 = .ok (.iload_n 1, 1) := by decide +kernel
theorem dX10_imagesKept_46 : decode cX10_imagesKept 46 = .ok (.ireturn, 1) := by decide +kernel
theorem dX10_cellsOfFirst_0 : decode cX10_cellsOfFirst 0 = .ok (.aload_n 0, 1) := by decide +kernel
theorem dX10_cellsOfFirst_1 : decode cX10_cellsOfFirst 1 = .ok (.iconst 0, 1) := by decide +kernel
theorem dX10_cellsOfFirst_2 : decode cX10_cellsOfFirst 2 = .ok (.invokevirtual 320, 3) := by decide +kernel
theorem dX10_cellsOfFirst_5 : decode cX10_cellsOfFirst 5 = .ok (.astore_n 1, 1) := by decide +kernel
theorem dX10_cellsOfFirst_6 : decode cX10_cellsOfFirst 6 = .ok (.aload_n 1, 1) := by decide +kernel
theorem dX10_cellsOfFirst_7 : decode cX10_cellsOfFirst 7 = .ok (.ifnull 10, 3) := by decide +kernel
theorem dX10_cellsOfFirst_10 : decode cX10_cellsOfFirst 10 = .ok (.aload_n 1, 1) := by decide +kernel
theorem dX10_cellsOfFirst_11 : decode cX10_cellsOfFirst 11 = .ok (.invokevirtual 330, 3) := by decide +kernel
theorem dX10_cellsOfFirst_14 : decode cX10_cellsOfFirst 14 = .ok (.ifCond .eq 8, 3) := by decide +kernel
theorem dX10_cellsOfFirst_17 : decode cX10_cellsOfFirst 17 = .ok (.bipush (-4), 2) := by decide +kernel
theorem dX10_cellsOfFirst_19 : decode cX10_cellsOfFirst 19 = .ok (.goto 7, 3) := by decide +kernel
theorem dX10_cellsOfFirst_22 : decode cX10_cellsOfFirst 22 = .ok (.aload_n 1, 1) := by decide +kernel
theorem dX10_cellsOfFirst_23 : decode cX10_cellsOfFirst 23 = .ok (.getfield 367, 3) := by decide +kernel
theorem dX10_cellsOfFirst_26 : decode cX10_cellsOfFirst 26 = .ok (.ireturn, 1) := by decide +kernel
