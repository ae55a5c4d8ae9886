theorem dJ13_bitCount_95d88_0 : decode cJ13_bitCount_95d88 0 = .ok (.lload_n 0, 1) := by decide +kernel
theorem dJ13_bitCount_95d88_1 : decode cJ13_bitCount_95d88 1 = .ok (.lload_n 0, 1) := by decide +kernel
theorem dJ13_bitCount_95d88_2 : decode cJ13_bitCount_95d88 2 = .ok (.iconst 1, 1) := by decide +kernel
theorem dJ13_bitCount_95d88_3 : decode cJ13_bitCount_95d88 3 = .ok (.lushr, 1) := by decide +kernel
theorem dJ13_bitCount_95d88_4 : decode cJ13_bitCount_95d88 4 = .ok (.ldc2_w 314, 3) := by decide +kernel
theorem dJ13_bitCount_95d88_7 : decode cJ13_bitCount_95d88 7 = .ok (.land, 1) := by decide +kernel
theorem dJ13_bitCount_95d88_8 : decode cJ13_bitCount_95d88 8 = .ok (.lsub, 1) := by decide +kernel
theorem dJ13_bitCount_95d88_9 : decode cJ13_bitCount_95d88 9 = .ok (.lstore_n 0, 1) := by decide +kernel
theorem dJ13_bitCount_95d88_10 : decode cJ13_bitCount_95d88 10 = .ok (.lload_n 0, 1) := by decide +kernel
theorem dJ13_bitCount_95d88_11 : decode cJ13_bitCount_95d88 11 = .ok (.ldc2_w 316, 3) := by decide +kernel
theorem dJ13_bitCount_95d88_14 : decode cJ13_bitCount_95d88 14 = .ok (.land, 1) := by decide +kernel
theorem dJ13_bitCount_95d88_15 : decode cJ13_bitCount_95d88 15 = .ok (.lload_n 0, 1) := by decide +kernel
theorem dJ13_bitCount_95d88_16 : decode cJ13_bitCount_95d88 16 = .ok (.iconst 2, 1) := by decide +kernel
theorem dJ13_bitCount_95d88_17 : decode cJ13_bitCount_95d88 17 = .ok (.lushr, 1) := by decide +kernel
theorem dJ13_bitCount_95d88_18 : decode cJ13_bitCount_95d88 18 = .ok (.ldc2_w 316, 3) := by decide +kernel
theorem dJ13_bitCount_95d88_21 : decode cJ13_bitCount_95d88 21 = .ok (.land, 1) := by decide +kernel
theorem dJ13_bitCount_95d88_22 : decode cJ13_bitCount_95d88 22 = .ok (.ladd, 1) := by decide +kernel
theorem dJ13_bitCount_95d88_23 : decode cJ13_bitCount_95d88 23 = .ok (.lstore_n 0, 1) := by decide +kernel
theorem dJ13_bitCount_95d88_24 : decode cJ13_bitCount_95d88 24 = .ok (.lload_n 0, 1) := by decide +kernel
theorem dJ13_bitCount_95d88_25 : decode cJ13_bitCount_95d88 25 = .ok (.lload_n 0, 1) := by decide +kernel
theorem dJ13_bitCount_95d88_26 : decode cJ13_bitCount_95d88 26 = .ok (.iconst 4, 1) := by decide +kernel
theorem dJ13_bitCount_95d88_27 : decode cJ13_bitCount_95d88 27 = .ok (.lushr, 1) := by decide +kernel
theorem dJ13_bitCount_95d88_28 : decode cJ13_bitCount_95d88 28 = .ok (.ladd, 1) := by decide +kernel
theorem dJ13_bitCount_95d88_29 : decode cJ13_bitCount_95d88 29 = .ok (.ldc2_w 318, 3) := by decide +kernel
theorem dJ13_bitCount_95d88_32 : decode cJ13_bitCount_95d88 32 = .ok (.land, 1) := by decide +kernel
theorem dJ13_bitCount_95d88_33 : decode cJ13_bitCount_95d88 33 = .ok (.lstore_n 0, 1) := by decide +kernel
theorem dJ13_bitCount_95d88_34 : decode cJ13_bitCount_95d88 34 = .ok (.lload_n 0, 1) := by decide +kernel
theorem dJ13_bitCount_95d88_35 : decode cJ13_bitCount_95d88 35 = .ok (.lload_n 0, 1) := by decide +kernel
theorem dJ13_bitCount_95d88_36 : decode cJ13_bitCount_95d88 36 = .ok (.bipush 8, 2) := by decide +kernel
theorem dJ13_bitCount_95d88_38 : decode cJ13_bitCount_95d88 38 = .ok (.lushr, 1) := by decide +kernel
theorem dJ13_bitCount_95d88_39 : decode cJ13_bitCount_95d88 39 = .ok (.ladd, 1) := by decide +kernel
theorem dJ13_bitCount_95d88_40 : decode cJ13_bitCount_95d88 40 = .ok (.lstore_n 0, 1) := by decide +kernel
theorem dJ13_bitCount_95d88_41 : decode cJ13_bitCount_95d88 41 = .ok (.lload_n 0, 1) := by decide +kernel
theorem dJ13_bitCount_95d88_42 : decode cJ13_bitCount_95d88 42 = .ok (.lload_n 0, 1) := by decide +kernel
theorem dJ13_bitCount_95d88_43 : decode cJ13_bitCount_95d88 43 = .ok (.bipush 16, 2) := by decide +kernel
theorem dJ13_bitCount_95d88_45 : decode cJ13_bitCount_95d88 45 = .ok (.lushr, 1) := by decide +kernel
theorem dJ13_bitCount_95d88_46 : decode cJ13_bitCount_95d88 46 = .ok (.ladd, 1) := by decide +kernel
theorem dJ13_bitCount_95d88_47 : decode cJ13_bitCount_95d88 47 = .ok (.lstore_n 0, 1) := by decide +kernel
theorem dJ13_bitCount_95d88_48 : decode cJ13_bitCount_95d88 48 = .ok (.lload_n 0, 1) := by decide +kernel
theorem dJ13_bitCount_95d88_49 : decode cJ13_bitCount_95d88 49 = .ok (.lload_n 0, 1) := by decide +kernel
theorem dJ13_bitCount_95d88_50 : decode cJ13_bitCount_95d88 50 = .ok (.bipush 32, 2) := by decide +kernel
theorem dJ13_bitCount_95d88_52 : decode cJ13_bitCount_95d88 52 = .ok (.lushr, 1) := by decide +kernel
theorem dJ13_bitCount_95d88_53 : decode cJ13_bitCount_95d88 53 = .ok (.ladd, 1) := by decide +kernel
theorem dJ13_bitCount_95d88_54 : decode cJ13_bitCount_95d88 54 = .ok (.lstore_n 0, 1) := by decide +kernel
theorem dJ13_bitCount_95d88_55 : decode cJ13_bitCount_95d88 55 = .ok (.lload_n 0, 1) := by decide +kernel
theorem dJ13_bitCount_95d88_56 : decode cJ13_bitCount_95d88 56 = .ok (.l2i, 1) := by decide +kernel
theorem dJ13_bitCount_95d88_57 : decode cJ13_bitCount_95d88 57 = .ok (.bipush 127, 2) := by decide +kernel
theorem dJ13_bitCount_95d88_59 : decode cJ13_bitCount_95d88 59 = .ok (.iand, 1) := by decide +kernel
theorem dJ13_bitCount_95d88_60 : decode cJ13_bitCount_95d88 60 = .ok (.ireturn, 1) := by decide +kernel
theorem dJ9_max_7cf53_0 : decode cJ9_max_7cf53 0 = .ok (.iload_n 0, 1) := by decide +kernel
theorem dJ9_max_7cf53_1 : decode cJ9_max_7cf53 1 = .ok (.iload_n 1, 1) := by decide +kernel
theorem dJ9_max_7cf53_2 : decode cJ9_max_7cf53 2 = .ok (.if_icmp .lt 7, 3) := by decide +kernel
theorem dJ9_max_7cf53_5 : decode cJ9_max_7cf53 5 = .ok (.iload_n 0, 1) := by decide +kernel
theorem dJ9_max_7cf53_6 : decode cJ9_max_7cf53 6 = .ok (.goto 4, 3) := by decide +kernel
theorem dJ9_max_7cf53_9 : decode cJ9_max_7cf53 9 = .ok (.iload_n 1, 1) := by decide +kernel
theorem dJ9_max_7cf53_10 : decode cJ9_max_7cf53 10 = .ok (.ireturn, 1) := by decide +kernel
theorem dJ9_min_7cf53_0 : decode cJ9_min_7cf53 0 = .ok (.iload_n 0, 1) := by decide +kernel
theorem dJ9_min_7cf53_1 : decode cJ9_min_7cf53 1 = .ok (.iload_n 1, 1) := by decide +kernel
theorem dJ9_min_7cf53_2 : decode cJ9_min_7cf53 2 = .ok (.if_icmp .gt 7, 3) := by decide +kernel
theorem dJ9_min_7cf53_5 : decode cJ9_min_7cf53 5 = .ok (.iload_n 0, 1) := by decide +kernel
theorem dJ9_min_7cf53_6 : decode cJ9_min_7cf53 6 = .ok (.goto 4, 3) := by decide +kernel
theorem dJ9_min_7cf53_9 : decode cJ9_min_7cf53 9 = .ok (.iload_n 1, 1) := by decide +kernel
theorem dJ9_min_7cf53_10 : decode cJ9_min_7cf53 10 = .ok (.ireturn, 1) := by decide +kernel
theorem dJ0_length_8abf5_0 : decode cJ0_length_8abf5 0 = .ok (.aload_n 0, 1) := by decide +kernel
theorem dJ0_length_8abf5_1 : decode cJ0_length_8abf5 1 = .ok (.getfield 9, 3) := by decide +kernel
theorem dJ0_length_8abf5_4 : decode cJ0_length_8abf5 4 = .ok (.arraylength, 1) := by decide +kernel
theorem dJ0_length_8abf5_5 : decode cJ0_length_8abf5 5 = .ok (.aload_n 0, 1) := by decide +kernel
theorem dJ0_length_8abf5_6 : decode cJ0_length_8abf5 6 = .ok (.invokevirtual 335, 3) := by decide +kernel
theorem dJ0_length_8abf5_9 : decode cJ0_length_8abf5 9 = .ok (.ishr, 1) := by decide +kernel
theorem dJ0_length_8abf5_10 : decode cJ0_length_8abf5 10 = .ok (.ireturn, 1) := by decide +kernel
theorem dJ0_charAt_5068e_0 : decode cJ0_charAt_5068e 0 = .ok (.aload_n 0, 1) := by decide +kernel
theorem dJ0_charAt_5068e_1 : decode cJ0_charAt_5068e 1 = .ok (.invokevirtual 492, 3) := by decide +kernel
theorem dJ0_charAt_5068e_4 : decode cJ0_charAt_5068e 4 = .ok (.ifCond .eq 12, 3) := by decide +kernel
theorem dJ0_charAt_5068e_7 : decode cJ0_charAt_5068e 7 = .ok (.aload_n 0, 1) := by decide +kernel
theorem dJ0_charAt_5068e_8 : decode cJ0_charAt_5068e 8 = .ok (.getfield 9, 3) := by decide +kernel
theorem dJ0_charAt_5068e_11 : decode cJ0_charAt_5068e 11 = .ok (.iload_n 1, 1) := by decide +kernel
theorem dJ0_charAt_5068e_12 : decode cJ0_charAt_5068e 12 = .ok (.invokestatic 495, 3) := by decide +kernel
theorem dJ0_charAt_5068e_15 : decode cJ0_charAt_5068e 15 = .ok (.ireturn, 1) := by decide +kernel
theorem dJ0_charAt_5068e_16 : decode cJ0_charAt_5068e 16 = .ok (.aload_n 0, 1) := by decide +kernel
theorem dJ0_charAt_5068e_17 : decode cJ0_charAt_5068e 17 = .ok (.getfield 9, 3) := by decide +kernel
theorem dJ0_charAt_5068e_20 : decode cJ0_charAt_5068e 20 = .ok (.iload_n 1, 1) := by decide +kernel
theorem dJ0_charAt_5068e_21 : decode cJ0_charAt_5068e 21 = .ok (.invokestatic 498, 3) := by decide +kernel
theorem dJ0_charAt_5068e_24 : decode cJ0_charAt_5068e 24 = .ok (.ireturn, 1) := by decide +kernel
theorem dJ0_coder_7d493_0 : decode cJ0_coder_7d493 0 = .ok (.getstatic 38, 3) := by decide +kernel
theorem dJ0_coder_7d493_3 : decode cJ0_coder_7d493 3 = .ok (.ifCond .eq 10, 3) := by decide +kernel
theorem dJ0_coder_7d493_6 : decode cJ0_coder_7d493 6 = .ok (.aload_n 0, 1) := by decide +kernel
theorem dJ0_coder_7d493_7 : decode cJ0_coder_7d493 7 = .ok (.getfield 15, 3) := by decide +kernel
theorem dJ0_coder_7d493_10 : decode cJ0_coder_7d493 10 = .ok (.goto 4, 3) := by decide +kernel
theorem dJ0_coder_7d493_13 : decode cJ0_coder_7d493 13 = .ok (.iconst 1, 1) := by decide +kernel
theorem dJ0_coder_7d493_14 : decode cJ0_coder_7d493 14 = .ok (.ireturn, 1) := by decide +kernel
theorem dJ0_isLatin1_aae02_0 : decode cJ0_isLatin1_aae02 0 = .ok (.getstatic 38, 3) := by decide +kernel
theorem dJ0_isLatin1_aae02_3 : decode cJ0_isLatin1_aae02 3 = .ok (.ifCond .eq 14, 3) := by decide +kernel
theorem dJ0_isLatin1_aae02_6 : decode cJ0_isLatin1_aae02 6 = .ok (.aload_n 0, 1) := by decide +kernel
theorem dJ0_isLatin1_aae02_7 : decode cJ0_isLatin1_aae02 7 = .ok (.getfield 15, 3) := by decide +kernel
theorem dJ0_isLatin1_aae02_10 : decode cJ0_isLatin1_aae02 10 = .ok (.ifCond .ne 7, 3) := by decide +kernel
theorem dJ0_isLatin1_aae02_13 : decode cJ0_isLatin1_aae02 13 = .ok (.iconst 1, 1) := by decide +kernel
theorem dJ0_isLatin1_aae02_14 : decode cJ0_isLatin1_aae02 14 = .ok (.goto 4, 3) := by decide +kernel
theorem dJ0_isLatin1_aae02_17 : decode cJ0_isLatin1_aae02 17 = .ok (.iconst 0, 1) := by decide +kernel
theorem dJ0_isLatin1_aae02_18 : decode cJ0_isLatin1_aae02 18 = .ok (.ireturn, 1) := by decide +kernel
theorem dJ0_checkIndex_df160_0 : decode cJ0_checkIndex_df160 0 = .ok (.iload_n 0, 1) := by decide +kernel
theorem dJ0_checkIndex_df160_1 : decode cJ0_checkIndex_df160 1 = .ok (.iload_n 1, 1) := by decide +kernel
theorem dJ0_checkIndex_df160_2 : decode cJ0_checkIndex_df160 2 = .ok (.getstatic 1053, 3) := by decide +kernel
theorem dJ0_checkIndex_df160_5 : decode cJ0_checkIndex_df160 5 = .ok (.invokestatic 1059, 3) := by decide +kernel
theorem dJ0_checkIndex_df160_8 : decode cJ0_checkIndex_df160 8 = .ok (.pop, 1) := by decide +kernel
theorem dJ0_checkIndex_df160_9 : decode cJ0_checkIndex_df160 9 = .ok (.return_, 1) := by decide +kernel
theorem dJ1_charAt_3b067_0 : decode cJ1_charAt_3b067 0 = .ok (.iload_n 1, 1) := by decide +kernel
theorem dJ1_charAt_3b067_1 : decode cJ1_charAt_3b067 1 = .ok (.aload_n 0, 1) := by decide +kernel
theorem dJ1_charAt_3b067_2 : decode cJ1_charAt_3b067 2 = .ok (.arraylength, 1) := by decide +kernel
theorem dJ1_charAt_3b067_3 : decode cJ1_charAt_3b067 3 = .ok (.invokestatic 9, 3) := by decide +kernel
theorem dJ1_charAt_3b067_6 : decode cJ1_charAt_3b067 6 = .ok (.aload_n 0, 1) := by decide +kernel
theorem dJ1_charAt_3b067_7 : decode cJ1_charAt_3b067 7 = .ok (.iload_n 1, 1) := by decide +kernel
theorem dJ1_charAt_3b067_8 : decode cJ1_charAt_3b067 8 = .ok (.baload, 1) := by decide +kernel
theorem dJ1_charAt_3b067_9 : decode cJ1_charAt_3b067 9 = .ok (.sipush 255, 3) := by decide +kernel
theorem dJ1_charAt_3b067_12 : decode cJ1_charAt_3b067 12 = .ok (.iand, 1) := by decide +kernel
theorem dJ1_charAt_3b067_13 : decode cJ1_charAt_3b067 13 = .ok (.i2c, 1) := by decide +kernel
theorem dJ1_charAt_3b067_14 : decode cJ1_charAt_3b067 14 = .ok (.ireturn, 1) := by decide +kernel
theorem dJ2_getChar_3b067_0 : decode cJ2_getChar_3b067 0 = .ok (.getstatic 44, 3) := by decide +kernel
theorem dJ2_getChar_3b067_3 : decode cJ2_getChar_3b067 3 = .ok (.ifCond .ne 25, 3) := by decide +kernel
theorem dJ2_getChar_3b067_6 : decode cJ2_getChar_3b067 6 = .ok (.iload_n 1, 1) := by decide +kernel
theorem dJ2_getChar_3b067_7 : decode cJ2_getChar_3b067 7 = .ok (.ifCond .lt 11, 3) := by decide +kernel
theorem dJ2_getChar_3b067_10 : decode cJ2_getChar_3b067 10 = .ok (.iload_n 1, 1) := by decide +kernel
theorem dJ2_getChar_3b067_11 : decode cJ2_getChar_3b067 11 = .ok (.aload_n 0, 1) := by decide +kernel
theorem dJ2_getChar_3b067_12 : decode cJ2_getChar_3b067 12 = .ok (.invokestatic 48, 3) := by decide +kernel
theorem dJ2_getChar_3b067_15 : decode cJ2_getChar_3b067 15 = .ok (.if_icmp .lt 13, 3) := by decide +kernel
theorem dJ2_getChar_3b067_18 : decode cJ2_getChar_3b067 18 = .ok (.new 52, 3) := by decide +kernel
theorem dJ2_getChar_3b067_21 : decode cJ2_getChar_3b067 21 = .ok (.dup, 1) := by decide +kernel
theorem dJ2_getChar_3b067_22 : decode cJ2_getChar_3b067 22 = .ok (.ldc 54, 2) := by decide +kernel
theorem dJ2_getChar_3b067_24 : decode cJ2_getChar_3b067 24 = .ok (.invokespecial 56, 3) := by decide +kernel
theorem dJ2_getChar_3b067_27 : decode cJ2_getChar_3b067 27 = .ok (.athrow, 1) := by decide +kernel
theorem dJ2_getChar_3b067_28 : decode cJ2_getChar_3b067 28 = .ok (.iload_n 1, 1) := by decide +kernel
theorem dJ2_getChar_3b067_29 : decode cJ2_getChar_3b067 29 = .ok (.iconst 1, 1) := by decide +kernel
theorem dJ2_getChar_3b067_30 : decode cJ2_getChar_3b067 30 = .ok (.ishl, 1) := by decide +kernel
theorem dJ2_getChar_3b067_31 : decode cJ2_getChar_3b067 31 = .ok (.istore_n 1, 1) := by decide +kernel
theorem dJ2_getChar_3b067_32 : decode cJ2_getChar_3b067 32 = .ok (.aload_n 0, 1) := by decide +kernel
theorem dJ2_getChar_3b067_33 : decode cJ2_getChar_3b067 33 = .ok (.iload_n 1, 1) := by decide +kernel
theorem dJ2_getChar_3b067_34 : decode cJ2_getChar_3b067 34 = .ok (.iinc 1 1, 3) := by decide +kernel
theorem dJ2_getChar_3b067_37 : decode cJ2_getChar_3b067 37 = .ok (.baload, 1) := by decide +kernel
theorem dJ2_getChar_3b067_38 : decode cJ2_getChar_3b067 38 = .ok (.sipush 255, 3) := by decide +kernel
theorem dJ2_getChar_3b067_41 : decode cJ2_getChar_3b067 41 = .ok (.iand, 1) := by decide +kernel
theorem dJ2_getChar_3b067_42 : decode cJ2_getChar_3b067 42 = .ok (.getstatic 59, 3) := by decide +kernel
theorem dJ2_getChar_3b067_45 : decode cJ2_getChar_3b067 45 = .ok (.ishl, 1) := by decide +kernel
theorem dJ2_getChar_3b067_46 : decode cJ2_getChar_3b067 46 = .ok (.aload_n 0, 1) := by decide +kernel
theorem dJ2_getChar_3b067_47 : decode cJ2_getChar_3b067 47 = .ok (.iload_n 1, 1) := by decide +kernel
theorem dJ2_getChar_3b067_48 : decode cJ2_getChar_3b067 48 = .ok (.baload, 1) := by decide +kernel
theorem dJ2_getChar_3b067_49 : decode cJ2_getChar_3b067 49 = .ok (.sipush 255, 3) := by decide +kernel
theorem dJ2_getChar_3b067_52 : decode cJ2_getChar_3b067 52 = .ok (.iand, 1) := by decide +kernel
theorem dJ2_getChar_3b067_53 : decode cJ2_getChar_3b067 53 = .ok (.getstatic 63, 3) := by decide +kernel
theorem dJ2_getChar_3b067_56 : decode cJ2_getChar_3b067 56 = .ok (.ishl, 1) := by decide +kernel
theorem dJ2_getChar_3b067_57 : decode cJ2_getChar_3b067 57 = .ok (.ior, 1) := by decide +kernel
theorem dJ2_getChar_3b067_58 : decode cJ2_getChar_3b067 58 = .ok (.i2c, 1) := by decide +kernel
theorem dJ2_getChar_3b067_59 : decode cJ2_getChar_3b067 59 = .ok (.ireturn, 1) := by decide +kernel
theorem dJ2_length_9d52b_0 : decode cJ2_length_9d52b 0 = .ok (.aload_n 0, 1) := by decide +kernel
theorem dJ2_length_9d52b_1 : decode cJ2_length_9d52b 1 = .ok (.arraylength, 1) := by decide +kernel
theorem dJ2_length_9d52b_2 : decode cJ2_length_9d52b 2 = .ok (.iconst 1, 1) := by decide +kernel
theorem dJ2_length_9d52b_3 : decode cJ2_length_9d52b 3 = .ok (.ishr, 1) := by decide +kernel
theorem dJ2_length_9d52b_4 : decode cJ2_length_9d52b 4 = .ok (.ireturn, 1) := by decide +kernel
theorem dJ2_charAt_3b067_0 : decode cJ2_charAt_3b067 0 = .ok (.iload_n 1, 1) := by decide +kernel
theorem dJ2_charAt_3b067_1 : decode cJ2_charAt_3b067 1 = .ok (.aload_n 0, 1) := by decide +kernel
theorem dJ2_charAt_3b067_2 : decode cJ2_charAt_3b067 2 = .ok (.invokestatic 67, 3) := by decide +kernel
theorem dJ2_charAt_3b067_5 : decode cJ2_charAt_3b067 5 = .ok (.aload_n 0, 1) := by decide +kernel
theorem dJ2_charAt_3b067_6 : decode cJ2_charAt_3b067 6 = .ok (.iload_n 1, 1) := by decide +kernel
theorem dJ2_charAt_3b067_7 : decode cJ2_charAt_3b067 7 = .ok (.invokestatic 71, 3) := by decide +kernel
theorem dJ2_charAt_3b067_10 : decode cJ2_charAt_3b067 10 = .ok (.ireturn, 1) := by decide +kernel
theorem dJ2_checkIndex_2214a_0 : decode cJ2_checkIndex_2214a 0 = .ok (.iload_n 0, 1) := by decide +kernel
theorem dJ2_checkIndex_2214a_1 : decode cJ2_checkIndex_2214a 1 = .ok (.aload_n 1, 1) := by decide +kernel
theorem dJ2_checkIndex_2214a_2 : decode cJ2_checkIndex_2214a 2 = .ok (.invokestatic 48, 3) := by decide +kernel
theorem dJ2_checkIndex_2214a_5 : decode cJ2_checkIndex_2214a 5 = .ok (.invokestatic 414, 3) := by decide +kernel
theorem dJ2_checkIndex_2214a_8 : decode cJ2_checkIndex_2214a 8 = .ok (.return_, 1) := by decide +kernel
theorem dJ7_fill_d0a16_0 : decode cJ7_fill_d0a16 0 = .ok (.iconst 0, 1) := by decide +kernel
theorem dJ7_fill_d0a16_1 : decode cJ7_fill_d0a16 1 = .ok (.istore_n 3, 1) := by decide +kernel
theorem dJ7_fill_d0a16_2 : decode cJ7_fill_d0a16 2 = .ok (.aload_n 0, 1) := by decide +kernel
theorem dJ7_fill_d0a16_3 : decode cJ7_fill_d0a16 3 = .ok (.arraylength, 1) := by decide +kernel
theorem dJ7_fill_d0a16_4 : decode cJ7_fill_d0a16 4 = .ok (.istore 4, 2) := by decide +kernel
theorem dJ7_fill_d0a16_6 : decode cJ7_fill_d0a16 6 = .ok (.iload_n 3, 1) := by decide +kernel
theorem dJ7_fill_d0a16_7 : decode cJ7_fill_d0a16 7 = .ok (.iload 4, 2) := by decide +kernel
theorem dJ7_fill_d0a16_9 : decode cJ7_fill_d0a16 9 = .ok (.if_icmp .ge 13, 3) := by decide +kernel
theorem dJ7_fill_d0a16_12 : decode cJ7_fill_d0a16 12 = .ok (.aload_n 0, 1) := by decide +kernel
theorem dJ7_fill_d0a16_13 : decode cJ7_fill_d0a16 13 = .ok (.iload_n 3, 1) := by decide +kernel
theorem dJ7_fill_d0a16_14 : decode cJ7_fill_d0a16 14 = .ok (.lload_n 1, 1) := by decide +kernel
theorem dJ7_fill_d0a16_15 : decode cJ7_fill_d0a16 15 = .ok (.lastore, 1) := by decide +kernel
theorem dJ7_fill_d0a16_16 : decode cJ7_fill_d0a16 16 = .ok (.iinc 3 1, 3) := by decide +kernel
theorem dJ7_fill_d0a16_19 : decode cJ7_fill_d0a16 19 = .ok (.goto (-13), 3) := by decide +kernel
theorem dJ7_fill_d0a16_22 : decode cJ7_fill_d0a16 22 = .ok (.return_, 1) := by decide +kernel
theorem dJ7_fill_53178_0 : decode cJ7_fill_53178 0 = .ok (.iconst 0, 1) := by decide +kernel
theorem dJ7_fill_53178_1 : decode cJ7_fill_53178 1 = .ok (.istore_n 2, 1) := by decide +kernel
theorem dJ7_fill_53178_2 : decode cJ7_fill_53178 2 = .ok (.aload_n 0, 1) := by decide +kernel
theorem dJ7_fill_53178_3 : decode cJ7_fill_53178 3 = .ok (.arraylength, 1) := by decide +kernel
theorem dJ7_fill_53178_4 : decode cJ7_fill_53178 4 = .ok (.istore_n 3, 1) := by decide +kernel
theorem dJ7_fill_53178_5 : decode cJ7_fill_53178 5 = .ok (.iload_n 2, 1) := by decide +kernel
theorem dJ7_fill_53178_6 : decode cJ7_fill_53178 6 = .ok (.iload_n 3, 1) := by decide +kernel
theorem dJ7_fill_53178_7 : decode cJ7_fill_53178 7 = .ok (.if_icmp .ge 13, 3) := by decide +kernel
theorem dJ7_fill_53178_10 : decode cJ7_fill_53178 10 = .ok (.aload_n 0, 1) := by decide +kernel
theorem dJ7_fill_53178_11 : decode cJ7_fill_53178 11 = .ok (.iload_n 2, 1) := by decide +kernel
theorem dJ7_fill_53178_12 : decode cJ7_fill_53178 12 = .ok (.iload_n 1, 1) := by decide +kernel
theorem dJ7_fill_53178_13 : decode cJ7_fill_53178 13 = .ok (.iastore, 1) := by decide +kernel
theorem dJ7_fill_53178_14 : decode cJ7_fill_53178 14 = .ok (.iinc 2 1, 3) := by decide +kernel
theorem dJ7_fill_53178_17 : decode cJ7_fill_53178 17 = .ok (.goto (-12), 3) := by decide +kernel
theorem dJ7_fill_53178_20 : decode cJ7_fill_53178 20 = .ok (.return_, 1) := by decide +kernel
theorem dJ3_checkIndex_8e157_0 : decode cJ3_checkIndex_8e157 0 = .ok (.iload_n 0, 1) := by decide +kernel
theorem dJ3_checkIndex_8e157_1 : decode cJ3_checkIndex_8e157 1 = .ok (.ifCond .lt 8, 3) := by decide +kernel
theorem dJ3_checkIndex_8e157_4 : decode cJ3_checkIndex_8e157 4 = .ok (.iload_n 0, 1) := by decide +kernel
theorem dJ3_checkIndex_8e157_5 : decode cJ3_checkIndex_8e157 5 = .ok (.iload_n 1, 1) := by decide +kernel
theorem dJ3_checkIndex_8e157_6 : decode cJ3_checkIndex_8e157 6 = .ok (.if_icmp .lt 10, 3) := by decide +kernel
theorem dJ3_checkIndex_8e157_9 : decode cJ3_checkIndex_8e157 9 = .ok (.aload_n 2, 1) := by decide +kernel
theorem dJ3_checkIndex_8e157_10 : decode cJ3_checkIndex_8e157 10 = .ok (.iload_n 0, 1) := by decide +kernel
theorem dJ3_checkIndex_8e157_11 : decode cJ3_checkIndex_8e157 11 = .ok (.iload_n 1, 1) := by decide +kernel
theorem dJ3_checkIndex_8e157_12 : decode cJ3_checkIndex_8e157 12 = .ok (.invokestatic 95, 3) := by decide +kernel
theorem dJ3_checkIndex_8e157_15 : decode cJ3_checkIndex_8e157 15 = .ok (.athrow, 1) := by decide +kernel
theorem dJ3_checkIndex_8e157_16 : decode cJ3_checkIndex_8e157 16 = .ok (.iload_n 0, 1) := by decide +kernel
theorem dJ3_checkIndex_8e157_17 : decode cJ3_checkIndex_8e157 17 = .ok (.ireturn, 1) := by decide +kernel
theorem dX0_init_0 : decode cX0_init 0 = .ok (.aload_n 0, 1) := by decide +kernel
theorem dX0_init_1 : decode cX0_init 1 = .ok (.invokespecial 3, 3) := by decide +kernel
theorem dX0_init_4 : decode cX0_init 4 = .ok (.aload_n 0, 1) := by decide +kernel
theorem dX0_init_5 : decode cX0_init 5 = .ok (.sipush 300, 3) := by decide +kernel
theorem dX0_init_8 : decode cX0_init 8 = .ok (.newarray .int, 2) := by decide +kernel
theorem dX0_init_10 : decode cX0_init 10 = .ok (.putfield 9, 3) := by decide +kernel
theorem dX0_init_13 : decode cX0_init 13 = .ok (.aload_n 0, 1) := by decide +kernel
theorem dX0_init_14 : decode cX0_init 14 = .ok (.sipush 300, 3) := by decide +kernel
theorem dX0_init_17 : decode cX0_init 17 = .ok (.newarray .int, 2) := by decide +kernel
theorem dX0_init_19 : decode cX0_init 19 = .ok (.putfield 15, 3) := by decide +kernel
theorem dX0_init_22 : decode cX0_init 22 = .ok (.aload_n 0, 1) := by decide +kernel
theorem dX0_init_23 : decode cX0_init 23 = .ok (.sipush 300, 3) := by decide +kernel
theorem dX0_init_26 : decode cX0_init 26 = .ok (.newarray .int, 2) := by decide +kernel
theorem dX0_init_28 : decode cX0_init 28 = .ok (.putfield 18, 3) := by decide +kernel
theorem dX0_init_31 : decode cX0_init 31 = .ok (.aload_n 0, 1) := by decide +kernel
theorem dX0_init_32 : decode cX0_init 32 = .ok (.sipush 300, 3) := by decide +kernel
theorem dX0_init_35 : decode cX0_init 35 = .ok (.newarray .int, 2) := by decide +kernel
theorem dX0_init_37 : decode cX0_init 37 = .ok (.putfield 21, 3) := by decide +kernel
theorem dX0_init_40 : decode cX0_init 40 = .ok (.aload_n 0, 1) := by decide +kernel
theorem dX0_init_41 : decode cX0_init 41 = .ok (.sipush 900, 3) := by decide +kernel
theorem dX0_init_44 : decode cX0_init 44 = .ok (.newarray .int, 2) := by decide +kernel
theorem dX0_init_46 : decode cX0_init 46 = .ok (.putfield 24, 3) := by decide +kernel
theorem dX0_init_49 : decode cX0_init 49 = .ok (.aload_n 0, 1) := by decide +kernel
theorem dX0_init_50 : decode cX0_init 50 = .ok (.sipush 1200, 3) := by decide +kernel
theorem dX0_init_53 : decode cX0_init 53 = .ok (.newarray .int, 2) := by decide +kernel
theorem dX0_init_55 : decode cX0_init 55 = .ok (.putfield 27, 3) := by decide +kernel
theorem dX0_init_58 : decode cX0_init 58 = .ok (.aload_n 0, 1) := by decide +kernel
theorem dX0_init_59 : decode cX0_init 59 = .ok (.bipush 8, 2) := by decide +kernel
theorem dX0_init_61 : decode cX0_init 61 = .ok (.newarray .int, 2) := by decide +kernel
theorem dX0_init_63 : decode cX0_init 63 = .ok (.putfield 30, 3) := by decide +kernel
theorem dX0_init_66 : decode cX0_init 66 = .ok (.aload_n 0, 1) := by decide +kernel
theorem dX0_init_67 : decode cX0_init 67 = .ok (.iconst 0, 1) := by decide +kernel
theorem dX0_init_68 : decode cX0_init 68 = .ok (.putfield 33, 3) := by decide +kernel
theorem dX0_init_71 : decode cX0_init 71 = .ok (.aload_n 0, 1) := by decide +kernel
theorem dX0_init_72 : decode cX0_init 72 = .ok (.aload_n 1, 1) := by decide +kernel
theorem dX0_init_73 : decode cX0_init 73 = .ok (.putfield 37, 3) := by decide +kernel
theorem dX0_init_76 : decode cX0_init 76 = .ok (.aload_n 0, 1) := by decide +kernel
theorem dX0_init_77 : decode cX0_init 77 = .ok (.aload_n 2, 1) := by decide +kernel
theorem dX0_init_78 : decode cX0_init 78 = .ok (.putfield 41, 3) := by decide +kernel
theorem dX0_init_81 : decode cX0_init 81 = .ok (.aload_n 0, 1) := by decide +kernel
theorem dX0_init_82 : decode cX0_init 82 = .ok (.aload_n 3, 1) := by decide +kernel
theorem dX0_init_83 : decode cX0_init 83 = .ok (.putfield 45, 3) := by decide +kernel
theorem dX0_init_86 : decode cX0_init 86 = .ok (.return_, 1) := by decide +kernel
theorem dX0_find_0 : decode cX0_find 0 = .ok (.aload_n 0, 1) := by decide +kernel
theorem dX0_find_1 : decode cX0_find 1 = .ok (.iconst 0, 1) := by decide +kernel
theorem dX0_find_2 : decode cX0_find 2 = .ok (.putfield 33, 3) := by decide +kernel
theorem dX0_find_5 : decode cX0_find 5 = .ok (.iconst 0, 1) := by decide +kernel
theorem dX0_find_6 : decode cX0_find 6 = .ok (.istore_n 2, 1) := by decide +kernel
theorem dX0_find_7 : decode cX0_find 7 = .ok (.iload_n 2, 1) := by decide +kernel
theorem dX0_find_8 : decode cX0_find 8 = .ok (.aload_n 1, 1) := by decide +kernel
theorem dX0_find_9 : decode cX0_find 9 = .ok (.getfield 49, 3) := by decide +kernel
theorem dX0_find_12 : decode cX0_find 12 = .ok (.if_icmp .ge 81, 3) := by decide +kernel
theorem dX0_find_15 : decode cX0_find 15 = .ok (.aload_n 0, 1) := by decide +kernel
theorem dX0_find_16 : decode cX0_find 16 = .ok (.getfield 41, 3) := by decide +kernel
theorem dX0_find_19 : decode cX0_find 19 = .ok (.aload_n 0, 1) := by decide +kernel
theorem dX0_find_20 : decode cX0_find 20 = .ok (.getfield 37, 3) := by decide +kernel
theorem dX0_find_23 : decode cX0_find 23 = .ok (.getfield 53, 3) := by decide +kernel
theorem dX0_find_26 : decode cX0_find 26 = .ok (.aload_n 1, 1) := by decide +kernel
theorem dX0_find_27 : decode cX0_find 27 = .ok (.getfield 59, 3) := by decide +kernel
theorem dX0_find_30 : decode cX0_find 30 = .ok (.iload_n 2, 1) := by decide +kernel
theorem dX0_find_31 : decode cX0_find 31 = .ok (.iaload, 1) := by decide +kernel
theorem dX0_find_32 : decode cX0_find 32 = .ok (.aaload, 1) := by decide +kernel
theorem dX0_find_33 : decode cX0_find 33 = .ok (.invokevirtual 62, 3) := by decide +kernel
theorem dX0_find_36 : decode cX0_find 36 = .ok (.aload_n 0, 1) := by decide +kernel
theorem dX0_find_37 : decode cX0_find 37 = .ok (.getfield 30, 3) := by decide +kernel
theorem dX0_find_40 : decode cX0_find 40 = .ok (.iload_n 2, 1) := by decide +kernel
theorem dX0_find_41 : decode cX0_find 41 = .ok (.iconst 0, 1) := by decide +kernel
theorem dX0_find_42 : decode cX0_find 42 = .ok (.iastore, 1) := by decide +kernel
theorem dX0_find_43 : decode cX0_find 43 = .ok (.iconst 0, 1) := by decide +kernel
theorem dX0_find_44 : decode cX0_find 44 = .ok (.istore_n 3, 1) := by decide +kernel
theorem dX0_find_45 : decode cX0_find 45 = .ok (.iload_n 3, 1) := by decide +kernel
theorem dX0_find_46 : decode cX0_find 46 = .ok (.sipush 2048, 3) := by decide +kernel
theorem dX0_find_49 : decode cX0_find 49 = .ok (.if_icmp .ge 38, 3) := by decide +kernel
theorem dX0_find_52 : decode cX0_find 52 = .ok (.aload_n 0, 1) := by decide +kernel
theorem dX0_find_53 : decode cX0_find 53 = .ok (.getfield 41, 3) := by decide +kernel
theorem dX0_find_56 : decode cX0_find 56 = .ok (.invokevirtual 68, 3) := by decide +kernel
theorem dX0_find_59 : decode cX0_find 59 = .ok (.ifCond .eq 28, 3) := by decide +kernel
theorem dX0_find_62 : decode cX0_find 62 = .ok (.aload_n 0, 1) := by decide +kernel
theorem dX0_find_63 : decode cX0_find 63 = .ok (.getfield 33, 3) := by decide +kernel
theorem dX0_find_66 : decode cX0_find 66 = .ok (.sipush 300, 3) := by decide +kernel
theorem dX0_find_69 : decode cX0_find 69 = .ok (.if_icmp .lt 5, 3) := by decide +kernel
theorem dX0_find_72 : decode cX0_find 72 = .ok (.iconst 0, 1) := by decide +kernel
theorem dX0_find_73 : decode cX0_find 73 = .ok (.ireturn, 1) := by decide +kernel
theorem dX0_find_74 : decode cX0_find 74 = .ok (.aload_n 0, 1) := by decide +kernel
theorem dX0_find_75 : decode cX0_find 75 = .ok (.aload_n 1, 1) := by decide +kernel
theorem dX0_find_76 : decode cX0_find 76 = .ok (.iload_n 2, 1) := by decide +kernel
theorem dX0_find_77 : decode cX0_find 77 = .ok (.iload_n 3, 1) := by decide +kernel
theorem dX0_find_78 : decode cX0_find 78 = .ok (.invokevirtual 72, 3) := by decide +kernel
theorem dX0_find_81 : decode cX0_find 81 = .ok (.iinc 3 1, 3) := by decide +kernel
theorem dX0_find_84 : decode cX0_find 84 = .ok (.goto (-39), 3) := by decide +kernel
theorem dX0_find_87 : decode cX0_find 87 = .ok (.iinc 2 1, 3) := by decide +kernel
theorem dX0_find_90 : decode cX0_find 90 = .ok (.goto (-83), 3) := by decide +kernel
theorem dX0_find_93 : decode cX0_find 93 = .ok (.iconst 1, 1) := by decide +kernel
theorem dX0_find_94 : decode cX0_find 94 = .ok (.ireturn, 1) := by decide +kernel
theorem dX0_faulty_0 : decode cX0_faulty 0 = .ok (.iconst 0, 1) := by decide +kernel
theorem dX0_faulty_1 : decode cX0_faulty 1 = .ok (.istore_n 2, 1) := by decide +kernel
theorem dX0_faulty_2 : decode cX0_faulty 2 = .ok (.iconst 0, 1) := by decide +kernel
theorem dX0_faulty_3 : decode cX0_faulty 3 = .ok (.istore_n 3, 1) := by decide +kernel
theorem dX0_faulty_4 : decode cX0_faulty 4 = .ok (.iload_n 3, 1) := by decide +kernel
theorem dX0_faulty_5 : decode cX0_faulty 5 = .ok (.aload_n 0, 1) := by decide +kernel
theorem dX0_faulty_6 : decode cX0_faulty 6 = .ok (.getfield 33, 3) := by decide +kernel
theorem dX0_faulty_9 : decode cX0_faulty 9 = .ok (.if_icmp .ge 29, 3) := by decide +kernel
theorem dX0_faulty_12 : decode cX0_faulty 12 = .ok (.aload_n 0, 1) := by decide +kernel
theorem dX0_faulty_13 : decode cX0_faulty 13 = .ok (.getfield 18, 3) := by decide +kernel
theorem dX0_faulty_16 : decode cX0_faulty 16 = .ok (.iload_n 3, 1) := by decide +kernel
theorem dX0_faulty_17 : decode cX0_faulty 17 = .ok (.iaload, 1) := by decide +kernel
theorem dX0_faulty_18 : decode cX0_faulty 18 = .ok (.iconst 1, 1) := by decide +kernel
theorem dX0_faulty_19 : decode cX0_faulty 19 = .ok (.if_icmp .ne 13, 3) := by decide +kernel
theorem dX0_faulty_22 : decode cX0_faulty 22 = .ok (.iload_n 2, 1) := by decide +kernel
theorem dX0_faulty_23 : decode cX0_faulty 23 = .ok (.iload_n 1, 1) := by decide +kernel
theorem dX0_faulty_24 : decode cX0_faulty 24 = .ok (.if_icmp .ne 5, 3) := by decide +kernel
theorem dX0_faulty_27 : decode cX0_faulty 27 = .ok (.iload_n 3, 1) := by decide +kernel
theorem dX0_faulty_28 : decode cX0_faulty 28 = .ok (.ireturn, 1) := by decide +kernel
theorem dX0_faulty_29 : decode cX0_faulty 29 = .ok (.iinc 2 1, 3) := by decide +kernel
theorem dX0_faulty_32 : decode cX0_faulty 32 = .ok (.iinc 3 1, 3) := by decide +kernel
theorem dX0_faulty_35 : decode cX0_faulty 35 = .ok (.goto (-31), 3) := by decide +kernel
theorem dX0_faulty_38 : decode cX0_faulty 38 = .ok (.iconst (-1), 1) := by decide +kernel
theorem dX0_faulty_39 : decode cX0_faulty 39 = .ok (.ireturn, 1) := by decide +kernel
theorem dX0_add_0 : decode cX0_add 0 = .ok (.aload_n 0, 1) := by decide +kernel
theorem dX0_add_1 : decode cX0_add 1 = .ok (.getfield 9, 3) := by decide +kernel
theorem dX0_add_4 : decode cX0_add 4 = .ok (.aload_n 0, 1) := by decide +kernel
theorem dX0_add_5 : decode cX0_add 5 = .ok (.getfield 33, 3) := by decide +kernel
theorem dX0_add_8 : decode cX0_add 8 = .ok (.iload_n 2, 1) := by decide +kernel
theorem dX0_add_9 : decode cX0_add 9 = .ok (.iastore, 1) := by decide +kernel
theorem dX0_add_10 : decode cX0_add 10 = .ok (.aload_n 0, 1) := by decide +kernel
theorem dX0_add_11 : decode cX0_add 11 = .ok (.getfield 15, 3) := by decide +kernel
theorem dX0_add_14 : decode cX0_add 14 = .ok (.aload_n 0, 1) := by decide +kernel
theorem dX0_add_15 : decode cX0_add 15 = .ok (.getfield 33, 3) := by decide +kernel
theorem dX0_add_18 : decode cX0_add 18 = .ok (.iload_n 3, 1) := by decide +kernel
theorem dX0_add_19 : decode cX0_add 19 = .ok (.iastore, 1) := by decide +kernel
theorem dX0_add_20 : decode cX0_add 20 = .ok (.aload_n 0, 1) := by decide +kernel
theorem dX0_add_21 : decode cX0_add 21 = .ok (.getfield 18, 3) := by decide +kernel
theorem dX0_add_24 : decode cX0_add 24 = .ok (.aload_n 0, 1) := by decide +kernel
theorem dX0_add_25 : decode cX0_add 25 = .ok (.getfield 33, 3) := by decide +kernel
theorem dX0_add_28 : decode cX0_add 28 = .ok (.aload_n 0, 1) := by decide +kernel
theorem dX0_add_29 : decode cX0_add 29 = .ok (.getfield 45, 3) := by decide +kernel
theorem dX0_add_32 : decode cX0_add 32 = .ok (.aload_n 1, 1) := by decide +kernel
theorem dX0_add_33 : decode cX0_add 33 = .ok (.iload_n 2, 1) := by decide +kernel
theorem dX0_add_34 : decode cX0_add 34 = .ok (.invokevirtual 76, 3) := by decide +kernel
theorem dX0_add_37 : decode cX0_add 37 = .ok (.ifCond .eq 7, 3) := by decide +kernel
theorem dX0_add_40 : decode cX0_add 40 = .ok (.iconst 1, 1) := by decide +kernel
theorem dX0_add_41 : decode cX0_add 41 = .ok (.goto 4, 3) := by decide +kernel
theorem dX0_add_44 : decode cX0_add 44 = .ok (.iconst 0, 1) := by decide +kernel
theorem dX0_add_45 : decode cX0_add 45 = .ok (.iastore, 1) := by decide +kernel
theorem dX0_add_46 : decode cX0_add 46 = .ok (.aload_n 0, 1) := by decide +kernel
theorem dX0_add_47 : decode cX0_add 47 = .ok (.getfield 21, 3) := by decide +kernel
theorem dX0_add_50 : decode cX0_add 50 = .ok (.aload_n 0, 1) := by decide +kernel
theorem dX0_add_51 : decode cX0_add 51 = .ok (.getfield 33, 3) := by decide +kernel
theorem dX0_add_54 : decode cX0_add 54 = .ok (.aload_n 0, 1) := by decide +kernel
theorem dX0_add_55 : decode cX0_add 55 = .ok (.getfield 41, 3) := by decide +kernel
theorem dX0_add_58 : decode cX0_add 58 = .ok (.getfield 82, 3) := by decide +kernel
theorem dX0_add_61 : decode cX0_add 61 = .ok (.iconst 0, 1) := by decide +kernel
theorem dX0_add_62 : decode cX0_add 62 = .ok (.iaload, 1) := by decide +kernel
theorem dX0_add_63 : decode cX0_add 63 = .ok (.iastore, 1) := by decide +kernel
theorem dX0_add_64 : decode cX0_add 64 = .ok (.aload_n 0, 1) := by decide +kernel
theorem dX0_add_65 : decode cX0_add 65 = .ok (.getfield 24, 3) := by decide +kernel
theorem dX0_add_68 : decode cX0_add 68 = .ok (.aload_n 0, 1) := by decide +kernel
theorem dX0_add_69 : decode cX0_add 69 = .ok (.getfield 33, 3) := by decide +kernel
theorem dX0_add_72 : decode cX0_add 72 = .ok (.iconst 3, 1) := by decide +kernel
theorem dX0_add_73 : decode cX0_add 73 = .ok (.imul, 1) := by decide +kernel
theorem dX0_add_74 : decode cX0_add 74 = .ok (.aload_n 0, 1) := by decide +kernel
theorem dX0_add_75 : decode cX0_add 75 = .ok (.getfield 41, 3) := by decide +kernel
theorem dX0_add_78 : decode cX0_add 78 = .ok (.getfield 85, 3) := by decide +kernel
theorem dX0_add_81 : decode cX0_add 81 = .ok (.iastore, 1) := by decide +kernel
theorem dX0_add_82 : decode cX0_add 82 = .ok (.aload_n 0, 1) := by decide +kernel
theorem dX0_add_83 : decode cX0_add 83 = .ok (.getfield 24, 3) := by decide +kernel
theorem dX0_add_86 : decode cX0_add 86 = .ok (.aload_n 0, 1) := by decide +kernel
theorem dX0_add_87 : decode cX0_add 87 = .ok (.getfield 33, 3) := by decide +kernel
theorem dX0_add_90 : decode cX0_add 90 = .ok (.iconst 3, 1) := by decide +kernel
theorem dX0_add_91 : decode cX0_add 91 = .ok (.imul, 1) := by decide +kernel
theorem dX0_add_92 : decode cX0_add 92 = .ok (.iconst 1, 1) := by decide +kernel
theorem dX0_add_93 : decode cX0_add 93 = .ok (.iadd, 1) := by decide +kernel
theorem dX0_add_94 : decode cX0_add 94 = .ok (.aload_n 0, 1) := by decide +kernel
theorem dX0_add_95 : decode cX0_add 95 = .ok (.getfield 45, 3) := by decide +kernel
theorem dX0_add_98 : decode cX0_add 98 = .ok (.invokevirtual 88, 3) := by decide +kernel
theorem dX0_add_101 : decode cX0_add 101 = .ok (.iastore, 1) := by decide +kernel
theorem dX0_add_102 : decode cX0_add 102 = .ok (.aload_n 0, 1) := by decide +kernel
theorem dX0_add_103 : decode cX0_add 103 = .ok (.getfield 24, 3) := by decide +kernel
theorem dX0_add_106 : decode cX0_add 106 = .ok (.aload_n 0, 1) := by decide +kernel
theorem dX0_add_107 : decode cX0_add 107 = .ok (.getfield 33, 3) := by decide +kernel
theorem dX0_add_110 : decode cX0_add 110 = .ok (.iconst 3, 1) := by decide +kernel
theorem dX0_add_111 : decode cX0_add 111 = .ok (.imul, 1) := by decide +kernel
theorem dX0_add_112 : decode cX0_add 112 = .ok (.iconst 2, 1) := by decide +kernel
theorem dX0_add_113 : decode cX0_add 113 = .ok (.iadd, 1) := by decide +kernel
theorem dX0_add_114 : decode cX0_add 114 = .ok (.aload_n 0, 1) := by decide +kernel
theorem dX0_add_115 : decode cX0_add 115 = .ok (.getfield 45, 3) := by decide +kernel
theorem dX0_add_118 : decode cX0_add 118 = .ok (.aload_n 1, 1) := by decide +kernel
theorem dX0_add_119 : decode cX0_add 119 = .ok (.iload_n 2, 1) := by decide +kernel
theorem dX0_add_120 : decode cX0_add 120 = .ok (.invokevirtual 92, 3) := by decide +kernel
theorem dX0_add_123 : decode cX0_add 123 = .ok (.iastore, 1) := by decide +kernel
theorem dX0_add_124 : decode cX0_add 124 = .ok (.iconst 0, 1) := by decide +kernel
theorem dX0_add_125 : decode cX0_add 125 = .ok (.istore 4, 2) := by decide +kernel
theorem dX0_add_127 : decode cX0_add 127 = .ok (.iload 4, 2) := by decide +kernel
theorem dX0_add_129 : decode cX0_add 129 = .ok (.aload_n 1, 1) := by decide +kernel
theorem dX0_add_130 : decode cX0_add 130 = .ok (.getfield 96, 3) := by decide +kernel
theorem dX0_add_133 : decode cX0_add 133 = .ok (.iload_n 2, 1) := by decide +kernel
theorem dX0_add_134 : decode cX0_add 134 = .ok (.iaload, 1) := by decide +kernel
theorem dX0_add_135 : decode cX0_add 135 = .ok (.if_icmp .ge 32, 3) := by decide +kernel
theorem dX0_add_138 : decode cX0_add 138 = .ok (.aload_n 0, 1) := by decide +kernel
theorem dX0_add_139 : decode cX0_add 139 = .ok (.getfield 27, 3) := by decide +kernel
theorem dX0_add_142 : decode cX0_add 142 = .ok (.aload_n 0, 1) := by decide +kernel
theorem dX0_add_143 : decode cX0_add 143 = .ok (.getfield 33, 3) := by decide +kernel
theorem dX0_add_146 : decode cX0_add 146 = .ok (.iconst 4, 1) := by decide +kernel
theorem dX0_add_147 : decode cX0_add 147 = .ok (.imul, 1) := by decide +kernel
theorem dX0_add_148 : decode cX0_add 148 = .ok (.iload 4, 2) := by decide +kernel
theorem dX0_add_150 : decode cX0_add 150 = .ok (.iadd, 1) := by decide +kernel
theorem dX0_add_151 : decode cX0_add 151 = .ok (.aload_n 0, 1) := by decide +kernel
theorem dX0_add_152 : decode cX0_add 152 = .ok (.getfield 45, 3) := by decide +kernel
theorem dX0_add_155 : decode cX0_add 155 = .ok (.iload 4, 2) := by decide +kernel
theorem dX0_add_157 : decode cX0_add 157 = .ok (.invokevirtual 99, 3) := by decide +kernel
theorem dX0_add_160 : decode cX0_add 160 = .ok (.iastore, 1) := by decide +kernel
theorem dX0_add_161 : decode cX0_add 161 = .ok (.iinc 4 1, 3) := by decide +kernel
theorem dX0_add_164 : decode cX0_add 164 = .ok (.goto (-37), 3) := by decide +kernel
theorem dX0_add_167 : decode cX0_add 167 = .ok (.aload_n 0, 1) := by decide +kernel
theorem dX0_add_168 : decode cX0_add 168 = .ok (.getfield 18, 3) := by decide +kernel
theorem dX0_add_171 : decode cX0_add 171 = .ok (.aload_n 0, 1) := by decide +kernel
theorem dX0_add_172 : decode cX0_add 172 = .ok (.getfield 33, 3) := by decide +kernel
theorem dX0_add_175 : decode cX0_add 175 = .ok (.iaload, 1) := by decide +kernel
theorem dX0_add_176 : decode cX0_add 176 = .ok (.ifCond .ne 30, 3) := by decide +kernel
theorem dX0_add_179 : decode cX0_add 179 = .ok (.aload_n 0, 1) := by decide +kernel
theorem dX0_add_180 : decode cX0_add 180 = .ok (.aload_n 0, 1) := by decide +kernel
theorem dX0_add_181 : decode cX0_add 181 = .ok (.getfield 33, 3) := by decide +kernel
theorem dX0_add_184 : decode cX0_add 184 = .ok (.aload_n 1, 1) := by decide +kernel
theorem dX0_add_185 : decode cX0_add 185 = .ok (.getfield 96, 3) := by decide +kernel
theorem dX0_add_188 : decode cX0_add 188 = .ok (.iload_n 2, 1) := by decide +kernel
theorem dX0_add_189 : decode cX0_add 189 = .ok (.iaload, 1) := by decide +kernel
theorem dX0_add_190 : decode cX0_add 190 = .ok (.invokevirtual 103, 3) := by decide +kernel
theorem dX0_add_193 : decode cX0_add 193 = .ok (.ifCond .ne 13, 3) := by decide +kernel
theorem dX0_add_196 : decode cX0_add 196 = .ok (.aload_n 0, 1) := by decide +kernel
theorem dX0_add_197 : decode cX0_add 197 = .ok (.getfield 30, 3) := by decide +kernel
theorem dX0_add_200 : decode cX0_add 200 = .ok (.iload_n 2, 1) := by decide +kernel
theorem dX0_add_201 : decode cX0_add 201 = .ok (.dup2, 1) := by decide +kernel
theorem dX0_add_202 : decode cX0_add 202 = .ok (.iaload, 1) := by decide +kernel
theorem dX0_add_203 : decode cX0_add 203 = .ok (.iconst 1, 1) := by decide +kernel
theorem dX0_add_204 : decode cX0_add 204 = .ok (.iadd, 1) := by decide +kernel
theorem dX0_add_205 : decode cX0_add 205 = .ok (.iastore, 1) := by decide +kernel
theorem dX0_add_206 : decode cX0_add 206 = .ok (.aload_n 0, 1) := by decide +kernel
theorem dX0_add_207 : decode cX0_add 207 = .ok (.dup, 1) := by decide +kernel
theorem dX0_add_208 : decode cX0_add 208 = .ok (.getfield 33, 3) := by decide +kernel
theorem dX0_add_211 : decode cX0_add 211 = .ok (.iconst 1, 1) := by decide +kernel
theorem dX0_add_212 : decode cX0_add 212 = .ok (.iadd, 1) := by decide +kernel
theorem dX0_add_213 : decode cX0_add 213 = .ok (.putfield 33, 3) := by decide +kernel
theorem dX0_add_216 : decode cX0_add 216 = .ok (.return_, 1) := by decide +kernel
theorem dX0_hasParallel_0 : decode cX0_hasParallel 0 = .ok (.iconst 0, 1) := by decide +kernel
theorem dX0_hasParallel_1 : decode cX0_hasParallel 1 = .ok (.istore_n 3, 1) := by decide +kernel
theorem dX0_hasParallel_2 : decode cX0_hasParallel 2 = .ok (.iload_n 3, 1) := by decide +kernel
theorem dX0_hasParallel_3 : decode cX0_hasParallel 3 = .ok (.iload_n 1, 1) := by decide +kernel
theorem dX0_hasParallel_4 : decode cX0_hasParallel 4 = .ok (.if_icmp .ge 45, 3) := by decide +kernel
theorem dX0_hasParallel_7 : decode cX0_hasParallel 7 = .ok (.aload_n 0, 1) := by decide +kernel
theorem dX0_hasParallel_8 : decode cX0_hasParallel 8 = .ok (.getfield 9, 3) := by decide +kernel
theorem dX0_hasParallel_11 : decode cX0_hasParallel 11 = .ok (.iload_n 3, 1) := by decide +kernel
theorem dX0_hasParallel_12 : decode cX0_hasParallel 12 = .ok (.iaload, 1) := by decide +kernel
theorem dX0_hasParallel_13 : decode cX0_hasParallel 13 = .ok (.aload_n 0, 1) := by decide +kernel
theorem dX0_hasParallel_14 : decode cX0_hasParallel 14 = .ok (.getfield 9, 3) := by decide +kernel
theorem dX0_hasParallel_17 : decode cX0_hasParallel 17 = .ok (.iload_n 1, 1) := by decide +kernel
theorem dX0_hasParallel_18 : decode cX0_hasParallel 18 = .ok (.iaload, 1) := by decide +kernel
theorem dX0_hasParallel_19 : decode cX0_hasParallel 19 = .ok (.if_icmp .ne 24, 3) := by decide +kernel
theorem dX0_hasParallel_22 : decode cX0_hasParallel 22 = .ok (.aload_n 0, 1) := by decide +kernel
theorem dX0_hasParallel_23 : decode cX0_hasParallel 23 = .ok (.getfield 18, 3) := by decide +kernel
theorem dX0_hasParallel_26 : decode cX0_hasParallel 26 = .ok (.iload_n 3, 1) := by decide +kernel
theorem dX0_hasParallel_27 : decode cX0_hasParallel 27 = .ok (.iaload, 1) := by decide +kernel
theorem dX0_hasParallel_28 : decode cX0_hasParallel 28 = .ok (.ifCond .ne 15, 3) := by decide +kernel
theorem dX0_hasParallel_31 : decode cX0_hasParallel 31 = .ok (.aload_n 0, 1) := by decide +kernel
theorem dX0_hasParallel_32 : decode cX0_hasParallel 32 = .ok (.iload_n 3, 1) := by decide +kernel
theorem dX0_hasParallel_33 : decode cX0_hasParallel 33 = .ok (.iload_n 1, 1) := by decide +kernel
theorem dX0_hasParallel_34 : decode cX0_hasParallel 34 = .ok (.iload_n 2, 1) := by decide +kernel
theorem dX0_hasParallel_35 : decode cX0_hasParallel 35 = .ok (.invokevirtual 107, 3) := by decide +kernel
theorem dX0_hasParallel_38 : decode cX0_hasParallel 38 = .ok (.ifCond .eq 5, 3) := by decide +kernel
theorem dX0_hasParallel_41 : decode cX0_hasParallel 41 = .ok (.iconst 1, 1) := by decide +kernel
theorem dX0_hasParallel_42 : decode cX0_hasParallel 42 = .ok (.ireturn, 1) := by decide +kernel
theorem dX0_hasParallel_43 : decode cX0_hasParallel 43 = .ok (.iinc 3 1, 3) := by decide +kernel
theorem dX0_hasParallel_46 : decode cX0_hasParallel 46 = .ok (.goto (-44), 3) := by decide +kernel
theorem dX0_hasParallel_49 : decode cX0_hasParallel 49 = .ok (.iconst 0, 1) := by decide +kernel
theorem dX0_hasParallel_50 : decode cX0_hasParallel 50 = .ok (.ireturn, 1) := by decide +kernel
theorem dX0_haveSameNets_0 : decode cX0_haveSameNets 0 = .ok (.iconst 0, 1) := by decide +kernel
theorem dX0_haveSameNets_1 : decode cX0_haveSameNets 1 = .ok (.istore 4, 2) := by decide +kernel
theorem dX0_haveSameNets_3 : decode cX0_haveSameNets 3 = .ok (.iload 4, 2) := by decide +kernel
theorem dX0_haveSameNets_5 : decode cX0_haveSameNets 5 = .ok (.iload_n 3, 1) := by decide +kernel
theorem dX0_haveSameNets_6 : decode cX0_haveSameNets 6 = .ok (.if_icmp .ge 36, 3) := by decide +kernel
theorem dX0_haveSameNets_9 : decode cX0_haveSameNets 9 = .ok (.aload_n 0, 1) := by decide +kernel
theorem dX0_haveSameNets_10 : decode cX0_haveSameNets 10 = .ok (.getfield 27, 3) := by decide +kernel
theorem dX0_haveSameNets_13 : decode cX0_haveSameNets 13 = .ok (.iload_n 1, 1) := by decide +kernel
theorem dX0_haveSameNets_14 : decode cX0_haveSameNets 14 = .ok (.iconst 4, 1) := by decide +kernel
theorem dX0_haveSameNets_15 : decode cX0_haveSameNets 15 = .ok (.imul, 1) := by decide +kernel
theorem dX0_haveSameNets_16 : decode cX0_haveSameNets 16 = .ok (.iload 4, 2) := by decide +kernel
theorem dX0_haveSameNets_18 : decode cX0_haveSameNets 18 = .ok (.iadd, 1) := by decide +kernel
theorem dX0_haveSameNets_19 : decode cX0_haveSameNets 19 = .ok (.iaload, 1) := by decide +kernel
theorem dX0_haveSameNets_20 : decode cX0_haveSameNets 20 = .ok (.aload_n 0, 1) := by decide +kernel
theorem dX0_haveSameNets_21 : decode cX0_haveSameNets 21 = .ok (.getfield 27, 3) := by decide +kernel
theorem dX0_haveSameNets_24 : decode cX0_haveSameNets 24 = .ok (.iload_n 2, 1) := by decide +kernel
theorem dX0_haveSameNets_25 : decode cX0_haveSameNets 25 = .ok (.iconst 4, 1) := by decide +kernel
theorem dX0_haveSameNets_26 : decode cX0_haveSameNets 26 = .ok (.imul, 1) := by decide +kernel
theorem dX0_haveSameNets_27 : decode cX0_haveSameNets 27 = .ok (.iload 4, 2) := by decide +kernel
theorem dX0_haveSameNets_29 : decode cX0_haveSameNets 29 = .ok (.iadd, 1) := by decide +kernel
theorem dX0_haveSameNets_30 : decode cX0_haveSameNets 30 = .ok (.iaload, 1) := by decide +kernel
theorem dX0_haveSameNets_31 : decode cX0_haveSameNets 31 = .ok (.if_icmp .eq 5, 3) := by decide +kernel
theorem dX0_haveSameNets_34 : decode cX0_haveSameNets 34 = .ok (.iconst 0, 1) := by decide +kernel
theorem dX0_haveSameNets_35 : decode cX0_haveSameNets 35 = .ok (.ireturn, 1) := by decide +kernel
theorem dX0_haveSameNets_36 : decode cX0_haveSameNets 36 = .ok (.iinc 4 1, 3) := by decide +kernel
theorem dX0_haveSameNets_39 : decode cX0_haveSameNets 39 = .ok (.goto (-36), 3) := by decide +kernel
theorem dX0_haveSameNets_42 : decode cX0_haveSameNets 42 = .ok (.iconst 1, 1) := by decide +kernel
theorem dX0_haveSameNets_43 : decode cX0_haveSameNets 43 = .ok (.ireturn, 1) := by decide +kernel
theorem dX1_init_0 : decode cX1_init 0 = .ok (.aload_n 0, 1) := by decide +kernel
theorem dX1_init_1 : decode cX1_init 1 = .ok (.invokespecial 3, 3) := by decide +kernel
theorem dX1_init_4 : decode cX1_init 4 = .ok (.aload_n 0, 1) := by decide +kernel
theorem dX1_init_5 : decode cX1_init 5 = .ok (.bipush 60, 2) := by decide +kernel
theorem dX1_init_7 : decode cX1_init 7 = .ok (.newarray .int, 2) := by decide +kernel
theorem dX1_init_9 : decode cX1_init 9 = .ok (.putfield 9, 3) := by decide +kernel
theorem dX1_init_12 : decode cX1_init 12 = .ok (.aload_n 0, 1) := by decide +kernel
theorem dX1_init_13 : decode cX1_init 13 = .ok (.bipush 60, 2) := by decide +kernel
theorem dX1_init_15 : decode cX1_init 15 = .ok (.newarray .int, 2) := by decide +kernel
theorem dX1_init_17 : decode cX1_init 17 = .ok (.putfield 15, 3) := by decide +kernel
theorem dX1_init_20 : decode cX1_init 20 = .ok (.aload_n 0, 1) := by decide +kernel
theorem dX1_init_21 : decode cX1_init 21 = .ok (.sipush 960, 3) := by decide +kernel
theorem dX1_init_24 : decode cX1_init 24 = .ok (.newarray .int, 2) := by decide +kernel
theorem dX1_init_26 : decode cX1_init 26 = .ok (.putfield 18, 3) := by decide +kernel
theorem dX1_init_29 : decode cX1_init 29 = .ok (.aload_n 0, 1) := by decide +kernel
theorem dX1_init_30 : decode cX1_init 30 = .ok (.sipush 960, 3) := by decide +kernel
theorem dX1_init_33 : decode cX1_init 33 = .ok (.newarray .int, 2) := by decide +kernel
theorem dX1_init_35 : decode cX1_init 35 = .ok (.putfield 21, 3) := by decide +kernel
theorem dX1_init_38 : decode cX1_init 38 = .ok (.aload_n 0, 1) := by decide +kernel
theorem dX1_init_39 : decode cX1_init 39 = .ok (.bipush 64, 2) := by decide +kernel
theorem dX1_init_41 : decode cX1_init 41 = .ok (.newarray .long, 2) := by decide +kernel
theorem dX1_init_43 : decode cX1_init 43 = .ok (.putfield 24, 3) := by decide +kernel
theorem dX1_init_46 : decode cX1_init 46 = .ok (.aload_n 0, 1) := by decide +kernel
theorem dX1_init_47 : decode cX1_init 47 = .ok (.iconst 0, 1) := by decide +kernel
theorem dX1_init_48 : decode cX1_init 48 = .ok (.putfield 28, 3) := by decide +kernel
theorem dX1_init_51 : decode cX1_init 51 = .ok (.return_, 1) := by decide +kernel
theorem dX1_add_0 : decode cX1_add 0 = .ok (.aload_n 0, 1) := by decide +kernel
theorem dX1_add_1 : decode cX1_add 1 = .ok (.getfield 9, 3) := by decide +kernel
theorem dX1_add_4 : decode cX1_add 4 = .ok (.aload_n 0, 1) := by decide +kernel
theorem dX1_add_5 : decode cX1_add 5 = .ok (.getfield 28, 3) := by decide +kernel
theorem dX1_add_8 : decode cX1_add 8 = .ok (.iload_n 1, 1) := by decide +kernel
theorem dX1_add_9 : decode cX1_add 9 = .ok (.iastore, 1) := by decide +kernel
theorem dX1_add_10 : decode cX1_add 10 = .ok (.aload_n 0, 1) := by decide +kernel
theorem dX1_add_11 : decode cX1_add 11 = .ok (.dup, 1) := by decide +kernel
theorem dX1_add_12 : decode cX1_add 12 = .ok (.getfield 28, 3) := by decide +kernel
theorem dX1_add_15 : decode cX1_add 15 = .ok (.iconst 1, 1) := by decide +kernel
theorem dX1_add_16 : decode cX1_add 16 = .ok (.iadd, 1) := by decide +kernel
theorem dX1_add_17 : decode cX1_add 17 = .ok (.putfield 28, 3) := by decide +kernel
theorem dX1_add_20 : decode cX1_add 20 = .ok (.aload_n 0, 1) := by decide +kernel
theorem dX1_add_21 : decode cX1_add 21 = .ok (.getfield 28, 3) := by decide +kernel
theorem dX1_add_24 : decode cX1_add 24 = .ok (.iconst 1, 1) := by decide +kernel
theorem dX1_add_25 : decode cX1_add 25 = .ok (.isub, 1) := by decide +kernel
theorem dX1_add_26 : decode cX1_add 26 = .ok (.ireturn, 1) := by decide +kernel
theorem dX1_addCorner_0 : decode cX1_addCorner 0 = .ok (.iload_n 1, 1) := by decide +kernel
theorem dX1_addCorner_1 : decode cX1_addCorner 1 = .ok (.bipush 16, 2) := by decide +kernel
theorem dX1_addCorner_3 : decode cX1_addCorner 3 = .ok (.imul, 1) := by decide +kernel
theorem dX1_addCorner_4 : decode cX1_addCorner 4 = .ok (.aload_n 0, 1) := by decide +kernel
theorem dX1_addCorner_5 : decode cX1_addCorner 5 = .ok (.getfield 15, 3) := by decide +kernel
theorem dX1_addCorner_8 : decode cX1_addCorner 8 = .ok (.iload_n 1, 1) := by decide +kernel
theorem dX1_addCorner_9 : decode cX1_addCorner 9 = .ok (.iaload, 1) := by decide +kernel
theorem dX1_addCorner_10 : decode cX1_addCorner 10 = .ok (.iadd, 1) := by decide +kernel
theorem dX1_addCorner_11 : decode cX1_addCorner 11 = .ok (.istore 4, 2) := by decide +kernel
theorem dX1_addCorner_13 : decode cX1_addCorner 13 = .ok (.aload_n 0, 1) := by decide +kernel
theorem dX1_addCorner_14 : decode cX1_addCorner 14 = .ok (.getfield 18, 3) := by decide +kernel
theorem dX1_addCorner_17 : decode cX1_addCorner 17 = .ok (.iload 4, 2) := by decide +kernel
theorem dX1_addCorner_19 : decode cX1_addCorner 19 = .ok (.iload_n 2, 1) := by decide +kernel
theorem dX1_addCorner_20 : decode cX1_addCorner 20 = .ok (.iastore, 1) := by decide +kernel
theorem dX1_addCorner_21 : decode cX1_addCorner 21 = .ok (.aload_n 0, 1) := by decide +kernel
theorem dX1_addCorner_22 : decode cX1_addCorner 22 = .ok (.getfield 21, 3) := by decide +kernel
theorem dX1_addCorner_25 : decode cX1_addCorner 25 = .ok (.iload 4, 2) := by decide +kernel
theorem dX1_addCorner_27 : decode cX1_addCorner 27 = .ok (.iload_n 3, 1) := by decide +kernel
theorem dX1_addCorner_28 : decode cX1_addCorner 28 = .ok (.iastore, 1) := by decide +kernel
theorem dX1_addCorner_29 : decode cX1_addCorner 29 = .ok (.aload_n 0, 1) := by decide +kernel
theorem dX1_addCorner_30 : decode cX1_addCorner 30 = .ok (.getfield 15, 3) := by decide +kernel
theorem dX1_addCorner_33 : decode cX1_addCorner 33 = .ok (.iload_n 1, 1) := by decide +kernel
theorem dX1_addCorner_34 : decode cX1_addCorner 34 = .ok (.iaload, 1) := by decide +kernel
theorem dX1_addCorner_35 : decode cX1_addCorner 35 = .ok (.ifCond .le 18, 3) := by decide +kernel
theorem dX1_addCorner_38 : decode cX1_addCorner 38 = .ok (.aload_n 0, 1) := by decide +kernel
theorem dX1_addCorner_39 : decode cX1_addCorner 39 = .ok (.iload 4, 2) := by decide +kernel
theorem dX1_addCorner_41 : decode cX1_addCorner 41 = .ok (.iconst 1, 1) := by decide +kernel
theorem dX1_addCorner_42 : decode cX1_addCorner 42 = .ok (.isub, 1) := by decide +kernel
theorem dX1_addCorner_43 : decode cX1_addCorner 43 = .ok (.iload 4, 2) := by decide +kernel
theorem dX1_addCorner_45 : decode cX1_addCorner 45 = .ok (.invokevirtual 32, 3) := by decide +kernel
theorem dX1_addCorner_48 : decode cX1_addCorner 48 = .ok (.ifCond .ne 5, 3) := by decide +kernel
theorem dX1_addCorner_51 : decode cX1_addCorner 51 = .ok (.iconst 0, 1) := by decide +kernel
theorem dX1_addCorner_52 : decode cX1_addCorner 52 = .ok (.ireturn, 1) := by decide +kernel
theorem dX1_addCorner_53 : decode cX1_addCorner 53 = .ok (.aload_n 0, 1) := by decide +kernel
theorem dX1_addCorner_54 : decode cX1_addCorner 54 = .ok (.getfield 15, 3) := by decide +kernel
theorem dX1_addCorner_57 : decode cX1_addCorner 57 = .ok (.iload_n 1, 1) := by decide +kernel
theorem dX1_addCorner_58 : decode cX1_addCorner 58 = .ok (.dup2, 1) := by decide +kernel
theorem dX1_addCorner_59 : decode cX1_addCorner 59 = .ok (.iaload, 1) := by decide +kernel
theorem dX1_addCorner_60 : decode cX1_addCorner 60 = .ok (.iconst 1, 1) := by decide +kernel
theorem dX1_addCorner_61 : decode cX1_addCorner 61 = .ok (.iadd, 1) := by decide +kernel
theorem dX1_addCorner_62 : decode cX1_addCorner 62 = .ok (.iastore, 1) := by decide +kernel
theorem dX1_addCorner_63 : decode cX1_addCorner 63 = .ok (.iconst 1, 1) := by decide +kernel
theorem dX1_addCorner_64 : decode cX1_addCorner 64 = .ok (.ireturn, 1) := by decide +kernel
theorem dX1_fill_0 : decode cX1_fill 0 = .ok (.aload_n 0, 1) := by decide +kernel
theorem dX1_fill_1 : decode cX1_fill 1 = .ok (.getfield 24, 3) := by decide +kernel
theorem dX1_fill_4 : decode cX1_fill 4 = .ok (.lconst 0, 1) := by decide +kernel
theorem dX1_fill_5 : decode cX1_fill 5 = .ok (.invokestatic 36, 3) := by decide +kernel
theorem dX1_fill_8 : decode cX1_fill 8 = .ok (.aload_n 0, 1) := by decide +kernel
theorem dX1_fill_9 : decode cX1_fill 9 = .ok (.iload_n 1, 1) := by decide +kernel
theorem dX1_fill_10 : decode cX1_fill 10 = .ok (.invokevirtual 42, 3) := by decide +kernel
theorem dX1_fill_13 : decode cX1_fill 13 = .ok (.ifCond .eq 4, 3) := by decide +kernel
theorem dX1_fill_16 : decode cX1_fill 16 = .ok (.return_, 1) := by decide +kernel
theorem dX1_fill_17 : decode cX1_fill 17 = .ok (.iload_n 1, 1) := by decide +kernel
theorem dX1_fill_18 : decode cX1_fill 18 = .ok (.bipush 16, 2) := by decide +kernel
theorem dX1_fill_20 : decode cX1_fill 20 = .ok (.imul, 1) := by decide +kernel
theorem dX1_fill_21 : decode cX1_fill 21 = .ok (.istore_n 2, 1) := by decide +kernel
theorem dX1_fill_22 : decode cX1_fill 22 = .ok (.iload_n 2, 1) := by decide +kernel
theorem dX1_fill_23 : decode cX1_fill 23 = .ok (.aload_n 0, 1) := by decide +kernel
theorem dX1_fill_24 : decode cX1_fill 24 = .ok (.getfield 15, 3) := by decide +kernel
theorem dX1_fill_27 : decode cX1_fill 27 = .ok (.iload_n 1, 1) := by decide +kernel
theorem dX1_fill_28 : decode cX1_fill 28 = .ok (.iaload, 1) := by decide +kernel
theorem dX1_fill_29 : decode cX1_fill 29 = .ok (.iadd, 1) := by decide +kernel
theorem dX1_fill_30 : decode cX1_fill 30 = .ok (.iconst 1, 1) := by decide +kernel
theorem dX1_fill_31 : decode cX1_fill 31 = .ok (.isub, 1) := by decide +kernel
theorem dX1_fill_32 : decode cX1_fill 32 = .ok (.istore_n 3, 1) := by decide +kernel
theorem dX1_fill_33 : decode cX1_fill 33 = .ok (.iconst 0, 1) := by decide +kernel
theorem dX1_fill_34 : decode cX1_fill 34 = .ok (.istore 4, 2) := by decide +kernel
theorem dX1_fill_36 : decode cX1_fill 36 = .ok (.iload 4, 2) := by decide +kernel
theorem dX1_fill_38 : decode cX1_fill 38 = .ok (.aload_n 0, 1) := by decide +kernel
theorem dX1_fill_39 : decode cX1_fill 39 = .ok (.getfield 15, 3) := by decide +kernel
theorem dX1_fill_42 : decode cX1_fill 42 = .ok (.iload_n 1, 1) := by decide +kernel
theorem dX1_fill_43 : decode cX1_fill 43 = .ok (.iaload, 1) := by decide +kernel
theorem dX1_fill_44 : decode cX1_fill 44 = .ok (.if_icmp .ge 23, 3) := by decide +kernel
theorem dX1_fill_47 : decode cX1_fill 47 = .ok (.aload_n 0, 1) := by decide +kernel
theorem dX1_fill_48 : decode cX1_fill 48 = .ok (.iload_n 3, 1) := by decide +kernel
theorem dX1_fill_49 : decode cX1_fill 49 = .ok (.iload_n 2, 1) := by decide +kernel
theorem dX1_fill_50 : decode cX1_fill 50 = .ok (.iload 4, 2) := by decide +kernel
theorem dX1_fill_52 : decode cX1_fill 52 = .ok (.iadd, 1) := by decide +kernel
theorem dX1_fill_53 : decode cX1_fill 53 = .ok (.invokevirtual 46, 3) := by decide +kernel
theorem dX1_fill_56 : decode cX1_fill 56 = .ok (.iload_n 2, 1) := by decide +kernel
theorem dX1_fill_57 : decode cX1_fill 57 = .ok (.iload 4, 2) := by decide +kernel
theorem dX1_fill_59 : decode cX1_fill 59 = .ok (.iadd, 1) := by decide +kernel
theorem dX1_fill_60 : decode cX1_fill 60 = .ok (.istore_n 3, 1) := by decide +kernel
theorem dX1_fill_61 : decode cX1_fill 61 = .ok (.iinc 4 1, 3) := by decide +kernel
theorem dX1_fill_64 : decode cX1_fill 64 = .ok (.goto (-28), 3) := by decide +kernel
theorem dX1_fill_67 : decode cX1_fill 67 = .ok (.return_, 1) := by decide +kernel
theorem dX1_isOpen_0 : decode cX1_isOpen 0 = .ok (.iload_n 1, 1) := by decide +kernel
theorem dX1_isOpen_1 : decode cX1_isOpen 1 = .ok (.bipush 16, 2) := by decide +kernel
theorem dX1_isOpen_3 : decode cX1_isOpen 3 = .ok (.imul, 1) := by decide +kernel
theorem dX1_isOpen_4 : decode cX1_isOpen 4 = .ok (.istore_n 2, 1) := by decide +kernel
theorem dX1_isOpen_5 : decode cX1_isOpen 5 = .ok (.aload_n 0, 1) := by decide +kernel
theorem dX1_isOpen_6 : decode cX1_isOpen 6 = .ok (.getfield 15, 3) := by decide +kernel
theorem dX1_isOpen_9 : decode cX1_isOpen 9 = .ok (.iload_n 1, 1) := by decide +kernel
theorem dX1_isOpen_10 : decode cX1_isOpen 10 = .ok (.iaload, 1) := by decide +kernel
theorem dX1_isOpen_11 : decode cX1_isOpen 11 = .ok (.iconst 4, 1) := by decide +kernel
theorem dX1_isOpen_12 : decode cX1_isOpen 12 = .ok (.if_icmp .lt 21, 3) := by decide +kernel
theorem dX1_isOpen_15 : decode cX1_isOpen 15 = .ok (.aload_n 0, 1) := by decide +kernel
theorem dX1_isOpen_16 : decode cX1_isOpen 16 = .ok (.iload_n 2, 1) := by decide +kernel
theorem dX1_isOpen_17 : decode cX1_isOpen 17 = .ok (.iload_n 2, 1) := by decide +kernel
theorem dX1_isOpen_18 : decode cX1_isOpen 18 = .ok (.aload_n 0, 1) := by decide +kernel
theorem dX1_isOpen_19 : decode cX1_isOpen 19 = .ok (.getfield 15, 3) := by decide +kernel
theorem dX1_isOpen_22 : decode cX1_isOpen 22 = .ok (.iload_n 1, 1) := by decide +kernel
theorem dX1_isOpen_23 : decode cX1_isOpen 23 = .ok (.iaload, 1) := by decide +kernel
theorem dX1_isOpen_24 : decode cX1_isOpen 24 = .ok (.iadd, 1) := by decide +kernel
theorem dX1_isOpen_25 : decode cX1_isOpen 25 = .ok (.iconst 1, 1) := by decide +kernel
theorem dX1_isOpen_26 : decode cX1_isOpen 26 = .ok (.isub, 1) := by decide +kernel
theorem dX1_isOpen_27 : decode cX1_isOpen 27 = .ok (.invokevirtual 32, 3) := by decide +kernel
theorem dX1_isOpen_30 : decode cX1_isOpen 30 = .ok (.ifCond .ne 7, 3) := by decide +kernel
theorem dX1_isOpen_33 : decode cX1_isOpen 33 = .ok (.iconst 1, 1) := by decide +kernel
theorem dX1_isOpen_34 : decode cX1_isOpen 34 = .ok (.goto 4, 3) := by decide +kernel
theorem dX1_isOpen_37 : decode cX1_isOpen 37 = .ok (.iconst 0, 1) := by decide +kernel
theorem dX1_isOpen_38 : decode cX1_isOpen 38 = .ok (.ireturn, 1) := by decide +kernel
theorem dX1_differInOne_0 : decode cX1_differInOne 0 = .ok (.aload_n 0, 1) := by decide +kernel
theorem dX1_differInOne_1 : decode cX1_differInOne 1 = .ok (.getfield 18, 3) := by decide +kernel
theorem dX1_differInOne_4 : decode cX1_differInOne 4 = .ok (.iload_n 1, 1) := by decide +kernel
theorem dX1_differInOne_5 : decode cX1_differInOne 5 = .ok (.iaload, 1) := by decide +kernel
theorem dX1_differInOne_6 : decode cX1_differInOne 6 = .ok (.aload_n 0, 1) := by decide +kernel
theorem dX1_differInOne_7 : decode cX1_differInOne 7 = .ok (.getfield 18, 3) := by decide +kernel
theorem dX1_differInOne_10 : decode cX1_differInOne 10 = .ok (.iload_n 2, 1) := by decide +kernel
theorem dX1_differInOne_11 : decode cX1_differInOne 11 = .ok (.iaload, 1) := by decide +kernel
theorem dX1_differInOne_12 : decode cX1_differInOne 12 = .ok (.if_icmp .eq 7, 3) := by decide +kernel
theorem dX1_differInOne_15 : decode cX1_differInOne 15 = .ok (.iconst 1, 1) := by decide +kernel
theorem dX1_differInOne_16 : decode cX1_differInOne 16 = .ok (.goto 4, 3) := by decide +kernel
theorem dX1_differInOne_19 : decode cX1_differInOne 19 = .ok (.iconst 0, 1) := by decide +kernel
theorem dX1_differInOne_20 : decode cX1_differInOne 20 = .ok (.aload_n 0, 1) := by decide +kernel
theorem dX1_differInOne_21 : decode cX1_differInOne 21 = .ok (.getfield 21, 3) := by decide +kernel
theorem dX1_differInOne_24 : decode cX1_differInOne 24 = .ok (.iload_n 1, 1) := by decide +kernel
theorem dX1_differInOne_25 : decode cX1_differInOne 25 = .ok (.iaload, 1) := by decide +kernel
theorem dX1_differInOne_26 : decode cX1_differInOne 26 = .ok (.aload_n 0, 1) := by decide +kernel
theorem dX1_differInOne_27 : decode cX1_differInOne 27 = .ok (.getfield 21, 3) := by decide +kernel
theorem dX1_differInOne_30 : decode cX1_differInOne 30 = .ok (.iload_n 2, 1) := by decide +kernel
theorem dX1_differInOne_31 : decode cX1_differInOne 31 = .ok (.iaload, 1) := by decide +kernel
theorem dX1_differInOne_32 : decode cX1_differInOne 32 = .ok (.if_icmp .eq 7, 3) := by decide +kernel
theorem dX1_differInOne_35 : decode cX1_differInOne 35 = .ok (.iconst 1, 1) := by decide +kernel
theorem dX1_differInOne_36 : decode cX1_differInOne 36 = .ok (.goto 4, 3) := by decide +kernel
theorem dX1_differInOne_39 : decode cX1_differInOne 39 = .ok (.iconst 0, 1) := by decide +kernel
theorem dX1_differInOne_40 : decode cX1_differInOne 40 = .ok (.if_icmp .eq 7, 3) := by decide +kernel
theorem dX1_differInOne_43 : decode cX1_differInOne 43 = .ok (.iconst 1, 1) := by decide +kernel
theorem dX1_differInOne_44 : decode cX1_differInOne 44 = .ok (.goto 4, 3) := by decide +kernel
theorem dX1_differInOne_47 : decode cX1_differInOne 47 = .ok (.iconst 0, 1) := by decide +kernel
theorem dX1_differInOne_48 : decode cX1_differInOne 48 = .ok (.ireturn, 1) := by decide +kernel
theorem dX1_meetSide_0 : decode cX1_meetSide 0 = .ok (.aload_n 0, 1) := by decide +kernel
theorem dX1_meetSide_1 : decode cX1_meetSide 1 = .ok (.getfield 18, 3) := by decide +kernel
theorem dX1_meetSide_4 : decode cX1_meetSide 4 = .ok (.iload_n 1, 1) := by decide +kernel
theorem dX1_meetSide_5 : decode cX1_meetSide 5 = .ok (.iaload, 1) := by decide +kernel
theorem dX1_meetSide_6 : decode cX1_meetSide 6 = .ok (.aload_n 0, 1) := by decide +kernel
theorem dX1_meetSide_7 : decode cX1_meetSide 7 = .ok (.getfield 18, 3) := by decide +kernel
theorem dX1_meetSide_10 : decode cX1_meetSide 10 = .ok (.iload_n 2, 1) := by decide +kernel
theorem dX1_meetSide_11 : decode cX1_meetSide 11 = .ok (.iaload, 1) := by decide +kernel
theorem dX1_meetSide_12 : decode cX1_meetSide 12 = .ok (.if_icmp .eq 4, 3) := by decide +kernel
theorem dX1_meetSide_15 : decode cX1_meetSide 15 = .ok (.return_, 1) := by decide +kernel
theorem dX1_meetSide_16 : decode cX1_meetSide 16 = .ok (.aload_n 0, 1) := by decide +kernel
theorem dX1_meetSide_17 : decode cX1_meetSide 17 = .ok (.getfield 18, 3) := by decide +kernel
theorem dX1_meetSide_20 : decode cX1_meetSide 20 = .ok (.iload_n 1, 1) := by decide +kernel
theorem dX1_meetSide_21 : decode cX1_meetSide 21 = .ok (.iaload, 1) := by decide +kernel
theorem dX1_meetSide_22 : decode cX1_meetSide 22 = .ok (.bipush 64, 2) := by decide +kernel
theorem dX1_meetSide_24 : decode cX1_meetSide 24 = .ok (.if_icmp .lt 9, 3) := by decide +kernel
theorem dX1_meetSide_27 : decode cX1_meetSide 27 = .ok (.ldc2_w 50, 3) := by decide +kernel
theorem dX1_meetSide_30 : decode cX1_meetSide 30 = .ok (.goto 13, 3) := by decide +kernel
theorem dX1_meetSide_33 : decode cX1_meetSide 33 = .ok (.lconst 1, 1) := by decide +kernel
theorem dX1_meetSide_34 : decode cX1_meetSide 34 = .ok (.aload_n 0, 1) := by decide +kernel
theorem dX1_meetSide_35 : decode cX1_meetSide 35 = .ok (.getfield 18, 3) := by decide +kernel
theorem dX1_meetSide_38 : decode cX1_meetSide 38 = .ok (.iload_n 1, 1) := by decide +kernel
theorem dX1_meetSide_39 : decode cX1_meetSide 39 = .ok (.iaload, 1) := by decide +kernel
theorem dX1_meetSide_40 : decode cX1_meetSide 40 = .ok (.lshl, 1) := by decide +kernel
theorem dX1_meetSide_41 : decode cX1_meetSide 41 = .ok (.lconst 1, 1) := by decide +kernel
theorem dX1_meetSide_42 : decode cX1_meetSide 42 = .ok (.lsub, 1) := by decide +kernel
theorem dX1_meetSide_43 : decode cX1_meetSide 43 = .ok (.lstore_n 3, 1) := by decide +kernel
theorem dX1_meetSide_44 : decode cX1_meetSide 44 = .ok (.aload_n 0, 1) := by decide +kernel
theorem dX1_meetSide_45 : decode cX1_meetSide 45 = .ok (.getfield 21, 3) := by decide +kernel
theorem dX1_meetSide_48 : decode cX1_meetSide 48 = .ok (.iload_n 1, 1) := by decide +kernel
theorem dX1_meetSide_49 : decode cX1_meetSide 49 = .ok (.iaload, 1) := by decide +kernel
theorem dX1_meetSide_50 : decode cX1_meetSide 50 = .ok (.aload_n 0, 1) := by decide +kernel
theorem dX1_meetSide_51 : decode cX1_meetSide 51 = .ok (.getfield 21, 3) := by decide +kernel
theorem dX1_meetSide_54 : decode cX1_meetSide 54 = .ok (.iload_n 2, 1) := by decide +kernel
theorem dX1_meetSide_55 : decode cX1_meetSide 55 = .ok (.iaload, 1) := by decide +kernel
theorem dX1_meetSide_56 : decode cX1_meetSide 56 = .ok (.invokestatic 52, 3) := by decide +kernel
theorem dX1_meetSide_59 : decode cX1_meetSide 59 = .ok (.istore 5, 2) := by decide +kernel
theorem dX1_meetSide_61 : decode cX1_meetSide 61 = .ok (.aload_n 0, 1) := by decide +kernel
theorem dX1_meetSide_62 : decode cX1_meetSide 62 = .ok (.getfield 21, 3) := by decide +kernel
theorem dX1_meetSide_65 : decode cX1_meetSide 65 = .ok (.iload_n 1, 1) := by decide +kernel
theorem dX1_meetSide_66 : decode cX1_meetSide 66 = .ok (.iaload, 1) := by decide +kernel
theorem dX1_meetSide_67 : decode cX1_meetSide 67 = .ok (.aload_n 0, 1) := by decide +kernel
theorem dX1_meetSide_68 : decode cX1_meetSide 68 = .ok (.getfield 21, 3) := by decide +kernel
theorem dX1_meetSide_71 : decode cX1_meetSide 71 = .ok (.iload_n 2, 1) := by decide +kernel
theorem dX1_meetSide_72 : decode cX1_meetSide 72 = .ok (.iaload, 1) := by decide +kernel
theorem dX1_meetSide_73 : decode cX1_meetSide 73 = .ok (.invokestatic 58, 3) := by decide +kernel
theorem dX1_meetSide_76 : decode cX1_meetSide 76 = .ok (.istore 6, 2) := by decide +kernel
theorem dX1_meetSide_78 : decode cX1_meetSide 78 = .ok (.iload 6, 2) := by decide +kernel
theorem dX1_meetSide_80 : decode cX1_meetSide 80 = .ok (.iload 5, 2) := by decide +kernel
theorem dX1_meetSide_82 : decode cX1_meetSide 82 = .ok (.if_icmp .ge 20, 3) := by decide +kernel
theorem dX1_meetSide_85 : decode cX1_meetSide 85 = .ok (.aload_n 0, 1) := by decide +kernel
theorem dX1_meetSide_86 : decode cX1_meetSide 86 = .ok (.getfield 24, 3) := by decide +kernel
theorem dX1_meetSide_89 : decode cX1_meetSide 89 = .ok (.iload 6, 2) := by decide +kernel
theorem dX1_meetSide_91 : decode cX1_meetSide 91 = .ok (.dup2, 1) := by decide +kernel
theorem dX1_meetSide_92 : decode cX1_meetSide 92 = .ok (.laload, 1) := by decide +kernel
theorem dX1_meetSide_93 : decode cX1_meetSide 93 = .ok (.lload_n 3, 1) := by decide +kernel
theorem dX1_meetSide_94 : decode cX1_meetSide 94 = .ok (.lxor, 1) := by decide +kernel
theorem dX1_meetSide_95 : decode cX1_meetSide 95 = .ok (.lastore, 1) := by decide +kernel
theorem dX1_meetSide_96 : decode cX1_meetSide 96 = .ok (.iinc 6 1, 3) := by decide +kernel
theorem dX1_meetSide_99 : decode cX1_meetSide 99 = .ok (.goto (-21), 3) := by decide +kernel
theorem dX1_meetSide_102 : decode cX1_meetSide 102 = .ok (.return_, 1) := by decide +kernel
theorem dX2_init_0 : decode cX2_init 0 = .ok (.aload_n 0, 1) := by decide +kernel
theorem dX2_init_1 : decode cX2_init 1 = .ok (.invokespecial 3, 3) := by decide +kernel
theorem dX2_init_4 : decode cX2_init 4 = .ok (.aload_n 0, 1) := by decide +kernel
theorem dX2_init_5 : decode cX2_init 5 = .ok (.bipush 24, 2) := by decide +kernel
theorem dX2_init_7 : decode cX2_init 7 = .ok (.bipush 64, 2) := by decide +kernel
theorem dX2_init_9 : decode cX2_init 9 = .ok (.multianewarray 9 2, 4) := by decide +kernel
theorem dX2_init_13 : decode cX2_init 13 = .ok (.putfield 11, 3) := by decide +kernel
theorem dX2_init_16 : decode cX2_init 16 = .ok (.return_, 1) := by decide +kernel
theorem dX2_draw_0 : decode cX2_draw 0 = .ok (.iconst 0, 1) := by decide +kernel
theorem dX2_draw_1 : decode cX2_draw 1 = .ok (.istore_n 3, 1) := by decide +kernel
theorem dX2_draw_2 : decode cX2_draw 2 = .ok (.iload_n 3, 1) := by decide +kernel
theorem dX2_draw_3 : decode cX2_draw 3 = .ok (.aload_n 1, 1) := by decide +kernel
theorem dX2_draw_4 : decode cX2_draw 4 = .ok (.getfield 16, 3) := by decide +kernel
theorem dX2_draw_7 : decode cX2_draw 7 = .ok (.if_icmp .ge 19, 3) := by decide +kernel
theorem dX2_draw_10 : decode cX2_draw 10 = .ok (.aload_n 0, 1) := by decide +kernel
theorem dX2_draw_11 : decode cX2_draw 11 = .ok (.getfield 11, 3) := by decide +kernel
theorem dX2_draw_14 : decode cX2_draw 14 = .ok (.iload_n 3, 1) := by decide +kernel
theorem dX2_draw_15 : decode cX2_draw 15 = .ok (.aaload, 1) := by decide +kernel
theorem dX2_draw_16 : decode cX2_draw 16 = .ok (.lconst 0, 1) := by decide +kernel
theorem dX2_draw_17 : decode cX2_draw 17 = .ok (.invokestatic 22, 3) := by decide +kernel
theorem dX2_draw_20 : decode cX2_draw 20 = .ok (.iinc 3 1, 3) := by decide +kernel
theorem dX2_draw_23 : decode cX2_draw 23 = .ok (.goto (-21), 3) := by decide +kernel
theorem dX2_draw_26 : decode cX2_draw 26 = .ok (.iconst 0, 1) := by decide +kernel
theorem dX2_draw_27 : decode cX2_draw 27 = .ok (.istore_n 3, 1) := by decide +kernel
theorem dX2_draw_28 : decode cX2_draw 28 = .ok (.iload_n 3, 1) := by decide +kernel
theorem dX2_draw_29 : decode cX2_draw 29 = .ok (.aload_n 2, 1) := by decide +kernel
theorem dX2_draw_30 : decode cX2_draw 30 = .ok (.getfield 28, 3) := by decide +kernel
theorem dX2_draw_33 : decode cX2_draw 33 = .ok (.if_icmp .ge 26, 3) := by decide +kernel
theorem dX2_draw_36 : decode cX2_draw 36 = .ok (.aload_n 2, 1) := by decide +kernel
theorem dX2_draw_37 : decode cX2_draw 37 = .ok (.iload_n 3, 1) := by decide +kernel
theorem dX2_draw_38 : decode cX2_draw 38 = .ok (.invokevirtual 33, 3) := by decide +kernel
theorem dX2_draw_41 : decode cX2_draw 41 = .ok (.aload_n 0, 1) := by decide +kernel
theorem dX2_draw_42 : decode cX2_draw 42 = .ok (.aload_n 1, 1) := by decide +kernel
theorem dX2_draw_43 : decode cX2_draw 43 = .ok (.aload_n 2, 1) := by decide +kernel
theorem dX2_draw_44 : decode cX2_draw 44 = .ok (.aload_n 2, 1) := by decide +kernel
theorem dX2_draw_45 : decode cX2_draw 45 = .ok (.getfield 36, 3) := by decide +kernel
theorem dX2_draw_48 : decode cX2_draw 48 = .ok (.iload_n 3, 1) := by decide +kernel
theorem dX2_draw_49 : decode cX2_draw 49 = .ok (.iaload, 1) := by decide +kernel
theorem dX2_draw_50 : decode cX2_draw 50 = .ok (.invokevirtual 40, 3) := by decide +kernel
theorem dX2_draw_53 : decode cX2_draw 53 = .ok (.iinc 3 1, 3) := by decide +kernel
theorem dX2_draw_56 : decode cX2_draw 56 = .ok (.goto (-28), 3) := by decide +kernel
theorem dX2_draw_59 : decode cX2_draw 59 = .ok (.iconst 0, 1) := by decide +kernel
theorem dX2_draw_60 : decode cX2_draw 60 = .ok (.istore_n 3, 1) := by decide +kernel
theorem dX2_draw_61 : decode cX2_draw 61 = .ok (.iload_n 3, 1) := by decide +kernel
theorem dX2_draw_62 : decode cX2_draw 62 = .ok (.aload_n 1, 1) := by decide +kernel
theorem dX2_draw_63 : decode cX2_draw 63 = .ok (.getfield 16, 3) := by decide +kernel
theorem dX2_draw_66 : decode cX2_draw 66 = .ok (.if_icmp .ge 55, 3) := by decide +kernel
theorem dX2_draw_69 : decode cX2_draw 69 = .ok (.aload_n 1, 1) := by decide +kernel
theorem dX2_draw_70 : decode cX2_draw 70 = .ok (.getfield 44, 3) := by decide +kernel
theorem dX2_draw_73 : decode cX2_draw 73 = .ok (.iload_n 3, 1) := by decide +kernel
theorem dX2_draw_74 : decode cX2_draw 74 = .ok (.iaload, 1) := by decide +kernel
theorem dX2_draw_75 : decode cX2_draw 75 = .ok (.ifCond .eq 40, 3) := by decide +kernel
theorem dX2_draw_78 : decode cX2_draw 78 = .ok (.aload_n 0, 1) := by decide +kernel
theorem dX2_draw_79 : decode cX2_draw 79 = .ok (.getfield 11, 3) := by decide +kernel
theorem dX2_draw_82 : decode cX2_draw 82 = .ok (.iload_n 3, 1) := by decide +kernel
theorem dX2_draw_83 : decode cX2_draw 83 = .ok (.aaload, 1) := by decide +kernel
theorem dX2_draw_84 : decode cX2_draw 84 = .ok (.aload_n 1, 1) := by decide +kernel
theorem dX2_draw_85 : decode cX2_draw 85 = .ok (.getfield 44, 3) := by decide +kernel
theorem dX2_draw_88 : decode cX2_draw 88 = .ok (.iload_n 3, 1) := by decide +kernel
theorem dX2_draw_89 : decode cX2_draw 89 = .ok (.iaload, 1) := by decide +kernel
theorem dX2_draw_90 : decode cX2_draw 90 = .ok (.aload_n 0, 1) := by decide +kernel
theorem dX2_draw_91 : decode cX2_draw 91 = .ok (.getfield 11, 3) := by decide +kernel
theorem dX2_draw_94 : decode cX2_draw 94 = .ok (.aload_n 1, 1) := by decide +kernel
theorem dX2_draw_95 : decode cX2_draw 95 = .ok (.getfield 47, 3) := by decide +kernel
theorem dX2_draw_98 : decode cX2_draw 98 = .ok (.iload_n 3, 1) := by decide +kernel
theorem dX2_draw_99 : decode cX2_draw 99 = .ok (.iaload, 1) := by decide +kernel
theorem dX2_draw_100 : decode cX2_draw 100 = .ok (.aaload, 1) := by decide +kernel
theorem dX2_draw_101 : decode cX2_draw 101 = .ok (.aload_n 0, 1) := by decide +kernel
theorem dX2_draw_102 : decode cX2_draw 102 = .ok (.getfield 11, 3) := by decide +kernel
theorem dX2_draw_105 : decode cX2_draw 105 = .ok (.aload_n 1, 1) := by decide +kernel
theorem dX2_draw_106 : decode cX2_draw 106 = .ok (.getfield 50, 3) := by decide +kernel
theorem dX2_draw_109 : decode cX2_draw 109 = .ok (.iload_n 3, 1) := by decide +kernel
theorem dX2_draw_110 : decode cX2_draw 110 = .ok (.iaload, 1) := by decide +kernel
theorem dX2_draw_111 : decode cX2_draw 111 = .ok (.aaload, 1) := by decide +kernel
theorem dX2_draw_112 : decode cX2_draw 112 = .ok (.invokestatic 53, 3) := by decide +kernel
theorem dX2_draw_115 : decode cX2_draw 115 = .ok (.iinc 3 1, 3) := by decide +kernel
theorem dX2_draw_118 : decode cX2_draw 118 = .ok (.goto (-57), 3) := by decide +kernel
theorem dX2_draw_121 : decode cX2_draw 121 = .ok (.return_, 1) := by decide +kernel
theorem dX2_addPolygon_0 : decode cX2_addPolygon 0 = .ok (.iconst 0, 1) := by decide +kernel
theorem dX2_addPolygon_1 : decode cX2_addPolygon 1 = .ok (.istore 4, 2) := by decide +kernel
theorem dX2_addPolygon_3 : decode cX2_addPolygon 3 = .ok (.iload 4, 2) := by decide +kernel
theorem dX2_addPolygon_5 : decode cX2_addPolygon 5 = .ok (.aload_n 1, 1) := by decide +kernel
theorem dX2_addPolygon_6 : decode cX2_addPolygon 6 = .ok (.getfield 16, 3) := by decide +kernel
theorem dX2_addPolygon_9 : decode cX2_addPolygon 9 = .ok (.if_icmp .ge 52, 3) := by decide +kernel
theorem dX2_addPolygon_12 : decode cX2_addPolygon 12 = .ok (.aload_n 1, 1) := by decide +kernel
theorem dX2_addPolygon_13 : decode cX2_addPolygon 13 = .ok (.getfield 44, 3) := by decide +kernel
theorem dX2_addPolygon_16 : decode cX2_addPolygon 16 = .ok (.iload 4, 2) := by decide +kernel
theorem dX2_addPolygon_18 : decode cX2_addPolygon 18 = .ok (.iaload, 1) := by decide +kernel
theorem dX2_addPolygon_19 : decode cX2_addPolygon 19 = .ok (.ifCond .ne 36, 3) := by decide +kernel
theorem dX2_addPolygon_22 : decode cX2_addPolygon 22 = .ok (.aload_n 1, 1) := by decide +kernel
theorem dX2_addPolygon_23 : decode cX2_addPolygon 23 = .ok (.getfield 47, 3) := by decide +kernel
theorem dX2_addPolygon_26 : decode cX2_addPolygon 26 = .ok (.iload 4, 2) := by decide +kernel
theorem dX2_addPolygon_28 : decode cX2_addPolygon 28 = .ok (.iaload, 1) := by decide +kernel
theorem dX2_addPolygon_29 : decode cX2_addPolygon 29 = .ok (.iload_n 3, 1) := by decide +kernel
theorem dX2_addPolygon_30 : decode cX2_addPolygon 30 = .ok (.if_icmp .ne 25, 3) := by decide +kernel
theorem dX2_addPolygon_33 : decode cX2_addPolygon 33 = .ok (.aload_n 0, 1) := by decide +kernel
theorem dX2_addPolygon_34 : decode cX2_addPolygon 34 = .ok (.getfield 11, 3) := by decide +kernel
theorem dX2_addPolygon_37 : decode cX2_addPolygon 37 = .ok (.iload 4, 2) := by decide +kernel
theorem dX2_addPolygon_39 : decode cX2_addPolygon 39 = .ok (.aaload, 1) := by decide +kernel
theorem dX2_addPolygon_40 : decode cX2_addPolygon 40 = .ok (.iconst 2, 1) := by decide +kernel
theorem dX2_addPolygon_41 : decode cX2_addPolygon 41 = .ok (.aload_n 0, 1) := by decide +kernel
theorem dX2_addPolygon_42 : decode cX2_addPolygon 42 = .ok (.getfield 11, 3) := by decide +kernel
theorem dX2_addPolygon_45 : decode cX2_addPolygon 45 = .ok (.iload 4, 2) := by decide +kernel
theorem dX2_addPolygon_47 : decode cX2_addPolygon 47 = .ok (.aaload, 1) := by decide +kernel
theorem dX2_addPolygon_48 : decode cX2_addPolygon 48 = .ok (.aload_n 2, 1) := by decide +kernel
theorem dX2_addPolygon_49 : decode cX2_addPolygon 49 = .ok (.getfield 57, 3) := by decide +kernel
theorem dX2_addPolygon_52 : decode cX2_addPolygon 52 = .ok (.invokestatic 53, 3) := by decide +kernel
theorem dX2_addPolygon_55 : decode cX2_addPolygon 55 = .ok (.iinc 4 1, 3) := by decide +kernel
theorem dX2_addPolygon_58 : decode cX2_addPolygon 58 = .ok (.goto (-55), 3) := by decide +kernel
theorem dX2_addPolygon_61 : decode cX2_addPolygon 61 = .ok (.return_, 1) := by decide +kernel
theorem dX2_make_0 : decode cX2_make 0 = .ok (.iconst 0, 1) := by decide +kernel
theorem dX2_make_1 : decode cX2_make 1 = .ok (.istore 4, 2) := by decide +kernel
theorem dX2_make_3 : decode cX2_make 3 = .ok (.iload 4, 2) := by decide +kernel
theorem dX2_make_5 : decode cX2_make 5 = .ok (.bipush 64, 2) := by decide +kernel
theorem dX2_make_7 : decode cX2_make 7 = .ok (.if_icmp .ge 68, 3) := by decide +kernel
theorem dX2_make_10 : decode cX2_make 10 = .ok (.iload_n 1, 1) := by decide +kernel
theorem dX2_make_11 : decode cX2_make 11 = .ok (.iconst 1, 1) := by decide +kernel
theorem dX2_make_12 : decode cX2_make 12 = .ok (.if_icmp .ne 19, 3) := by decide +kernel
theorem dX2_make_15 : decode cX2_make 15 = .ok (.aload_n 0, 1) := by decide +kernel
theorem dX2_make_16 : decode cX2_make 16 = .ok (.iload 4, 2) := by decide +kernel
theorem dX2_make_18 : decode cX2_make 18 = .ok (.aload_n 2, 1) := by decide +kernel
theorem dX2_make_19 : decode cX2_make 19 = .ok (.iload 4, 2) := by decide +kernel
theorem dX2_make_21 : decode cX2_make 21 = .ok (.laload, 1) := by decide +kernel
theorem dX2_make_22 : decode cX2_make 22 = .ok (.aload_n 3, 1) := by decide +kernel
theorem dX2_make_23 : decode cX2_make 23 = .ok (.iload 4, 2) := by decide +kernel
theorem dX2_make_25 : decode cX2_make 25 = .ok (.laload, 1) := by decide +kernel
theorem dX2_make_26 : decode cX2_make 26 = .ok (.land, 1) := by decide +kernel
theorem dX2_make_27 : decode cX2_make 27 = .ok (.lastore, 1) := by decide +kernel
theorem dX2_make_28 : decode cX2_make 28 = .ok (.goto 41, 3) := by decide +kernel
theorem dX2_make_31 : decode cX2_make 31 = .ok (.iload_n 1, 1) := by decide +kernel
theorem dX2_make_32 : decode cX2_make 32 = .ok (.iconst 2, 1) := by decide +kernel
theorem dX2_make_33 : decode cX2_make 33 = .ok (.if_icmp .ne 19, 3) := by decide +kernel
theorem dX2_make_36 : decode cX2_make 36 = .ok (.aload_n 0, 1) := by decide +kernel
theorem dX2_make_37 : decode cX2_make 37 = .ok (.iload 4, 2) := by decide +kernel
theorem dX2_make_39 : decode cX2_make 39 = .ok (.aload_n 2, 1) := by decide +kernel
theorem dX2_make_40 : decode cX2_make 40 = .ok (.iload 4, 2) := by decide +kernel
theorem dX2_make_42 : decode cX2_make 42 = .ok (.laload, 1) := by decide +kernel
theorem dX2_make_43 : decode cX2_make 43 = .ok (.aload_n 3, 1) := by decide +kernel
theorem dX2_make_44 : decode cX2_make 44 = .ok (.iload 4, 2) := by decide +kernel
theorem dX2_make_46 : decode cX2_make 46 = .ok (.laload, 1) := by decide +kernel
theorem dX2_make_47 : decode cX2_make 47 = .ok (.lor, 1) := by decide +kernel
theorem dX2_make_48 : decode cX2_make 48 = .ok (.lastore, 1) := by decide +kernel
theorem dX2_make_49 : decode cX2_make 49 = .ok (.goto 20, 3) := by decide +kernel
theorem dX2_make_52 : decode cX2_make 52 = .ok (.aload_n 0, 1) := by decide +kernel
theorem dX2_make_53 : decode cX2_make 53 = .ok (.iload 4, 2) := by decide +kernel
theorem dX2_make_55 : decode cX2_make 55 = .ok (.aload_n 2, 1) := by decide +kernel
theorem dX2_make_56 : decode cX2_make 56 = .ok (.iload 4, 2) := by decide +kernel
theorem dX2_make_58 : decode cX2_make 58 = .ok (.laload, 1) := by decide +kernel
theorem dX2_make_59 : decode cX2_make 59 = .ok (.aload_n 3, 1) := by decide +kernel
theorem dX2_make_60 : decode cX2_make 60 = .ok (.iload 4, 2) := by decide +kernel
theorem dX2_make_62 : decode cX2_make 62 = .ok (.laload, 1) := by decide +kernel
theorem dX2_make_63 : decode cX2_make 63 = .ok (.ldc2_w 60, 3) := by decide +kernel
theorem dX2_make_66 : decode cX2_make 66 = .ok (.lxor, 1) := by decide +kernel
theorem dX2_make_67 : decode cX2_make 67 = .ok (.land, 1) := by decide +kernel
theorem dX2_make_68 : decode cX2_make 68 = .ok (.lastore, 1) := by decide +kernel
theorem dX2_make_69 : decode cX2_make 69 = .ok (.iinc 4 1, 3) := by decide +kernel
theorem dX2_make_72 : decode cX2_make 72 = .ok (.goto (-69), 3) := by decide +kernel
theorem dX2_make_75 : decode cX2_make 75 = .ok (.return_, 1) := by decide +kernel
theorem dX3_init_0 : decode cX3_init 0 = .ok (.aload_n 0, 1) := by decide +kernel
theorem dX3_init_1 : decode cX3_init 1 = .ok (.invokespecial 3, 3) := by decide +kernel
theorem dX3_init_4 : decode cX3_init 4 = .ok (.aload_n 0, 1) := by decide +kernel
theorem dX3_init_5 : decode cX3_init 5 = .ok (.bipush 8, 2) := by decide +kernel
theorem dX3_init_7 : decode cX3_init 7 = .ok (.sipush 4096, 3) := by decide +kernel
theorem dX3_init_10 : decode cX3_init 10 = .ok (.multianewarray 9 2, 4) := by decide +kernel
theorem dX3_init_14 : decode cX3_init 14 = .ok (.putfield 11, 3) := by decide +kernel
theorem dX3_init_17 : decode cX3_init 17 = .ok (.aload_n 0, 1) := by decide +kernel
theorem dX3_init_18 : decode cX3_init 18 = .ok (.iconst 0, 1) := by decide +kernel
theorem dX3_init_19 : decode cX3_init 19 = .ok (.putfield 16, 3) := by decide +kernel
theorem dX3_init_22 : decode cX3_init 22 = .ok (.aload_n 0, 1) := by decide +kernel
theorem dX3_init_23 : decode cX3_init 23 = .ok (.sipush 16384, 3) := by decide +kernel
theorem dX3_init_26 : decode cX3_init 26 = .ok (.newarray .int, 2) := by decide +kernel
theorem dX3_init_28 : decode cX3_init 28 = .ok (.putfield 20, 3) := by decide +kernel
theorem dX3_init_31 : decode cX3_init 31 = .ok (.aload_n 0, 1) := by decide +kernel
theorem dX3_init_32 : decode cX3_init 32 = .ok (.sipush 16384, 3) := by decide +kernel
theorem dX3_init_35 : decode cX3_init 35 = .ok (.newarray .int, 2) := by decide +kernel
theorem dX3_init_37 : decode cX3_init 37 = .ok (.putfield 24, 3) := by decide +kernel
theorem dX3_init_40 : decode cX3_init 40 = .ok (.aload_n 0, 1) := by decide +kernel
theorem dX3_init_41 : decode cX3_init 41 = .ok (.iconst 0, 1) := by decide +kernel
theorem dX3_init_42 : decode cX3_init 42 = .ok (.putfield 27, 3) := by decide +kernel
theorem dX3_init_45 : decode cX3_init 45 = .ok (.aload_n 0, 1) := by decide +kernel
theorem dX3_init_46 : decode cX3_init 46 = .ok (.aload_n 1, 1) := by decide +kernel
theorem dX3_init_47 : decode cX3_init 47 = .ok (.putfield 30, 3) := by decide +kernel
theorem dX3_init_50 : decode cX3_init 50 = .ok (.aload_n 0, 1) := by decide +kernel
theorem dX3_init_51 : decode cX3_init 51 = .ok (.aload_n 2, 1) := by decide +kernel
theorem dX3_init_52 : decode cX3_init 52 = .ok (.putfield 34, 3) := by decide +kernel
theorem dX3_init_55 : decode cX3_init 55 = .ok (.return_, 1) := by decide +kernel
theorem dX3_find_0 : decode cX3_find 0 = .ok (.aload_n 0, 1) := by decide +kernel
theorem dX3_find_1 : decode cX3_find 1 = .ok (.iconst 0, 1) := by decide +kernel
theorem dX3_find_2 : decode cX3_find 2 = .ok (.putfield 27, 3) := by decide +kernel
theorem dX3_find_5 : decode cX3_find 5 = .ok (.iconst 0, 1) := by decide +kernel
theorem dX3_find_6 : decode cX3_find 6 = .ok (.istore_n 2, 1) := by decide +kernel
theorem dX3_find_7 : decode cX3_find 7 = .ok (.iload_n 2, 1) := by decide +kernel
theorem dX3_find_8 : decode cX3_find 8 = .ok (.aload_n 1, 1) := by decide +kernel
theorem dX3_find_9 : decode cX3_find 9 = .ok (.getfield 38, 3) := by decide +kernel
theorem dX3_find_12 : decode cX3_find 12 = .ok (.if_icmp .ge 33, 3) := by decide +kernel
theorem dX3_find_15 : decode cX3_find 15 = .ok (.aload_n 0, 1) := by decide +kernel
theorem dX3_find_16 : decode cX3_find 16 = .ok (.aload_n 0, 1) := by decide +kernel
theorem dX3_find_17 : decode cX3_find 17 = .ok (.getfield 11, 3) := by decide +kernel
theorem dX3_find_20 : decode cX3_find 20 = .ok (.iload_n 2, 1) := by decide +kernel
theorem dX3_find_21 : decode cX3_find 21 = .ok (.aaload, 1) := by decide +kernel
theorem dX3_find_22 : decode cX3_find 22 = .ok (.aload_n 0, 1) := by decide +kernel
theorem dX3_find_23 : decode cX3_find 23 = .ok (.getfield 30, 3) := by decide +kernel
theorem dX3_find_26 : decode cX3_find 26 = .ok (.getfield 43, 3) := by decide +kernel
theorem dX3_find_29 : decode cX3_find 29 = .ok (.aload_n 1, 1) := by decide +kernel
theorem dX3_find_30 : decode cX3_find 30 = .ok (.getfield 49, 3) := by decide +kernel
theorem dX3_find_33 : decode cX3_find 33 = .ok (.iload_n 2, 1) := by decide +kernel
theorem dX3_find_34 : decode cX3_find 34 = .ok (.iaload, 1) := by decide +kernel
theorem dX3_find_35 : decode cX3_find 35 = .ok (.aaload, 1) := by decide +kernel
theorem dX3_find_36 : decode cX3_find 36 = .ok (.invokevirtual 52, 3) := by decide +kernel
theorem dX3_find_39 : decode cX3_find 39 = .ok (.iinc 2 1, 3) := by decide +kernel
theorem dX3_find_42 : decode cX3_find 42 = .ok (.goto (-35), 3) := by decide +kernel
theorem dX3_find_45 : decode cX3_find 45 = .ok (.iconst 0, 1) := by decide +kernel
theorem dX3_find_46 : decode cX3_find 46 = .ok (.istore_n 2, 1) := by decide +kernel
theorem dX3_find_47 : decode cX3_find 47 = .ok (.iload_n 2, 1) := by decide +kernel
theorem dX3_find_48 : decode cX3_find 48 = .ok (.aload_n 1, 1) := by decide +kernel
theorem dX3_find_49 : decode cX3_find 49 = .ok (.getfield 56, 3) := by decide +kernel
theorem dX3_find_52 : decode cX3_find 52 = .ok (.if_icmp .ge 49, 3) := by decide +kernel
theorem dX3_find_55 : decode cX3_find 55 = .ok (.aload_n 0, 1) := by decide +kernel
theorem dX3_find_56 : decode cX3_find 56 = .ok (.aload_n 0, 1) := by decide +kernel
theorem dX3_find_57 : decode cX3_find 57 = .ok (.getfield 11, 3) := by decide +kernel
theorem dX3_find_60 : decode cX3_find 60 = .ok (.aload_n 1, 1) := by decide +kernel
theorem dX3_find_61 : decode cX3_find 61 = .ok (.getfield 59, 3) := by decide +kernel
theorem dX3_find_64 : decode cX3_find 64 = .ok (.iload_n 2, 1) := by decide +kernel
theorem dX3_find_65 : decode cX3_find 65 = .ok (.iaload, 1) := by decide +kernel
theorem dX3_find_66 : decode cX3_find 66 = .ok (.aaload, 1) := by decide +kernel
theorem dX3_find_67 : decode cX3_find 67 = .ok (.aload_n 0, 1) := by decide +kernel
theorem dX3_find_68 : decode cX3_find 68 = .ok (.getfield 11, 3) := by decide +kernel
theorem dX3_find_71 : decode cX3_find 71 = .ok (.aload_n 1, 1) := by decide +kernel
theorem dX3_find_72 : decode cX3_find 72 = .ok (.getfield 62, 3) := by decide +kernel
theorem dX3_find_75 : decode cX3_find 75 = .ok (.iload_n 2, 1) := by decide +kernel
theorem dX3_find_76 : decode cX3_find 76 = .ok (.iaload, 1) := by decide +kernel
theorem dX3_find_77 : decode cX3_find 77 = .ok (.aaload, 1) := by decide +kernel
theorem dX3_find_78 : decode cX3_find 78 = .ok (.aload_n 0, 1) := by decide +kernel
theorem dX3_find_79 : decode cX3_find 79 = .ok (.getfield 30, 3) := by decide +kernel
theorem dX3_find_82 : decode cX3_find 82 = .ok (.getfield 43, 3) := by decide +kernel
theorem dX3_find_85 : decode cX3_find 85 = .ok (.aload_n 1, 1) := by decide +kernel
theorem dX3_find_86 : decode cX3_find 86 = .ok (.getfield 65, 3) := by decide +kernel
theorem dX3_find_89 : decode cX3_find 89 = .ok (.iload_n 2, 1) := by decide +kernel
theorem dX3_find_90 : decode cX3_find 90 = .ok (.iaload, 1) := by decide +kernel
theorem dX3_find_91 : decode cX3_find 91 = .ok (.aaload, 1) := by decide +kernel
theorem dX3_find_92 : decode cX3_find 92 = .ok (.invokevirtual 68, 3) := by decide +kernel
theorem dX3_find_95 : decode cX3_find 95 = .ok (.iinc 2 1, 3) := by decide +kernel
theorem dX3_find_98 : decode cX3_find 98 = .ok (.goto (-51), 3) := by decide +kernel
theorem dX3_find_101 : decode cX3_find 101 = .ok (.aload_n 0, 1) := by decide +kernel
theorem dX3_find_102 : decode cX3_find 102 = .ok (.invokevirtual 72, 3) := by decide +kernel
theorem dX3_find_105 : decode cX3_find 105 = .ok (.return_, 1) := by decide +kernel
theorem dX3_netAt_0 : decode cX3_netAt 0 = .ok (.aload_n 0, 1) := by decide +kernel
theorem dX3_netAt_1 : decode cX3_netAt 1 = .ok (.aload_n 0, 1) := by decide +kernel
theorem dX3_netAt_2 : decode cX3_netAt 2 = .ok (.getfield 11, 3) := by decide +kernel
theorem dX3_netAt_5 : decode cX3_netAt 5 = .ok (.iload_n 1, 1) := by decide +kernel
theorem dX3_netAt_6 : decode cX3_netAt 6 = .ok (.aaload, 1) := by decide +kernel
theorem dX3_netAt_7 : decode cX3_netAt 7 = .ok (.iload_n 2, 1) := by decide +kernel
theorem dX3_netAt_8 : decode cX3_netAt 8 = .ok (.iaload, 1) := by decide +kernel
theorem dX3_netAt_9 : decode cX3_netAt 9 = .ok (.invokevirtual 75, 3) := by decide +kernel
theorem dX3_netAt_12 : decode cX3_netAt 12 = .ok (.ireturn, 1) := by decide +kernel
theorem dX3_netOf_0 : decode cX3_netOf 0 = .ok (.iload_n 1, 1) := by decide +kernel
theorem dX3_netOf_1 : decode cX3_netOf 1 = .ok (.iconst (-1), 1) := by decide +kernel
theorem dX3_netOf_2 : decode cX3_netOf 2 = .ok (.if_icmp .ne 7, 3) := by decide +kernel
theorem dX3_netOf_5 : decode cX3_netOf 5 = .ok (.iconst (-1), 1) := by decide +kernel
theorem dX3_netOf_6 : decode cX3_netOf 6 = .ok (.goto 9, 3) := by decide +kernel
theorem dX3_netOf_9 : decode cX3_netOf 9 = .ok (.aload_n 0, 1) := by decide +kernel
theorem dX3_netOf_10 : decode cX3_netOf 10 = .ok (.getfield 24, 3) := by decide +kernel
theorem dX3_netOf_13 : decode cX3_netOf 13 = .ok (.iload_n 1, 1) := by decide +kernel
theorem dX3_netOf_14 : decode cX3_netOf 14 = .ok (.iaload, 1) := by decide +kernel
theorem dX3_netOf_15 : decode cX3_netOf 15 = .ok (.ireturn, 1) := by decide +kernel
theorem dX3_findNodes_0 : decode cX3_findNodes 0 = .ok (.aload_n 1, 1) := by decide +kernel
theorem dX3_findNodes_1 : decode cX3_findNodes 1 = .ok (.iconst (-1), 1) := by decide +kernel
theorem dX3_findNodes_2 : decode cX3_findNodes 2 = .ok (.invokestatic 79, 3) := by decide +kernel
theorem dX3_findNodes_5 : decode cX3_findNodes 5 = .ok (.aload_n 0, 1) := by decide +kernel
theorem dX3_findNodes_6 : decode cX3_findNodes 6 = .ok (.getfield 34, 3) := by decide +kernel
theorem dX3_findNodes_9 : decode cX3_findNodes 9 = .ok (.aload_n 2, 1) := by decide +kernel
theorem dX3_findNodes_10 : decode cX3_findNodes 10 = .ok (.invokevirtual 85, 3) := by decide +kernel
theorem dX3_findNodes_13 : decode cX3_findNodes 13 = .ok (.iconst 0, 1) := by decide +kernel
theorem dX3_findNodes_14 : decode cX3_findNodes 14 = .ok (.istore_n 3, 1) := by decide +kernel
theorem dX3_findNodes_15 : decode cX3_findNodes 15 = .ok (.iload_n 3, 1) := by decide +kernel
theorem dX3_findNodes_16 : decode cX3_findNodes 16 = .ok (.sipush 2048, 3) := by decide +kernel
theorem dX3_findNodes_19 : decode cX3_findNodes 19 = .ok (.if_icmp .ge 79, 3) := by decide +kernel
theorem dX3_findNodes_22 : decode cX3_findNodes 22 = .ok (.aload_n 0, 1) := by decide +kernel
theorem dX3_findNodes_23 : decode cX3_findNodes 23 = .ok (.getfield 34, 3) := by decide +kernel
theorem dX3_findNodes_26 : decode cX3_findNodes 26 = .ok (.invokevirtual 91, 3) := by decide +kernel
theorem dX3_findNodes_29 : decode cX3_findNodes 29 = .ok (.ifCond .eq 69, 3) := by decide +kernel
theorem dX3_findNodes_32 : decode cX3_findNodes 32 = .ok (.iconst 0, 1) := by decide +kernel
theorem dX3_findNodes_33 : decode cX3_findNodes 33 = .ok (.istore 4, 2) := by decide +kernel
theorem dX3_findNodes_35 : decode cX3_findNodes 35 = .ok (.iload 4, 2) := by decide +kernel
theorem dX3_findNodes_37 : decode cX3_findNodes 37 = .ok (.aload_n 0, 1) := by decide +kernel
theorem dX3_findNodes_38 : decode cX3_findNodes 38 = .ok (.getfield 34, 3) := by decide +kernel
theorem dX3_findNodes_41 : decode cX3_findNodes 41 = .ok (.getfield 95, 3) := by decide +kernel
theorem dX3_findNodes_44 : decode cX3_findNodes 44 = .ok (.if_icmp .ge 25, 3) := by decide +kernel
theorem dX3_findNodes_47 : decode cX3_findNodes 47 = .ok (.aload_n 1, 1) := by decide +kernel
theorem dX3_findNodes_48 : decode cX3_findNodes 48 = .ok (.aload_n 0, 1) := by decide +kernel
theorem dX3_findNodes_49 : decode cX3_findNodes 49 = .ok (.getfield 34, 3) := by decide +kernel
theorem dX3_findNodes_52 : decode cX3_findNodes 52 = .ok (.getfield 98, 3) := by decide +kernel
theorem dX3_findNodes_55 : decode cX3_findNodes 55 = .ok (.iload 4, 2) := by decide +kernel
theorem dX3_findNodes_57 : decode cX3_findNodes 57 = .ok (.iaload, 1) := by decide +kernel
theorem dX3_findNodes_58 : decode cX3_findNodes 58 = .ok (.aload_n 0, 1) := by decide +kernel
theorem dX3_findNodes_59 : decode cX3_findNodes 59 = .ok (.getfield 27, 3) := by decide +kernel
theorem dX3_findNodes_62 : decode cX3_findNodes 62 = .ok (.iastore, 1) := by decide +kernel
theorem dX3_findNodes_63 : decode cX3_findNodes 63 = .ok (.iinc 4 1, 3) := by decide +kernel
theorem dX3_findNodes_66 : decode cX3_findNodes 66 = .ok (.goto (-31), 3) := by decide +kernel
theorem dX3_findNodes_69 : decode cX3_findNodes 69 = .ok (.aload_n 0, 1) := by decide +kernel
theorem dX3_findNodes_70 : decode cX3_findNodes 70 = .ok (.getfield 20, 3) := by decide +kernel
theorem dX3_findNodes_73 : decode cX3_findNodes 73 = .ok (.aload_n 0, 1) := by decide +kernel
theorem dX3_findNodes_74 : decode cX3_findNodes 74 = .ok (.getfield 27, 3) := by decide +kernel
theorem dX3_findNodes_77 : decode cX3_findNodes 77 = .ok (.aload_n 0, 1) := by decide +kernel
theorem dX3_findNodes_78 : decode cX3_findNodes 78 = .ok (.getfield 27, 3) := by decide +kernel
theorem dX3_findNodes_81 : decode cX3_findNodes 81 = .ok (.iastore, 1) := by decide +kernel
theorem dX3_findNodes_82 : decode cX3_findNodes 82 = .ok (.aload_n 0, 1) := by decide +kernel
theorem dX3_findNodes_83 : decode cX3_findNodes 83 = .ok (.dup, 1) := by decide +kernel
theorem dX3_findNodes_84 : decode cX3_findNodes 84 = .ok (.getfield 27, 3) := by decide +kernel
theorem dX3_findNodes_87 : decode cX3_findNodes 87 = .ok (.iconst 1, 1) := by decide +kernel
theorem dX3_findNodes_88 : decode cX3_findNodes 88 = .ok (.iadd, 1) := by decide +kernel
theorem dX3_findNodes_89 : decode cX3_findNodes 89 = .ok (.putfield 27, 3) := by decide +kernel
theorem dX3_findNodes_92 : decode cX3_findNodes 92 = .ok (.iinc 3 1, 3) := by decide +kernel
theorem dX3_findNodes_95 : decode cX3_findNodes 95 = .ok (.goto (-80), 3) := by decide +kernel
theorem dX3_findNodes_98 : decode cX3_findNodes 98 = .ok (.return_, 1) := by decide +kernel
theorem dX3_tie_0 : decode cX3_tie 0 = .ok (.aload_n 0, 1) := by decide +kernel
theorem dX3_tie_1 : decode cX3_tie 1 = .ok (.getfield 34, 3) := by decide +kernel
theorem dX3_tie_4 : decode cX3_tie 4 = .ok (.aload_n 3, 1) := by decide +kernel
theorem dX3_tie_5 : decode cX3_tie 5 = .ok (.invokevirtual 85, 3) := by decide +kernel
theorem dX3_tie_8 : decode cX3_tie 8 = .ok (.iconst 0, 1) := by decide +kernel
theorem dX3_tie_9 : decode cX3_tie 9 = .ok (.istore 4, 2) := by decide +kernel
theorem dX3_tie_11 : decode cX3_tie 11 = .ok (.iload 4, 2) := by decide +kernel
theorem dX3_tie_13 : decode cX3_tie 13 = .ok (.sipush 2048, 3) := by decide +kernel
theorem dX3_tie_16 : decode cX3_tie 16 = .ok (.if_icmp .ge 83, 3) := by decide +kernel
theorem dX3_tie_19 : decode cX3_tie 19 = .ok (.aload_n 0, 1) := by decide +kernel
theorem dX3_tie_20 : decode cX3_tie 20 = .ok (.getfield 34, 3) := by decide +kernel
theorem dX3_tie_23 : decode cX3_tie 23 = .ok (.invokevirtual 91, 3) := by decide +kernel
theorem dX3_tie_26 : decode cX3_tie 26 = .ok (.ifCond .eq 73, 3) := by decide +kernel
theorem dX3_tie_29 : decode cX3_tie 29 = .ok (.iconst (-1), 1) := by decide +kernel
theorem dX3_tie_30 : decode cX3_tie 30 = .ok (.istore 5, 2) := by decide +kernel
theorem dX3_tie_32 : decode cX3_tie 32 = .ok (.iconst 0, 1) := by decide +kernel
theorem dX3_tie_33 : decode cX3_tie 33 = .ok (.istore 6, 2) := by decide +kernel
theorem dX3_tie_35 : decode cX3_tie 35 = .ok (.iload 6, 2) := by decide +kernel
theorem dX3_tie_37 : decode cX3_tie 37 = .ok (.aload_n 0, 1) := by decide +kernel
theorem dX3_tie_38 : decode cX3_tie 38 = .ok (.getfield 34, 3) := by decide +kernel
theorem dX3_tie_41 : decode cX3_tie 41 = .ok (.getfield 95, 3) := by decide +kernel
theorem dX3_tie_44 : decode cX3_tie 44 = .ok (.if_icmp .ge 49, 3) := by decide +kernel
theorem dX3_tie_47 : decode cX3_tie 47 = .ok (.aload_n 0, 1) := by decide +kernel
theorem dX3_tie_48 : decode cX3_tie 48 = .ok (.iload 5, 2) := by decide +kernel
theorem dX3_tie_50 : decode cX3_tie 50 = .ok (.aload_n 1, 1) := by decide +kernel
theorem dX3_tie_51 : decode cX3_tie 51 = .ok (.aload_n 0, 1) := by decide +kernel
theorem dX3_tie_52 : decode cX3_tie 52 = .ok (.getfield 34, 3) := by decide +kernel
theorem dX3_tie_55 : decode cX3_tie 55 = .ok (.getfield 98, 3) := by decide +kernel
theorem dX3_tie_58 : decode cX3_tie 58 = .ok (.iload 6, 2) := by decide +kernel
theorem dX3_tie_60 : decode cX3_tie 60 = .ok (.iaload, 1) := by decide +kernel
theorem dX3_tie_61 : decode cX3_tie 61 = .ok (.iaload, 1) := by decide +kernel
theorem dX3_tie_62 : decode cX3_tie 62 = .ok (.invokevirtual 101, 3) := by decide +kernel
theorem dX3_tie_65 : decode cX3_tie 65 = .ok (.istore 5, 2) := by decide +kernel
theorem dX3_tie_67 : decode cX3_tie 67 = .ok (.aload_n 0, 1) := by decide +kernel
theorem dX3_tie_68 : decode cX3_tie 68 = .ok (.iload 5, 2) := by decide +kernel
theorem dX3_tie_70 : decode cX3_tie 70 = .ok (.aload_n 2, 1) := by decide +kernel
theorem dX3_tie_71 : decode cX3_tie 71 = .ok (.aload_n 0, 1) := by decide +kernel
theorem dX3_tie_72 : decode cX3_tie 72 = .ok (.getfield 34, 3) := by decide +kernel
theorem dX3_tie_75 : decode cX3_tie 75 = .ok (.getfield 98, 3) := by decide +kernel
theorem dX3_tie_78 : decode cX3_tie 78 = .ok (.iload 6, 2) := by decide +kernel
theorem dX3_tie_80 : decode cX3_tie 80 = .ok (.iaload, 1) := by decide +kernel
theorem dX3_tie_81 : decode cX3_tie 81 = .ok (.iaload, 1) := by decide +kernel
theorem dX3_tie_82 : decode cX3_tie 82 = .ok (.invokevirtual 101, 3) := by decide +kernel
theorem dX3_tie_85 : decode cX3_tie 85 = .ok (.istore 5, 2) := by decide +kernel
theorem dX3_tie_87 : decode cX3_tie 87 = .ok (.iinc 6 1, 3) := by decide +kernel
theorem dX3_tie_90 : decode cX3_tie 90 = .ok (.goto (-55), 3) := by decide +kernel
theorem dX3_tie_93 : decode cX3_tie 93 = .ok (.iinc 4 1, 3) := by decide +kernel
theorem dX3_tie_96 : decode cX3_tie 96 = .ok (.goto (-85), 3) := by decide +kernel
theorem dX3_tie_99 : decode cX3_tie 99 = .ok (.return_, 1) := by decide +kernel
theorem dX3_tieNodes_0 : decode cX3_tieNodes 0 = .ok (.iload_n 1, 1) := by decide +kernel
theorem dX3_tieNodes_1 : decode cX3_tieNodes 1 = .ok (.iconst (-1), 1) := by decide +kernel
theorem dX3_tieNodes_2 : decode cX3_tieNodes 2 = .ok (.if_icmp .eq 13, 3) := by decide +kernel
theorem dX3_tieNodes_5 : decode cX3_tieNodes 5 = .ok (.iload_n 2, 1) := by decide +kernel
theorem dX3_tieNodes_6 : decode cX3_tieNodes 6 = .ok (.iconst (-1), 1) := by decide +kernel
theorem dX3_tieNodes_7 : decode cX3_tieNodes 7 = .ok (.if_icmp .eq 8, 3) := by decide +kernel
theorem dX3_tieNodes_10 : decode cX3_tieNodes 10 = .ok (.iload_n 1, 1) := by decide +kernel
theorem dX3_tieNodes_11 : decode cX3_tieNodes 11 = .ok (.iload_n 2, 1) := by decide +kernel
theorem dX3_tieNodes_12 : decode cX3_tieNodes 12 = .ok (.if_icmp .ne 14, 3) := by decide +kernel
theorem dX3_tieNodes_15 : decode cX3_tieNodes 15 = .ok (.iload_n 1, 1) := by decide +kernel
theorem dX3_tieNodes_16 : decode cX3_tieNodes 16 = .ok (.iconst (-1), 1) := by decide +kernel
theorem dX3_tieNodes_17 : decode cX3_tieNodes 17 = .ok (.if_icmp .ne 7, 3) := by decide +kernel
theorem dX3_tieNodes_20 : decode cX3_tieNodes 20 = .ok (.iload_n 2, 1) := by decide +kernel
theorem dX3_tieNodes_21 : decode cX3_tieNodes 21 = .ok (.goto 4, 3) := by decide +kernel
theorem dX3_tieNodes_24 : decode cX3_tieNodes 24 = .ok (.iload_n 1, 1) := by decide +kernel
theorem dX3_tieNodes_25 : decode cX3_tieNodes 25 = .ok (.ireturn, 1) := by decide +kernel
theorem dX3_tieNodes_26 : decode cX3_tieNodes 26 = .ok (.aload_n 0, 1) := by decide +kernel
theorem dX3_tieNodes_27 : decode cX3_tieNodes 27 = .ok (.iload_n 1, 1) := by decide +kernel
theorem dX3_tieNodes_28 : decode cX3_tieNodes 28 = .ok (.invokevirtual 105, 3) := by decide +kernel
theorem dX3_tieNodes_31 : decode cX3_tieNodes 31 = .ok (.istore_n 3, 1) := by decide +kernel
theorem dX3_tieNodes_32 : decode cX3_tieNodes 32 = .ok (.aload_n 0, 1) := by decide +kernel
theorem dX3_tieNodes_33 : decode cX3_tieNodes 33 = .ok (.iload_n 2, 1) := by decide +kernel
theorem dX3_tieNodes_34 : decode cX3_tieNodes 34 = .ok (.invokevirtual 105, 3) := by decide +kernel
theorem dX3_tieNodes_37 : decode cX3_tieNodes 37 = .ok (.istore 4, 2) := by decide +kernel
theorem dX3_tieNodes_39 : decode cX3_tieNodes 39 = .ok (.aload_n 0, 1) := by decide +kernel
theorem dX3_tieNodes_40 : decode cX3_tieNodes 40 = .ok (.getfield 20, 3) := by decide +kernel
theorem dX3_tieNodes_43 : decode cX3_tieNodes 43 = .ok (.iload_n 3, 1) := by decide +kernel
theorem dX3_tieNodes_44 : decode cX3_tieNodes 44 = .ok (.iload 4, 2) := by decide +kernel
theorem dX3_tieNodes_46 : decode cX3_tieNodes 46 = .ok (.invokestatic 108, 3) := by decide +kernel
theorem dX3_tieNodes_49 : decode cX3_tieNodes 49 = .ok (.iload_n 3, 1) := by decide +kernel
theorem dX3_tieNodes_50 : decode cX3_tieNodes 50 = .ok (.iload 4, 2) := by decide +kernel
theorem dX3_tieNodes_52 : decode cX3_tieNodes 52 = .ok (.invokestatic 113, 3) := by decide +kernel
theorem dX3_tieNodes_55 : decode cX3_tieNodes 55 = .ok (.iastore, 1) := by decide +kernel
theorem dX3_tieNodes_56 : decode cX3_tieNodes 56 = .ok (.iload_n 1, 1) := by decide +kernel
theorem dX3_tieNodes_57 : decode cX3_tieNodes 57 = .ok (.ireturn, 1) := by decide +kernel
theorem dX3_leastOf_0 : decode cX3_leastOf 0 = .ok (.iload_n 1, 1) := by decide +kernel
theorem dX3_leastOf_1 : decode cX3_leastOf 1 = .ok (.istore_n 2, 1) := by decide +kernel
theorem dX3_leastOf_2 : decode cX3_leastOf 2 = .ok (.iconst 0, 1) := by decide +kernel
theorem dX3_leastOf_3 : decode cX3_leastOf 3 = .ok (.istore_n 3, 1) := by decide +kernel
theorem dX3_leastOf_4 : decode cX3_leastOf 4 = .ok (.iload_n 3, 1) := by decide +kernel
theorem dX3_leastOf_5 : decode cX3_leastOf 5 = .ok (.aload_n 0, 1) := by decide +kernel
theorem dX3_leastOf_6 : decode cX3_leastOf 6 = .ok (.getfield 27, 3) := by decide +kernel
theorem dX3_leastOf_9 : decode cX3_leastOf 9 = .ok (.if_icmp .ge 43, 3) := by decide +kernel
theorem dX3_leastOf_12 : decode cX3_leastOf 12 = .ok (.aload_n 0, 1) := by decide +kernel
theorem dX3_leastOf_13 : decode cX3_leastOf 13 = .ok (.getfield 20, 3) := by decide +kernel
theorem dX3_leastOf_16 : decode cX3_leastOf 16 = .ok (.iload_n 2, 1) := by decide +kernel
theorem dX3_leastOf_17 : decode cX3_leastOf 17 = .ok (.iaload, 1) := by decide +kernel
theorem dX3_leastOf_18 : decode cX3_leastOf 18 = .ok (.iload_n 2, 1) := by decide +kernel
theorem dX3_leastOf_19 : decode cX3_leastOf 19 = .ok (.if_icmp .eq 33, 3) := by decide +kernel
theorem dX3_leastOf_22 : decode cX3_leastOf 22 = .ok (.aload_n 0, 1) := by decide +kernel
theorem dX3_leastOf_23 : decode cX3_leastOf 23 = .ok (.getfield 20, 3) := by decide +kernel
theorem dX3_leastOf_26 : decode cX3_leastOf 26 = .ok (.iload_n 2, 1) := by decide +kernel
theorem dX3_leastOf_27 : decode cX3_leastOf 27 = .ok (.aload_n 0, 1) := by decide +kernel
theorem dX3_leastOf_28 : decode cX3_leastOf 28 = .ok (.getfield 20, 3) := by decide +kernel
theorem dX3_leastOf_31 : decode cX3_leastOf 31 = .ok (.aload_n 0, 1) := by decide +kernel
theorem dX3_leastOf_32 : decode cX3_leastOf 32 = .ok (.getfield 20, 3) := by decide +kernel
theorem dX3_leastOf_35 : decode cX3_leastOf 35 = .ok (.iload_n 2, 1) := by decide +kernel
theorem dX3_leastOf_36 : decode cX3_leastOf 36 = .ok (.iaload, 1) := by decide +kernel
theorem dX3_leastOf_37 : decode cX3_leastOf 37 = .ok (.iaload, 1) := by decide +kernel
theorem dX3_leastOf_38 : decode cX3_leastOf 38 = .ok (.iastore, 1) := by decide +kernel
theorem dX3_leastOf_39 : decode cX3_leastOf 39 = .ok (.aload_n 0, 1) := by decide +kernel
theorem dX3_leastOf_40 : decode cX3_leastOf 40 = .ok (.getfield 20, 3) := by decide +kernel
theorem dX3_leastOf_43 : decode cX3_leastOf 43 = .ok (.iload_n 2, 1) := by decide +kernel
theorem dX3_leastOf_44 : decode cX3_leastOf 44 = .ok (.iaload, 1) := by decide +kernel
theorem dX3_leastOf_45 : decode cX3_leastOf 45 = .ok (.istore_n 2, 1) := by decide +kernel
theorem dX3_leastOf_46 : decode cX3_leastOf 46 = .ok (.iinc 3 1, 3) := by decide +kernel
theorem dX3_leastOf_49 : decode cX3_leastOf 49 = .ok (.goto (-45), 3) := by decide +kernel
theorem dX3_leastOf_52 : decode cX3_leastOf 52 = .ok (.iload_n 2, 1) := by decide +kernel
theorem dX3_leastOf_53 : decode cX3_leastOf 53 = .ok (.ireturn, 1) := by decide +kernel
theorem dX3_numberNets_0 : decode cX3_numberNets 0 = .ok (.aload_n 0, 1) := by decide +kernel
theorem dX3_numberNets_1 : decode cX3_numberNets 1 = .ok (.iconst 0, 1) := by decide +kernel
theorem dX3_numberNets_2 : decode cX3_numberNets 2 = .ok (.putfield 16, 3) := by decide +kernel
theorem dX3_numberNets_5 : decode cX3_numberNets 5 = .ok (.iconst 0, 1) := by decide +kernel
theorem dX3_numberNets_6 : decode cX3_numberNets 6 = .ok (.istore_n 1, 1) := by decide +kernel
theorem dX3_numberNets_7 : decode cX3_numberNets 7 = .ok (.iload_n 1, 1) := by decide +kernel
theorem dX3_numberNets_8 : decode cX3_numberNets 8 = .ok (.aload_n 0, 1) := by decide +kernel
theorem dX3_numberNets_9 : decode cX3_numberNets 9 = .ok (.getfield 27, 3) := by decide +kernel
theorem dX3_numberNets_12 : decode cX3_numberNets 12 = .ok (.if_icmp .ge 55, 3) := by decide +kernel
theorem dX3_numberNets_15 : decode cX3_numberNets 15 = .ok (.aload_n 0, 1) := by decide +kernel
theorem dX3_numberNets_16 : decode cX3_numberNets 16 = .ok (.iload_n 1, 1) := by decide +kernel
theorem dX3_numberNets_17 : decode cX3_numberNets 17 = .ok (.invokevirtual 105, 3) := by decide +kernel
theorem dX3_numberNets_20 : decode cX3_numberNets 20 = .ok (.istore_n 2, 1) := by decide +kernel
theorem dX3_numberNets_21 : decode cX3_numberNets 21 = .ok (.iload_n 2, 1) := by decide +kernel
theorem dX3_numberNets_22 : decode cX3_numberNets 22 = .ok (.iload_n 1, 1) := by decide +kernel
theorem dX3_numberNets_23 : decode cX3_numberNets 23 = .ok (.if_icmp .ne 26, 3) := by decide +kernel
theorem dX3_numberNets_26 : decode cX3_numberNets 26 = .ok (.aload_n 0, 1) := by decide +kernel
theorem dX3_numberNets_27 : decode cX3_numberNets 27 = .ok (.getfield 24, 3) := by decide +kernel
theorem dX3_numberNets_30 : decode cX3_numberNets 30 = .ok (.iload_n 1, 1) := by decide +kernel
theorem dX3_numberNets_31 : decode cX3_numberNets 31 = .ok (.aload_n 0, 1) := by decide +kernel
theorem dX3_numberNets_32 : decode cX3_numberNets 32 = .ok (.getfield 16, 3) := by decide +kernel
theorem dX3_numberNets_35 : decode cX3_numberNets 35 = .ok (.iastore, 1) := by decide +kernel
theorem dX3_numberNets_36 : decode cX3_numberNets 36 = .ok (.aload_n 0, 1) := by decide +kernel
theorem dX3_numberNets_37 : decode cX3_numberNets 37 = .ok (.dup, 1) := by decide +kernel
theorem dX3_numberNets_38 : decode cX3_numberNets 38 = .ok (.getfield 16, 3) := by decide +kernel
theorem dX3_numberNets_41 : decode cX3_numberNets 41 = .ok (.iconst 1, 1) := by decide +kernel
theorem dX3_numberNets_42 : decode cX3_numberNets 42 = .ok (.iadd, 1) := by decide +kernel
theorem dX3_numberNets_43 : decode cX3_numberNets 43 = .ok (.putfield 16, 3) := by decide +kernel
theorem dX3_numberNets_46 : decode cX3_numberNets 46 = .ok (.goto 15, 3) := by decide +kernel
theorem dX3_numberNets_49 : decode cX3_numberNets 49 = .ok (.aload_n 0, 1) := by decide +kernel
theorem dX3_numberNets_50 : decode cX3_numberNets 50 = .ok (.getfield 24, 3) := by decide +kernel
theorem dX3_numberNets_53 : decode cX3_numberNets 53 = .ok (.iload_n 1, 1) := by decide +kernel
theorem dX3_numberNets_54 : decode cX3_numberNets 54 = .ok (.aload_n 0, 1) := by decide +kernel
theorem dX3_numberNets_55 : decode cX3_numberNets 55 = .ok (.getfield 24, 3) := by decide +kernel
theorem dX3_numberNets_58 : decode cX3_numberNets 58 = .ok (.iload_n 2, 1) := by decide +kernel
theorem dX3_numberNets_59 : decode cX3_numberNets 59 = .ok (.iaload, 1) := by decide +kernel
theorem dX3_numberNets_60 : decode cX3_numberNets 60 = .ok (.iastore, 1) := by decide +kernel
theorem dX3_numberNets_61 : decode cX3_numberNets 61 = .ok (.iinc 1 1, 3) := by decide +kernel
theorem dX3_numberNets_64 : decode cX3_numberNets 64 = .ok (.goto (-57), 3) := by decide +kernel
theorem dX3_numberNets_67 : decode cX3_numberNets 67 = .ok (.return_, 1) := by decide +kernel
theorem dX4_init_0 : decode cX4_init 0 = .ok (.aload_n 0, 1) := by decide +kernel
theorem dX4_init_1 : decode cX4_init 1 = .ok (.invokespecial 3, 3) := by decide +kernel
theorem dX4_init_4 : decode cX4_init 4 = .ok (.aload_n 0, 1) := by decide +kernel
theorem dX4_init_5 : decode cX4_init 5 = .ok (.iconst 0, 1) := by decide +kernel
theorem dX4_init_6 : decode cX4_init 6 = .ok (.putfield 9, 3) := by decide +kernel
theorem dX4_init_9 : decode cX4_init 9 = .ok (.aload_n 0, 1) := by decide +kernel
theorem dX4_init_10 : decode cX4_init 10 = .ok (.bipush 40, 2) := by decide +kernel
theorem dX4_init_12 : decode cX4_init 12 = .ok (.newarray .int, 2) := by decide +kernel
theorem dX4_init_14 : decode cX4_init 14 = .ok (.putfield 15, 3) := by decide +kernel
theorem dX4_init_17 : decode cX4_init 17 = .ok (.aload_n 0, 1) := by decide +kernel
theorem dX4_init_18 : decode cX4_init 18 = .ok (.bipush 40, 2) := by decide +kernel
theorem dX4_init_20 : decode cX4_init 20 = .ok (.newarray .int, 2) := by decide +kernel
theorem dX4_init_22 : decode cX4_init 22 = .ok (.putfield 19, 3) := by decide +kernel
theorem dX4_init_25 : decode cX4_init 25 = .ok (.aload_n 0, 1) := by decide +kernel
theorem dX4_init_26 : decode cX4_init 26 = .ok (.bipush 40, 2) := by decide +kernel
theorem dX4_init_28 : decode cX4_init 28 = .ok (.newarray .int, 2) := by decide +kernel
theorem dX4_init_30 : decode cX4_init 30 = .ok (.putfield 22, 3) := by decide +kernel
theorem dX4_init_33 : decode cX4_init 33 = .ok (.aload_n 0, 1) := by decide +kernel
theorem dX4_init_34 : decode cX4_init 34 = .ok (.bipush 40, 2) := by decide +kernel
theorem dX4_init_36 : decode cX4_init 36 = .ok (.newarray .int, 2) := by decide +kernel
theorem dX4_init_38 : decode cX4_init 38 = .ok (.putfield 25, 3) := by decide +kernel
theorem dX4_init_41 : decode cX4_init 41 = .ok (.return_, 1) := by decide +kernel
theorem dX4_add_0 : decode cX4_add 0 = .ok (.aload_n 0, 1) := by decide +kernel
theorem dX4_add_1 : decode cX4_add 1 = .ok (.getfield 15, 3) := by decide +kernel
theorem dX4_add_4 : decode cX4_add 4 = .ok (.aload_n 0, 1) := by decide +kernel
theorem dX4_add_5 : decode cX4_add 5 = .ok (.getfield 9, 3) := by decide +kernel
theorem dX4_add_8 : decode cX4_add 8 = .ok (.iload_n 1, 1) := by decide +kernel
theorem dX4_add_9 : decode cX4_add 9 = .ok (.iastore, 1) := by decide +kernel
theorem dX4_add_10 : decode cX4_add 10 = .ok (.aload_n 0, 1) := by decide +kernel
theorem dX4_add_11 : decode cX4_add 11 = .ok (.getfield 19, 3) := by decide +kernel
theorem dX4_add_14 : decode cX4_add 14 = .ok (.aload_n 0, 1) := by decide +kernel
theorem dX4_add_15 : decode cX4_add 15 = .ok (.getfield 9, 3) := by decide +kernel
theorem dX4_add_18 : decode cX4_add 18 = .ok (.iload_n 2, 1) := by decide +kernel
theorem dX4_add_19 : decode cX4_add 19 = .ok (.iastore, 1) := by decide +kernel
theorem dX4_add_20 : decode cX4_add 20 = .ok (.aload_n 0, 1) := by decide +kernel
theorem dX4_add_21 : decode cX4_add 21 = .ok (.getfield 22, 3) := by decide +kernel
theorem dX4_add_24 : decode cX4_add 24 = .ok (.aload_n 0, 1) := by decide +kernel
theorem dX4_add_25 : decode cX4_add 25 = .ok (.getfield 9, 3) := by decide +kernel
theorem dX4_add_28 : decode cX4_add 28 = .ok (.iload_n 3, 1) := by decide +kernel
theorem dX4_add_29 : decode cX4_add 29 = .ok (.iastore, 1) := by decide +kernel
theorem dX4_add_30 : decode cX4_add 30 = .ok (.aload_n 0, 1) := by decide +kernel
theorem dX4_add_31 : decode cX4_add 31 = .ok (.dup, 1) := by decide +kernel
theorem dX4_add_32 : decode cX4_add 32 = .ok (.getfield 9, 3) := by decide +kernel
theorem dX4_add_35 : decode cX4_add 35 = .ok (.iconst 1, 1) := by decide +kernel
theorem dX4_add_36 : decode cX4_add 36 = .ok (.iadd, 1) := by decide +kernel
theorem dX4_add_37 : decode cX4_add 37 = .ok (.putfield 9, 3) := by decide +kernel
theorem dX4_add_40 : decode cX4_add 40 = .ok (.return_, 1) := by decide +kernel
theorem dX4_findNets_0 : decode cX4_findNets 0 = .ok (.iconst 0, 1) := by decide +kernel
theorem dX4_findNets_1 : decode cX4_findNets 1 = .ok (.istore_n 3, 1) := by decide +kernel
theorem dX4_findNets_2 : decode cX4_findNets 2 = .ok (.iload_n 3, 1) := by decide +kernel
theorem dX4_findNets_3 : decode cX4_findNets 3 = .ok (.aload_n 0, 1) := by decide +kernel
theorem dX4_findNets_4 : decode cX4_findNets 4 = .ok (.getfield 9, 3) := by decide +kernel
theorem dX4_findNets_7 : decode cX4_findNets 7 = .ok (.if_icmp .ge 60, 3) := by decide +kernel
theorem dX4_findNets_10 : decode cX4_findNets 10 = .ok (.aload_n 0, 1) := by decide +kernel
theorem dX4_findNets_11 : decode cX4_findNets 11 = .ok (.getfield 15, 3) := by decide +kernel
theorem dX4_findNets_14 : decode cX4_findNets 14 = .ok (.iload_n 3, 1) := by decide +kernel
theorem dX4_findNets_15 : decode cX4_findNets 15 = .ok (.iaload, 1) := by decide +kernel
theorem dX4_findNets_16 : decode cX4_findNets 16 = .ok (.aload_n 1, 1) := by decide +kernel
theorem dX4_findNets_17 : decode cX4_findNets 17 = .ok (.getfield 28, 3) := by decide +kernel
theorem dX4_findNets_20 : decode cX4_findNets 20 = .ok (.if_icmp .ge 7, 3) := by decide +kernel
theorem dX4_findNets_23 : decode cX4_findNets 23 = .ok (.iconst 1, 1) := by decide +kernel
theorem dX4_findNets_24 : decode cX4_findNets 24 = .ok (.goto 4, 3) := by decide +kernel
theorem dX4_findNets_27 : decode cX4_findNets 27 = .ok (.iconst 0, 1) := by decide +kernel
theorem dX4_findNets_28 : decode cX4_findNets 28 = .ok (.istore 4, 2) := by decide +kernel
theorem dX4_findNets_30 : decode cX4_findNets 30 = .ok (.aload_n 0, 1) := by decide +kernel
theorem dX4_findNets_31 : decode cX4_findNets 31 = .ok (.getfield 25, 3) := by decide +kernel
theorem dX4_findNets_34 : decode cX4_findNets 34 = .ok (.iload_n 3, 1) := by decide +kernel
theorem dX4_findNets_35 : decode cX4_findNets 35 = .ok (.iload 4, 2) := by decide +kernel
theorem dX4_findNets_37 : decode cX4_findNets 37 = .ok (.ifCond .eq 22, 3) := by decide +kernel
theorem dX4_findNets_40 : decode cX4_findNets 40 = .ok (.aload_n 2, 1) := by decide +kernel
theorem dX4_findNets_41 : decode cX4_findNets 41 = .ok (.aload_n 0, 1) := by decide +kernel
theorem dX4_findNets_42 : decode cX4_findNets 42 = .ok (.getfield 15, 3) := by decide +kernel
theorem dX4_findNets_45 : decode cX4_findNets 45 = .ok (.iload_n 3, 1) := by decide +kernel
theorem dX4_findNets_46 : decode cX4_findNets 46 = .ok (.iaload, 1) := by decide +kernel
theorem dX4_findNets_47 : decode cX4_findNets 47 = .ok (.aload_n 0, 1) := by decide +kernel
theorem dX4_findNets_48 : decode cX4_findNets 48 = .ok (.getfield 19, 3) := by decide +kernel
theorem dX4_findNets_51 : decode cX4_findNets 51 = .ok (.iload_n 3, 1) := by decide +kernel
theorem dX4_findNets_52 : decode cX4_findNets 52 = .ok (.iaload, 1) := by decide +kernel
theorem dX4_findNets_53 : decode cX4_findNets 53 = .ok (.invokevirtual 32, 3) := by decide +kernel
theorem dX4_findNets_56 : decode cX4_findNets 56 = .ok (.goto 4, 3) := by decide +kernel
theorem dX4_findNets_59 : decode cX4_findNets 59 = .ok (.iconst (-1), 1) := by decide +kernel
theorem dX4_findNets_60 : decode cX4_findNets 60 = .ok (.iastore, 1) := by decide +kernel
theorem dX4_findNets_61 : decode cX4_findNets 61 = .ok (.iinc 3 1, 3) := by decide +kernel
theorem dX4_findNets_64 : decode cX4_findNets 64 = .ok (.goto (-62), 3) := by decide +kernel
theorem dX4_findNets_67 : decode cX4_findNets 67 = .ok (.return_, 1) := by decide +kernel
theorem dX4_leastName_0 : decode cX4_leastName 0 = .ok (.iconst (-1), 1) := by decide +kernel
theorem dX4_leastName_1 : decode cX4_leastName 1 = .ok (.istore_n 2, 1) := by decide +kernel
theorem dX4_leastName_2 : decode cX4_leastName 2 = .ok (.iconst 0, 1) := by decide +kernel
theorem dX4_leastName_3 : decode cX4_leastName 3 = .ok (.istore_n 3, 1) := by decide +kernel
theorem dX4_leastName_4 : decode cX4_leastName 4 = .ok (.iload_n 3, 1) := by decide +kernel
theorem dX4_leastName_5 : decode cX4_leastName 5 = .ok (.aload_n 0, 1) := by decide +kernel
theorem dX4_leastName_6 : decode cX4_leastName 6 = .ok (.getfield 9, 3) := by decide +kernel
theorem dX4_leastName_9 : decode cX4_leastName 9 = .ok (.if_icmp .ge 41, 3) := by decide +kernel
theorem dX4_leastName_12 : decode cX4_leastName 12 = .ok (.aload_n 0, 1) := by decide +kernel
theorem dX4_leastName_13 : decode cX4_leastName 13 = .ok (.getfield 25, 3) := by decide +kernel
theorem dX4_leastName_16 : decode cX4_leastName 16 = .ok (.iload_n 3, 1) := by decide +kernel
theorem dX4_leastName_17 : decode cX4_leastName 17 = .ok (.iaload, 1) := by decide +kernel
theorem dX4_leastName_18 : decode cX4_leastName 18 = .ok (.iload_n 1, 1) := by decide +kernel
theorem dX4_leastName_19 : decode cX4_leastName 19 = .ok (.if_icmp .ne 25, 3) := by decide +kernel
theorem dX4_leastName_22 : decode cX4_leastName 22 = .ok (.iload_n 2, 1) := by decide +kernel
theorem dX4_leastName_23 : decode cX4_leastName 23 = .ok (.iconst (-1), 1) := by decide +kernel
theorem dX4_leastName_24 : decode cX4_leastName 24 = .ok (.if_icmp .eq 13, 3) := by decide +kernel
theorem dX4_leastName_27 : decode cX4_leastName 27 = .ok (.aload_n 0, 1) := by decide +kernel
theorem dX4_leastName_28 : decode cX4_leastName 28 = .ok (.getfield 22, 3) := by decide +kernel
theorem dX4_leastName_31 : decode cX4_leastName 31 = .ok (.iload_n 3, 1) := by decide +kernel
theorem dX4_leastName_32 : decode cX4_leastName 32 = .ok (.iaload, 1) := by decide +kernel
theorem dX4_leastName_33 : decode cX4_leastName 33 = .ok (.iload_n 2, 1) := by decide +kernel
theorem dX4_leastName_34 : decode cX4_leastName 34 = .ok (.if_icmp .ge 10, 3) := by decide +kernel
theorem dX4_leastName_37 : decode cX4_leastName 37 = .ok (.aload_n 0, 1) := by decide +kernel
theorem dX4_leastName_38 : decode cX4_leastName 38 = .ok (.getfield 22, 3) := by decide +kernel
theorem dX4_leastName_41 : decode cX4_leastName 41 = .ok (.iload_n 3, 1) := by decide +kernel
theorem dX4_leastName_42 : decode cX4_leastName 42 = .ok (.iaload, 1) := by decide +kernel
theorem dX4_leastName_43 : decode cX4_leastName 43 = .ok (.istore_n 2, 1) := by decide +kernel
theorem dX4_leastName_44 : decode cX4_leastName 44 = .ok (.iinc 3 1, 3) := by decide +kernel
theorem dX4_leastName_47 : decode cX4_leastName 47 = .ok (.goto (-43), 3) := by decide +kernel
theorem dX4_leastName_50 : decode cX4_leastName 50 = .ok (.iload_n 2, 1) := by decide +kernel
theorem dX4_leastName_51 : decode cX4_leastName 51 = .ok (.ireturn, 1) := by decide +kernel
theorem dX4_twiceNamed_0 : decode cX4_twiceNamed 0 = .ok (.iload_n 1, 1) := by decide +kernel
theorem dX4_twiceNamed_1 : decode cX4_twiceNamed 1 = .ok (.bipush 40, 2) := by decide +kernel
theorem dX4_twiceNamed_3 : decode cX4_twiceNamed 3 = .ok (.if_icmp .lt 5, 3) := by decide +kernel
theorem dX4_twiceNamed_6 : decode cX4_twiceNamed 6 = .ok (.iconst (-1), 1) := by decide +kernel
theorem dX4_twiceNamed_7 : decode cX4_twiceNamed 7 = .ok (.ireturn, 1) := by decide +kernel
theorem dX4_twiceNamed_8 : decode cX4_twiceNamed 8 = .ok (.aload_n 0, 1) := by decide +kernel
theorem dX4_twiceNamed_9 : decode cX4_twiceNamed 9 = .ok (.iconst (-1), 1) := by decide +kernel
theorem dX4_twiceNamed_10 : decode cX4_twiceNamed 10 = .ok (.invokevirtual 38, 3) := by decide +kernel
theorem dX4_twiceNamed_13 : decode cX4_twiceNamed 13 = .ok (.istore_n 2, 1) := by decide +kernel
theorem dX4_twiceNamed_14 : decode cX4_twiceNamed 14 = .ok (.iconst 0, 1) := by decide +kernel
theorem dX4_twiceNamed_15 : decode cX4_twiceNamed 15 = .ok (.istore_n 3, 1) := by decide +kernel
theorem dX4_twiceNamed_16 : decode cX4_twiceNamed 16 = .ok (.iload_n 3, 1) := by decide +kernel
theorem dX4_twiceNamed_17 : decode cX4_twiceNamed 17 = .ok (.iload_n 1, 1) := by decide +kernel
theorem dX4_twiceNamed_18 : decode cX4_twiceNamed 18 = .ok (.if_icmp .ge 20, 3) := by decide +kernel
theorem dX4_twiceNamed_21 : decode cX4_twiceNamed 21 = .ok (.iload_n 2, 1) := by decide +kernel
theorem dX4_twiceNamed_22 : decode cX4_twiceNamed 22 = .ok (.iconst (-1), 1) := by decide +kernel
theorem dX4_twiceNamed_23 : decode cX4_twiceNamed 23 = .ok (.if_icmp .eq 15, 3) := by decide +kernel
theorem dX4_twiceNamed_26 : decode cX4_twiceNamed 26 = .ok (.aload_n 0, 1) := by decide +kernel
theorem dX4_twiceNamed_27 : decode cX4_twiceNamed 27 = .ok (.iload_n 2, 1) := by decide +kernel
theorem dX4_twiceNamed_28 : decode cX4_twiceNamed 28 = .ok (.invokevirtual 38, 3) := by decide +kernel
theorem dX4_twiceNamed_31 : decode cX4_twiceNamed 31 = .ok (.istore_n 2, 1) := by decide +kernel
theorem dX4_twiceNamed_32 : decode cX4_twiceNamed 32 = .ok (.iinc 3 1, 3) := by decide +kernel
theorem dX4_twiceNamed_35 : decode cX4_twiceNamed 35 = .ok (.goto (-19), 3) := by decide +kernel
theorem dX4_twiceNamed_38 : decode cX4_twiceNamed 38 = .ok (.iload_n 2, 1) := by decide +kernel
theorem dX4_twiceNamed_39 : decode cX4_twiceNamed 39 = .ok (.ireturn, 1) := by decide +kernel
theorem dX4_nextTwice_0 : decode cX4_nextTwice 0 = .ok (.iconst (-1), 1) := by decide +kernel
theorem dX4_nextTwice_1 : decode cX4_nextTwice 1 = .ok (.istore_n 2, 1) := by decide +kernel
theorem dX4_nextTwice_2 : decode cX4_nextTwice 2 = .ok (.iconst 0, 1) := by decide +kernel
theorem dX4_nextTwice_3 : decode cX4_nextTwice 3 = .ok (.istore_n 3, 1) := by decide +kernel
theorem dX4_nextTwice_4 : decode cX4_nextTwice 4 = .ok (.iload_n 3, 1) := by decide +kernel
theorem dX4_nextTwice_5 : decode cX4_nextTwice 5 = .ok (.aload_n 0, 1) := by decide +kernel
theorem dX4_nextTwice_6 : decode cX4_nextTwice 6 = .ok (.getfield 9, 3) := by decide +kernel
theorem dX4_nextTwice_9 : decode cX4_nextTwice 9 = .ok (.if_icmp .ge 45, 3) := by decide +kernel
theorem dX4_nextTwice_12 : decode cX4_nextTwice 12 = .ok (.aload_n 0, 1) := by decide +kernel
theorem dX4_nextTwice_13 : decode cX4_nextTwice 13 = .ok (.getfield 25, 3) := by decide +kernel
theorem dX4_nextTwice_16 : decode cX4_nextTwice 16 = .ok (.iload_n 3, 1) := by decide +kernel
theorem dX4_nextTwice_17 : decode cX4_nextTwice 17 = .ok (.iaload, 1) := by decide +kernel
theorem dX4_nextTwice_18 : decode cX4_nextTwice 18 = .ok (.istore 4, 2) := by decide +kernel
theorem dX4_nextTwice_20 : decode cX4_nextTwice 20 = .ok (.iload 4, 2) := by decide +kernel
theorem dX4_nextTwice_22 : decode cX4_nextTwice 22 = .ok (.iload_n 1, 1) := by decide +kernel
theorem dX4_nextTwice_23 : decode cX4_nextTwice 23 = .ok (.if_icmp .le 25, 3) := by decide +kernel
theorem dX4_nextTwice_26 : decode cX4_nextTwice 26 = .ok (.iload_n 2, 1) := by decide +kernel
theorem dX4_nextTwice_27 : decode cX4_nextTwice 27 = .ok (.iconst (-1), 1) := by decide +kernel
theorem dX4_nextTwice_28 : decode cX4_nextTwice 28 = .ok (.if_icmp .eq 9, 3) := by decide +kernel
theorem dX4_nextTwice_31 : decode cX4_nextTwice 31 = .ok (.iload 4, 2) := by decide +kernel
theorem dX4_nextTwice_33 : decode cX4_nextTwice 33 = .ok (.iload_n 2, 1) := by decide +kernel
theorem dX4_nextTwice_34 : decode cX4_nextTwice 34 = .ok (.if_icmp .ge 14, 3) := by decide +kernel
theorem dX4_nextTwice_37 : decode cX4_nextTwice 37 = .ok (.aload_n 0, 1) := by decide +kernel
theorem dX4_nextTwice_38 : decode cX4_nextTwice 38 = .ok (.iload_n 3, 1) := by decide +kernel
theorem dX4_nextTwice_39 : decode cX4_nextTwice 39 = .ok (.invokevirtual 42, 3) := by decide +kernel
theorem dX4_nextTwice_42 : decode cX4_nextTwice 42 = .ok (.ifCond .eq 6, 3) := by decide +kernel
theorem dX4_nextTwice_45 : decode cX4_nextTwice 45 = .ok (.iload 4, 2) := by decide +kernel
theorem dX4_nextTwice_47 : decode cX4_nextTwice 47 = .ok (.istore_n 2, 1) := by decide +kernel
theorem dX4_nextTwice_48 : decode cX4_nextTwice 48 = .ok (.iinc 3 1, 3) := by decide +kernel
theorem dX4_nextTwice_51 : decode cX4_nextTwice 51 = .ok (.goto (-47), 3) := by decide +kernel
theorem dX4_nextTwice_54 : decode cX4_nextTwice 54 = .ok (.iload_n 2, 1) := by decide +kernel
theorem dX4_nextTwice_55 : decode cX4_nextTwice 55 = .ok (.ireturn, 1) := by decide +kernel
theorem dX4_isTwice_0 : decode cX4_isTwice 0 = .ok (.iconst 0, 1) := by decide +kernel
theorem dX4_isTwice_1 : decode cX4_isTwice 1 = .ok (.istore_n 2, 1) := by decide +kernel
theorem dX4_isTwice_2 : decode cX4_isTwice 2 = .ok (.iload_n 2, 1) := by decide +kernel
theorem dX4_isTwice_3 : decode cX4_isTwice 3 = .ok (.aload_n 0, 1) := by decide +kernel
theorem dX4_isTwice_4 : decode cX4_isTwice 4 = .ok (.getfield 9, 3) := by decide +kernel
theorem dX4_isTwice_7 : decode cX4_isTwice 7 = .ok (.if_icmp .ge 41, 3) := by decide +kernel
theorem dX4_isTwice_10 : decode cX4_isTwice 10 = .ok (.aload_n 0, 1) := by decide +kernel
theorem dX4_isTwice_11 : decode cX4_isTwice 11 = .ok (.getfield 25, 3) := by decide +kernel
theorem dX4_isTwice_14 : decode cX4_isTwice 14 = .ok (.iload_n 2, 1) := by decide +kernel
theorem dX4_isTwice_15 : decode cX4_isTwice 15 = .ok (.iaload, 1) := by decide +kernel
theorem dX4_isTwice_16 : decode cX4_isTwice 16 = .ok (.aload_n 0, 1) := by decide +kernel
theorem dX4_isTwice_17 : decode cX4_isTwice 17 = .ok (.getfield 25, 3) := by decide +kernel
theorem dX4_isTwice_20 : decode cX4_isTwice 20 = .ok (.iload_n 1, 1) := by decide +kernel
theorem dX4_isTwice_21 : decode cX4_isTwice 21 = .ok (.iaload, 1) := by decide +kernel
theorem dX4_isTwice_22 : decode cX4_isTwice 22 = .ok (.if_icmp .ne 20, 3) := by decide +kernel
theorem dX4_isTwice_25 : decode cX4_isTwice 25 = .ok (.aload_n 0, 1) := by decide +kernel
theorem dX4_isTwice_26 : decode cX4_isTwice 26 = .ok (.getfield 22, 3) := by decide +kernel
theorem dX4_isTwice_29 : decode cX4_isTwice 29 = .ok (.iload_n 2, 1) := by decide +kernel
theorem dX4_isTwice_30 : decode cX4_isTwice 30 = .ok (.iaload, 1) := by decide +kernel
theorem dX4_isTwice_31 : decode cX4_isTwice 31 = .ok (.aload_n 0, 1) := by decide +kernel
theorem dX4_isTwice_32 : decode cX4_isTwice 32 = .ok (.getfield 22, 3) := by decide +kernel
theorem dX4_isTwice_35 : decode cX4_isTwice 35 = .ok (.iload_n 1, 1) := by decide +kernel
theorem dX4_isTwice_36 : decode cX4_isTwice 36 = .ok (.iaload, 1) := by decide +kernel
theorem dX4_isTwice_37 : decode cX4_isTwice 37 = .ok (.if_icmp .eq 5, 3) := by decide +kernel
theorem dX4_isTwice_40 : decode cX4_isTwice 40 = .ok (.iconst 1, 1) := by decide +kernel
theorem dX4_isTwice_41 : decode cX4_isTwice 41 = .ok (.ireturn, 1) := by decide +kernel
theorem dX4_isTwice_42 : decode cX4_isTwice 42 = .ok (.iinc 2 1, 3) := by decide +kernel
theorem dX4_isTwice_45 : decode cX4_isTwice 45 = .ok (.goto (-43), 3) := by decide +kernel
theorem dX4_isTwice_48 : decode cX4_isTwice 48 = .ok (.iconst 0, 1) := by decide +kernel
theorem dX4_isTwice_49 : decode cX4_isTwice 49 = .ok (.ireturn, 1) := by decide +kernel
