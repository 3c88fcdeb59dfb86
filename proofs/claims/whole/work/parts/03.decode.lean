theorem dJ0_length_8abf5_0 : decode cJ0_length_8abf5 0 = .ok (.aload_n 0, 1) := by decide +kernel
theorem dJ0_length_8abf5_1 : decode cJ0_length_8abf5 1 = .ok (.getfield 9, 3) := by decide +kernel
theorem dJ0_length_8abf5_4 : decode cJ0_length_8abf5 4 = .ok (.arraylength, 1) := by decide +kernel
theorem dJ0_length_8abf5_5 : decode cJ0_length_8abf5 5 = .ok (.aload_n 0, 1) := by decide +kernel
theorem dJ0_length_8abf5_6 : decode cJ0_length_8abf5 6 = .ok (.invokevirtual 335, 3) := by decide +kernel
theorem dJ0_length_8abf5_9 : decode cJ0_length_8abf5 9 = .ok (.ishr, 1) := by decide +kernel
theorem dJ0_length_8abf5_10 : decode cJ0_length_8abf5 10 = .ok (.ireturn, 1) := by decide +kernel
theorem dJ0_charAt_5068e_0 : decode cJ0_charAt_5068e 0 = .ok (.aload_n 0, 1) := by decide +kernel
theorem dJ0_charAt_5068e_1 : decode cJ0_charAt_5068e 1 = .ok (.invokevirtual 492, 3) := by decide +kernel
theorem dJ0_charAt_5068e_4 : decode cJ0_charAt_5068e 4 = .ok (.ifCond .eq 12, 3) := by decide +kernel
theorem dJ0_charAt_5068e_7 : decode cJ0_charAt_5068e 7 = .ok (.aload_n 0, 1) := by decide +kernel
theorem dJ0_charAt_5068e_8 : decode cJ0_charAt_5068e 8 = .ok (.getfield 9, 3) := by decide +kernel
theorem dJ0_charAt_5068e_11 : decode cJ0_charAt_5068e 11 = .ok (.iload_n 1, 1) := by decide +kernel
theorem dJ0_charAt_5068e_12 : decode cJ0_charAt_5068e 12 = .ok (.invokestatic 495, 3) := by decide +kernel
theorem dJ0_charAt_5068e_15 : decode cJ0_charAt_5068e 15 = .ok (.ireturn, 1) := by decide +kernel
theorem dJ0_charAt_5068e_16 : decode cJ0_charAt_5068e 16 = .ok (.aload_n 0, 1) := by decide +kernel
theorem dJ0_charAt_5068e_17 : decode cJ0_charAt_5068e 17 = .ok (.getfield 9, 3) := by decide +kernel
theorem dJ0_charAt_5068e_20 : decode cJ0_charAt_5068e 20 = .ok (.iload_n 1, 1) := by decide +kernel
theorem dJ0_charAt_5068e_21 : decode cJ0_charAt_5068e 21 = .ok (.invokestatic 498, 3) := by decide +kernel
theorem dJ0_charAt_5068e_24 : decode cJ0_charAt_5068e 24 = .ok (.ireturn, 1) := by decide +kernel
theorem dJ0_coder_7d493_0 : decode cJ0_coder_7d493 0 = .ok (.getstatic 38, 3) := by decide +kernel
theorem dJ0_coder_7d493_3 : decode cJ0_coder_7d493 3 = .ok (.ifCond .eq 10, 3) := by decide +kernel
theorem dJ0_coder_7d493_6 : decode cJ0_coder_7d493 6 = .ok (.aload_n 0, 1) := by decide +kernel
theorem dJ0_coder_7d493_7 : decode cJ0_coder_7d493 7 = .ok (.getfield 15, 3) := by decide +kernel
theorem dJ0_coder_7d493_10 : decode cJ0_coder_7d493 10 = .ok (.goto 4, 3) := by decide +kernel
theorem dJ0_coder_7d493_13 : decode cJ0_coder_7d493 13 = .ok (.iconst 1, 1) := by decide +kernel
theorem dJ0_coder_7d493_14 : decode cJ0_coder_7d493 14 = .ok (.ireturn, 1) := by decide +kernel
theorem dJ0_isLatin1_aae02_0 : decode cJ0_isLatin1_aae02 0 = .ok (.getstatic 38, 3) := by decide +kernel
theorem dJ0_isLatin1_aae02_3 : decode cJ0_isLatin1_aae02 3 = .ok (.ifCond .eq 14, 3) := by decide +kernel
theorem dJ0_isLatin1_aae02_6 : decode cJ0_isLatin1_aae02 6 = .ok (.aload_n 0, 1) := by decide +kernel
theorem dJ0_isLatin1_aae02_7 : decode cJ0_isLatin1_aae02 7 = .ok (.getfield 15, 3) := by decide +kernel
theorem dJ0_isLatin1_aae02_10 : decode cJ0_isLatin1_aae02 10 = .ok (.ifCond .ne 7, 3) := by decide +kernel
theorem dJ0_isLatin1_aae02_13 : decode cJ0_isLatin1_aae02 13 = .ok (.iconst 1, 1) := by decide +kernel
theorem dJ0_isLatin1_aae02_14 : decode cJ0_isLatin1_aae02 14 = .ok (.goto 4, 3) := by decide +kernel
theorem dJ0_isLatin1_aae02_17 : decode cJ0_isLatin1_aae02 17 = .ok (.iconst 0, 1) := by decide +kernel
theorem dJ0_isLatin1_aae02_18 : decode cJ0_isLatin1_aae02 18 = .ok (.ireturn, 1) := by decide +kernel
theorem dJ0_checkIndex_df160_0 : decode cJ0_checkIndex_df160 0 = .ok (.iload_n 0, 1) := by decide +kernel
theorem dJ0_checkIndex_df160_1 : decode cJ0_checkIndex_df160 1 = .ok (.iload_n 1, 1) := by decide +kernel
theorem dJ0_checkIndex_df160_2 : decode cJ0_checkIndex_df160 2 = .ok (.getstatic 1053, 3) := by decide +kernel
theorem dJ0_checkIndex_df160_5 : decode cJ0_checkIndex_df160 5 = .ok (.invokestatic 1059, 3) := by decide +kernel
theorem dJ0_checkIndex_df160_8 : decode cJ0_checkIndex_df160 8 = .ok (.pop, 1) := by decide +kernel
theorem dJ0_checkIndex_df160_9 : decode cJ0_checkIndex_df160 9 = .ok (.return_, 1) := by decide +kernel
theorem dJ1_charAt_3b067_0 : decode cJ1_charAt_3b067 0 = .ok (.iload_n 1, 1) := by decide +kernel
theorem dJ1_charAt_3b067_1 : decode cJ1_charAt_3b067 1 = .ok (.aload_n 0, 1) := by decide +kernel
theorem dJ1_charAt_3b067_2 : decode cJ1_charAt_3b067 2 = .ok (.arraylength, 1) := by decide +kernel
theorem dJ1_charAt_3b067_3 : decode cJ1_charAt_3b067 3 = .ok (.invokestatic 9, 3) := by decide +kernel
theorem dJ1_charAt_3b067_6 : decode cJ1_charAt_3b067 6 = .ok (.aload_n 0, 1) := by decide +kernel
theorem dJ1_charAt_3b067_7 : decode cJ1_charAt_3b067 7 = .ok (.iload_n 1, 1) := by decide +kernel
theorem dJ1_charAt_3b067_8 : decode cJ1_charAt_3b067 8 = .ok (.baload, 1) := by decide +kernel
theorem dJ1_charAt_3b067_9 : decode cJ1_charAt_3b067 9 = .ok (.sipush 255, 3) := by decide +kernel
theorem dJ1_charAt_3b067_12 : decode cJ1_charAt_3b067 12 = .ok (.iand, 1) := by decide +kernel
theorem dJ1_charAt_3b067_13 : decode cJ1_charAt_3b067 13 = .ok (.i2c, 1) := by decide +kernel
theorem dJ1_charAt_3b067_14 : decode cJ1_charAt_3b067 14 = .ok (.ireturn, 1) := by decide +kernel
theorem dJ2_getChar_3b067_0 : decode cJ2_getChar_3b067 0 = .ok (.getstatic 44, 3) := by decide +kernel
theorem dJ2_getChar_3b067_3 : decode cJ2_getChar_3b067 3 = .ok (.ifCond .ne 25, 3) := by decide +kernel
theorem dJ2_getChar_3b067_6 : decode cJ2_getChar_3b067 6 = .ok (.iload_n 1, 1) := by decide +kernel
theorem dJ2_getChar_3b067_7 : decode cJ2_getChar_3b067 7 = .ok (.ifCond .lt 11, 3) := by decide +kernel
theorem dJ2_getChar_3b067_10 : decode cJ2_getChar_3b067 10 = .ok (.iload_n 1, 1) := by decide +kernel
theorem dJ2_getChar_3b067_11 : decode cJ2_getChar_3b067 11 = .ok (.aload_n 0, 1) := by decide +kernel
theorem dJ2_getChar_3b067_12 : decode cJ2_getChar_3b067 12 = .ok (.invokestatic 48, 3) := by decide +kernel
theorem dJ2_getChar_3b067_15 : decode cJ2_getChar_3b067 15 = .ok (.if_icmp .lt 13, 3) := by decide +kernel
theorem dJ2_getChar_3b067_18 : decode cJ2_getChar_3b067 18 = .ok (.new 52, 3) := by decide +kernel
theorem dJ2_getChar_3b067_21 : decode cJ2_getChar_3b067 21 = .ok (.dup, 1) := by decide +kernel
theorem dJ2_getChar_3b067_22 : decode cJ2_getChar_3b067 22 = .ok (.ldc 54, 2) := by decide +kernel
theorem dJ2_getChar_3b067_24 : decode cJ2_getChar_3b067 24 = .ok (.invokespecial 56, 3) := by decide +kernel
theorem dJ2_getChar_3b067_27 : decode cJ2_getChar_3b067 27 = .ok (.athrow, 1) := by decide +kernel
theorem dJ2_getChar_3b067_28 : decode cJ2_getChar_3b067 28 = .ok (.iload_n 1, 1) := by decide +kernel
theorem dJ2_getChar_3b067_29 : decode cJ2_getChar_3b067 29 = .ok (.iconst 1, 1) := by decide +kernel
theorem dJ2_getChar_3b067_30 : decode cJ2_getChar_3b067 30 = .ok (.ishl, 1) := by decide +kernel
theorem dJ2_getChar_3b067_31 : decode cJ2_getChar_3b067 31 = .ok (.istore_n 1, 1) := by decide +kernel
theorem dJ2_getChar_3b067_32 : decode cJ2_getChar_3b067 32 = .ok (.aload_n 0, 1) := by decide +kernel
theorem dJ2_getChar_3b067_33 : decode cJ2_getChar_3b067 33 = .ok (.iload_n 1, 1) := by decide +kernel
theorem dJ2_getChar_3b067_34 : decode cJ2_getChar_3b067 34 = .ok (.iinc 1 1, 3) := by decide +kernel
theorem dJ2_getChar_3b067_37 : decode cJ2_getChar_3b067 37 = .ok (.baload, 1) := by decide +kernel
theorem dJ2_getChar_3b067_38 : decode cJ2_getChar_3b067 38 = .ok (.sipush 255, 3) := by decide +kernel
theorem dJ2_getChar_3b067_41 : decode cJ2_getChar_3b067 41 = .ok (.iand, 1) := by decide +kernel
theorem dJ2_getChar_3b067_42 : decode cJ2_getChar_3b067 42 = .ok (.getstatic 59, 3) := by decide +kernel
theorem dJ2_getChar_3b067_45 : decode cJ2_getChar_3b067 45 = .ok (.ishl, 1) := by decide +kernel
theorem dJ2_getChar_3b067_46 : decode cJ2_getChar_3b067 46 = .ok (.aload_n 0, 1) := by decide +kernel
theorem dJ2_getChar_3b067_47 : decode cJ2_getChar_3b067 47 = .ok (.iload_n 1, 1) := by decide +kernel
theorem dJ2_getChar_3b067_48 : decode cJ2_getChar_3b067 48 = .ok (.baload, 1) := by decide +kernel
theorem dJ2_getChar_3b067_49 : decode cJ2_getChar_3b067 49 = .ok (.sipush 255, 3) := by decide +kernel
theorem dJ2_getChar_3b067_52 : decode cJ2_getChar_3b067 52 = .ok (.iand, 1) := by decide +kernel
theorem dJ2_getChar_3b067_53 : decode cJ2_getChar_3b067 53 = .ok (.getstatic 63, 3) := by decide +kernel
theorem dJ2_getChar_3b067_56 : decode cJ2_getChar_3b067 56 = .ok (.ishl, 1) := by decide +kernel
theorem dJ2_getChar_3b067_57 : decode cJ2_getChar_3b067 57 = .ok (.ior, 1) := by decide +kernel
theorem dJ2_getChar_3b067_58 : decode cJ2_getChar_3b067 58 = .ok (.i2c, 1) := by decide +kernel
theorem dJ2_getChar_3b067_59 : decode cJ2_getChar_3b067 59 = .ok (.ireturn, 1) := by decide +kernel
theorem dJ2_length_9d52b_0 : decode cJ2_length_9d52b 0 = .ok (.aload_n 0, 1) := by decide +kernel
theorem dJ2_length_9d52b_1 : decode cJ2_length_9d52b 1 = .ok (.arraylength, 1) := by decide +kernel
theorem dJ2_length_9d52b_2 : decode cJ2_length_9d52b 2 = .ok (.iconst 1, 1) := by decide +kernel
theorem dJ2_length_9d52b_3 : decode cJ2_length_9d52b 3 = .ok (.ishr, 1) := by decide +kernel
theorem dJ2_length_9d52b_4 : decode cJ2_length_9d52b 4 = .ok (.ireturn, 1) := by decide +kernel
theorem dJ2_charAt_3b067_0 : decode cJ2_charAt_3b067 0 = .ok (.iload_n 1, 1) := by decide +kernel
theorem dJ2_charAt_3b067_1 : decode cJ2_charAt_3b067 1 = .ok (.aload_n 0, 1) := by decide +kernel
theorem dJ2_charAt_3b067_2 : decode cJ2_charAt_3b067 2 = .ok (.invokestatic 67, 3) := by decide +kernel
theorem dJ2_charAt_3b067_5 : decode cJ2_charAt_3b067 5 = .ok (.aload_n 0, 1) := by decide +kernel
theorem dJ2_charAt_3b067_6 : decode cJ2_charAt_3b067 6 = .ok (.iload_n 1, 1) := by decide +kernel
theorem dJ2_charAt_3b067_7 : decode cJ2_charAt_3b067 7 = .ok (.invokestatic 71, 3) := by decide +kernel
theorem dJ2_charAt_3b067_10 : decode cJ2_charAt_3b067 10 = .ok (.ireturn, 1) := by decide +kernel
theorem dJ2_checkIndex_2214a_0 : decode cJ2_checkIndex_2214a 0 = .ok (.iload_n 0, 1) := by decide +kernel
theorem dJ2_checkIndex_2214a_1 : decode cJ2_checkIndex_2214a 1 = .ok (.aload_n 1, 1) := by decide +kernel
theorem dJ2_checkIndex_2214a_2 : decode cJ2_checkIndex_2214a 2 = .ok (.invokestatic 48, 3) := by decide +kernel
theorem dJ2_checkIndex_2214a_5 : decode cJ2_checkIndex_2214a 5 = .ok (.invokestatic 414, 3) := by decide +kernel
theorem dJ2_checkIndex_2214a_8 : decode cJ2_checkIndex_2214a 8 = .ok (.return_, 1) := by decide +kernel
theorem dJ3_checkIndex_8e157_0 : decode cJ3_checkIndex_8e157 0 = .ok (.iload_n 0, 1) := by decide +kernel
theorem dJ3_checkIndex_8e157_1 : decode cJ3_checkIndex_8e157 1 = .ok (.ifCond .lt 8, 3) := by decide +kernel
theorem dJ3_checkIndex_8e157_4 : decode cJ3_checkIndex_8e157 4 = .ok (.iload_n 0, 1) := by decide +kernel
theorem dJ3_checkIndex_8e157_5 : decode cJ3_checkIndex_8e157 5 = .ok (.iload_n 1, 1) := by decide +kernel
theorem dJ3_checkIndex_8e157_6 : decode cJ3_checkIndex_8e157 6 = .ok (.if_icmp .lt 10, 3) := by decide +kernel
theorem dJ3_checkIndex_8e157_9 : decode cJ3_checkIndex_8e157 9 = .ok (.aload_n 2, 1) := by decide +kernel
theorem dJ3_checkIndex_8e157_10 : decode cJ3_checkIndex_8e157 10 = .ok (.iload_n 0, 1) := by decide +kernel
theorem dJ3_checkIndex_8e157_11 : decode cJ3_checkIndex_8e157 11 = .ok (.iload_n 1, 1) := by decide +kernel
theorem dJ3_checkIndex_8e157_12 : decode cJ3_checkIndex_8e157 12 = .ok (.invokestatic 95, 3) := by decide +kernel
theorem dJ3_checkIndex_8e157_15 : decode cJ3_checkIndex_8e157 15 = .ok (.athrow, 1) := by decide +kernel
theorem dJ3_checkIndex_8e157_16 : decode cJ3_checkIndex_8e157 16 = .ok (.iload_n 0, 1) := by decide +kernel
theorem dJ3_checkIndex_8e157_17 : decode cJ3_checkIndex_8e157 17 = .ok (.ireturn, 1) := by decide +kernel
theorem dJ6_bitCount_0f7a4_0 : decode cJ6_bitCount_0f7a4 0 = .ok (.iload_n 0, 1) := by decide +kernel
theorem dJ6_bitCount_0f7a4_1 : decode cJ6_bitCount_0f7a4 1 = .ok (.iload_n 0, 1) := by decide +kernel
theorem dJ6_bitCount_0f7a4_2 : decode cJ6_bitCount_0f7a4 2 = .ok (.iconst 1, 1) := by decide +kernel
theorem dJ6_bitCount_0f7a4_3 : decode cJ6_bitCount_0f7a4 3 = .ok (.iushr, 1) := by decide +kernel
theorem dJ6_bitCount_0f7a4_4 : decode cJ6_bitCount_0f7a4 4 = .ok (.ldc_w 265, 3) := by decide +kernel
theorem dJ6_bitCount_0f7a4_7 : decode cJ6_bitCount_0f7a4 7 = .ok (.iand, 1) := by decide +kernel
theorem dJ6_bitCount_0f7a4_8 : decode cJ6_bitCount_0f7a4 8 = .ok (.isub, 1) := by decide +kernel
theorem dJ6_bitCount_0f7a4_9 : decode cJ6_bitCount_0f7a4 9 = .ok (.istore_n 0, 1) := by decide +kernel
theorem dJ6_bitCount_0f7a4_10 : decode cJ6_bitCount_0f7a4 10 = .ok (.iload_n 0, 1) := by decide +kernel
theorem dJ6_bitCount_0f7a4_11 : decode cJ6_bitCount_0f7a4 11 = .ok (.ldc_w 266, 3) := by decide +kernel
theorem dJ6_bitCount_0f7a4_14 : decode cJ6_bitCount_0f7a4 14 = .ok (.iand, 1) := by decide +kernel
theorem dJ6_bitCount_0f7a4_15 : decode cJ6_bitCount_0f7a4 15 = .ok (.iload_n 0, 1) := by decide +kernel
theorem dJ6_bitCount_0f7a4_16 : decode cJ6_bitCount_0f7a4 16 = .ok (.iconst 2, 1) := by decide +kernel
theorem dJ6_bitCount_0f7a4_17 : decode cJ6_bitCount_0f7a4 17 = .ok (.iushr, 1) := by decide +kernel
theorem dJ6_bitCount_0f7a4_18 : decode cJ6_bitCount_0f7a4 18 = .ok (.ldc_w 266, 3) := by decide +kernel
theorem dJ6_bitCount_0f7a4_21 : decode cJ6_bitCount_0f7a4 21 = .ok (.iand, 1) := by decide +kernel
theorem dJ6_bitCount_0f7a4_22 : decode cJ6_bitCount_0f7a4 22 = .ok (.iadd, 1) := by decide +kernel
theorem dJ6_bitCount_0f7a4_23 : decode cJ6_bitCount_0f7a4 23 = .ok (.istore_n 0, 1) := by decide +kernel
theorem dJ6_bitCount_0f7a4_24 : decode cJ6_bitCount_0f7a4 24 = .ok (.iload_n 0, 1) := by decide +kernel
theorem dJ6_bitCount_0f7a4_25 : decode cJ6_bitCount_0f7a4 25 = .ok (.iload_n 0, 1) := by decide +kernel
theorem dJ6_bitCount_0f7a4_26 : decode cJ6_bitCount_0f7a4 26 = .ok (.iconst 4, 1) := by decide +kernel
theorem dJ6_bitCount_0f7a4_27 : decode cJ6_bitCount_0f7a4 27 = .ok (.iushr, 1) := by decide +kernel
theorem dJ6_bitCount_0f7a4_28 : decode cJ6_bitCount_0f7a4 28 = .ok (.iadd, 1) := by decide +kernel
theorem dJ6_bitCount_0f7a4_29 : decode cJ6_bitCount_0f7a4 29 = .ok (.ldc_w 267, 3) := by decide +kernel
theorem dJ6_bitCount_0f7a4_32 : decode cJ6_bitCount_0f7a4 32 = .ok (.iand, 1) := by decide +kernel
theorem dJ6_bitCount_0f7a4_33 : decode cJ6_bitCount_0f7a4 33 = .ok (.istore_n 0, 1) := by decide +kernel
theorem dJ6_bitCount_0f7a4_34 : decode cJ6_bitCount_0f7a4 34 = .ok (.iload_n 0, 1) := by decide +kernel
theorem dJ6_bitCount_0f7a4_35 : decode cJ6_bitCount_0f7a4 35 = .ok (.iload_n 0, 1) := by decide +kernel
theorem dJ6_bitCount_0f7a4_36 : decode cJ6_bitCount_0f7a4 36 = .ok (.bipush 8, 2) := by decide +kernel
theorem dJ6_bitCount_0f7a4_38 : decode cJ6_bitCount_0f7a4 38 = .ok (.iushr, 1) := by decide +kernel
theorem dJ6_bitCount_0f7a4_39 : decode cJ6_bitCount_0f7a4 39 = .ok (.iadd, 1) := by decide +kernel
theorem dJ6_bitCount_0f7a4_40 : decode cJ6_bitCount_0f7a4 40 = .ok (.istore_n 0, 1) := by decide +kernel
theorem dJ6_bitCount_0f7a4_41 : decode cJ6_bitCount_0f7a4 41 = .ok (.iload_n 0, 1) := by decide +kernel
theorem dJ6_bitCount_0f7a4_42 : decode cJ6_bitCount_0f7a4 42 = .ok (.iload_n 0, 1) := by decide +kernel
theorem dJ6_bitCount_0f7a4_43 : decode cJ6_bitCount_0f7a4 43 = .ok (.bipush 16, 2) := by decide +kernel
theorem dJ6_bitCount_0f7a4_45 : decode cJ6_bitCount_0f7a4 45 = .ok (.iushr, 1) := by decide +kernel
theorem dJ6_bitCount_0f7a4_46 : decode cJ6_bitCount_0f7a4 46 = .ok (.iadd, 1) := by decide +kernel
theorem dJ6_bitCount_0f7a4_47 : decode cJ6_bitCount_0f7a4 47 = .ok (.istore_n 0, 1) := by decide +kernel
theorem dJ6_bitCount_0f7a4_48 : decode cJ6_bitCount_0f7a4 48 = .ok (.iload_n 0, 1) := by decide +kernel
theorem dJ6_bitCount_0f7a4_49 : decode cJ6_bitCount_0f7a4 49 = .ok (.bipush 63, 2) := by decide +kernel
theorem dJ6_bitCount_0f7a4_51 : decode cJ6_bitCount_0f7a4 51 = .ok (.iand, 1) := by decide +kernel
theorem dJ6_bitCount_0f7a4_52 : decode cJ6_bitCount_0f7a4 52 = .ok (.ireturn, 1) := by decide +kernel
theorem dJ7_fill_53178_0 : decode cJ7_fill_53178 0 = .ok (.iconst 0, 1) := by decide +kernel
theorem dJ7_fill_53178_1 : decode cJ7_fill_53178 1 = .ok (.istore_n 2, 1) := by decide +kernel
theorem dJ7_fill_53178_2 : decode cJ7_fill_53178 2 = .ok (.aload_n 0, 1) := by decide +kernel
theorem dJ7_fill_53178_3 : decode cJ7_fill_53178 3 = .ok (.arraylength, 1) := by decide +kernel
theorem dJ7_fill_53178_4 : decode cJ7_fill_53178 4 = .ok (.istore_n 3, 1) := by decide +kernel
theorem dJ7_fill_53178_5 : decode cJ7_fill_53178 5 = .ok (.iload_n 2, 1) := by decide +kernel
theorem dJ7_fill_53178_6 : decode cJ7_fill_53178 6 = .ok (.iload_n 3, 1) := by decide +kernel
theorem dJ7_fill_53178_7 : decode cJ7_fill_53178 7 = .ok (.if_icmp .ge 13, 3) := by decide +kernel
theorem dJ7_fill_53178_10 : decode cJ7_fill_53178 10 = .ok (.aload_n 0, 1) := by decide +kernel
theorem dJ7_fill_53178_11 : decode cJ7_fill_53178 11 = .ok (.iload_n 2, 1) := by decide +kernel
theorem dJ7_fill_53178_12 : decode cJ7_fill_53178 12 = .ok (.iload_n 1, 1) := by decide +kernel
theorem dJ7_fill_53178_13 : decode cJ7_fill_53178 13 = .ok (.iastore, 1) := by decide +kernel
theorem dJ7_fill_53178_14 : decode cJ7_fill_53178 14 = .ok (.iinc 2 1, 3) := by decide +kernel
theorem dJ7_fill_53178_17 : decode cJ7_fill_53178 17 = .ok (.goto (-12), 3) := by decide +kernel
theorem dJ7_fill_53178_20 : decode cJ7_fill_53178 20 = .ok (.return_, 1) := by decide +kernel
theorem dJ9_max_7cf53_0 : decode cJ9_max_7cf53 0 = .ok (.iload_n 0, 1) := by decide +kernel
theorem dJ9_max_7cf53_1 : decode cJ9_max_7cf53 1 = .ok (.iload_n 1, 1) := by decide +kernel
theorem dJ9_max_7cf53_2 : decode cJ9_max_7cf53 2 = .ok (.if_icmp .lt 7, 3) := by decide +kernel
theorem dJ9_max_7cf53_5 : decode cJ9_max_7cf53 5 = .ok (.iload_n 0, 1) := by decide +kernel
theorem dJ9_max_7cf53_6 : decode cJ9_max_7cf53 6 = .ok (.goto 4, 3) := by decide +kernel
theorem dJ9_max_7cf53_9 : decode cJ9_max_7cf53 9 = .ok (.iload_n 1, 1) := by decide +kernel
theorem dJ9_max_7cf53_10 : decode cJ9_max_7cf53 10 = .ok (.ireturn, 1) := by decide +kernel
theorem dJ9_max_f86c9_0 : decode cJ9_max_f86c9 0 = .ok (.lload_n 0, 1) := by decide +kernel
theorem dJ9_max_f86c9_1 : decode cJ9_max_f86c9 1 = .ok (.lload_n 2, 1) := by decide +kernel
theorem dJ9_max_f86c9_2 : decode cJ9_max_f86c9 2 = .ok (.lcmp, 1) := by decide +kernel
theorem dJ9_max_f86c9_3 : decode cJ9_max_f86c9 3 = .ok (.ifCond .lt 7, 3) := by decide +kernel
theorem dJ9_max_f86c9_6 : decode cJ9_max_f86c9 6 = .ok (.lload_n 0, 1) := by decide +kernel
theorem dJ9_max_f86c9_7 : decode cJ9_max_f86c9 7 = .ok (.goto 4, 3) := by decide +kernel
theorem dJ9_max_f86c9_10 : decode cJ9_max_f86c9 10 = .ok (.lload_n 2, 1) := by decide +kernel
theorem dJ9_max_f86c9_11 : decode cJ9_max_f86c9 11 = .ok (.lreturn, 1) := by decide +kernel
theorem dJ9_min_7cf53_0 : decode cJ9_min_7cf53 0 = .ok (.iload_n 0, 1) := by decide +kernel
theorem dJ9_min_7cf53_1 : decode cJ9_min_7cf53 1 = .ok (.iload_n 1, 1) := by decide +kernel
theorem dJ9_min_7cf53_2 : decode cJ9_min_7cf53 2 = .ok (.if_icmp .gt 7, 3) := by decide +kernel
theorem dJ9_min_7cf53_5 : decode cJ9_min_7cf53 5 = .ok (.iload_n 0, 1) := by decide +kernel
theorem dJ9_min_7cf53_6 : decode cJ9_min_7cf53 6 = .ok (.goto 4, 3) := by decide +kernel
theorem dJ9_min_7cf53_9 : decode cJ9_min_7cf53 9 = .ok (.iload_n 1, 1) := by decide +kernel
theorem dJ9_min_7cf53_10 : decode cJ9_min_7cf53 10 = .ok (.ireturn, 1) := by decide +kernel
theorem dX0_init_0 : decode cX0_init 0 = .ok (.aload_n 0, 1) := by decide +kernel
theorem dX0_init_1 : decode cX0_init 1 = .ok (.invokespecial 3, 3) := by decide +kernel
theorem dX0_init_4 : decode cX0_init 4 = .ok (.aload_n 0, 1) := by decide +kernel
theorem dX0_init_5 : decode cX0_init 5 = .ok (.bipush 6, 2) := by decide +kernel
theorem dX0_init_7 : decode cX0_init 7 = .ok (.newarray .int, 2) := by decide +kernel
theorem dX0_init_9 : decode cX0_init 9 = .ok (.putfield 9, 3) := by decide +kernel
theorem dX0_init_12 : decode cX0_init 12 = .ok (.aload_n 0, 1) := by decide +kernel
theorem dX0_init_13 : decode cX0_init 13 = .ok (.bipush 6, 2) := by decide +kernel
theorem dX0_init_15 : decode cX0_init 15 = .ok (.newarray .int, 2) := by decide +kernel
theorem dX0_init_17 : decode cX0_init 17 = .ok (.putfield 15, 3) := by decide +kernel
theorem dX0_init_20 : decode cX0_init 20 = .ok (.aload_n 0, 1) := by decide +kernel
theorem dX0_init_21 : decode cX0_init 21 = .ok (.bipush 6, 2) := by decide +kernel
theorem dX0_init_23 : decode cX0_init 23 = .ok (.newarray .int, 2) := by decide +kernel
theorem dX0_init_25 : decode cX0_init 25 = .ok (.putfield 18, 3) := by decide +kernel
theorem dX0_init_28 : decode cX0_init 28 = .ok (.aload_n 0, 1) := by decide +kernel
theorem dX0_init_29 : decode cX0_init 29 = .ok (.bipush 6, 2) := by decide +kernel
theorem dX0_init_31 : decode cX0_init 31 = .ok (.newarray .int, 2) := by decide +kernel
theorem dX0_init_33 : decode cX0_init 33 = .ok (.putfield 21, 3) := by decide +kernel
theorem dX0_init_36 : decode cX0_init 36 = .ok (.aload_n 0, 1) := by decide +kernel
theorem dX0_init_37 : decode cX0_init 37 = .ok (.iconst 5, 1) := by decide +kernel
theorem dX0_init_38 : decode cX0_init 38 = .ok (.newarray .int, 2) := by decide +kernel
theorem dX0_init_40 : decode cX0_init 40 = .ok (.putfield 24, 3) := by decide +kernel
theorem dX0_init_43 : decode cX0_init 43 = .ok (.aload_n 0, 1) := by decide +kernel
theorem dX0_init_44 : decode cX0_init 44 = .ok (.iconst 4, 1) := by decide +kernel
theorem dX0_init_45 : decode cX0_init 45 = .ok (.newarray .int, 2) := by decide +kernel
theorem dX0_init_47 : decode cX0_init 47 = .ok (.putfield 27, 3) := by decide +kernel
theorem dX0_init_50 : decode cX0_init 50 = .ok (.aload_n 0, 1) := by decide +kernel
theorem dX0_init_51 : decode cX0_init 51 = .ok (.iconst 4, 1) := by decide +kernel
theorem dX0_init_52 : decode cX0_init 52 = .ok (.newarray .int, 2) := by decide +kernel
theorem dX0_init_54 : decode cX0_init 54 = .ok (.putfield 30, 3) := by decide +kernel
theorem dX0_init_57 : decode cX0_init 57 = .ok (.aload_n 0, 1) := by decide +kernel
theorem dX0_init_58 : decode cX0_init 58 = .ok (.iconst 4, 1) := by decide +kernel
theorem dX0_init_59 : decode cX0_init 59 = .ok (.newarray .int, 2) := by decide +kernel
theorem dX0_init_61 : decode cX0_init 61 = .ok (.putfield 33, 3) := by decide +kernel
theorem dX0_init_64 : decode cX0_init 64 = .ok (.aload_n 0, 1) := by decide +kernel
theorem dX0_init_65 : decode cX0_init 65 = .ok (.bipush 20, 2) := by decide +kernel
theorem dX0_init_67 : decode cX0_init 67 = .ok (.putfield 36, 3) := by decide +kernel
theorem dX0_init_70 : decode cX0_init 70 = .ok (.return_, 1) := by decide +kernel
theorem dX0_copyFrom_0 : decode cX0_copyFrom 0 = .ok (.iconst 0, 1) := by decide +kernel
theorem dX0_copyFrom_1 : decode cX0_copyFrom 1 = .ok (.istore_n 2, 1) := by decide +kernel
theorem dX0_copyFrom_2 : decode cX0_copyFrom 2 = .ok (.iload_n 2, 1) := by decide +kernel
theorem dX0_copyFrom_3 : decode cX0_copyFrom 3 = .ok (.bipush 6, 2) := by decide +kernel
theorem dX0_copyFrom_5 : decode cX0_copyFrom 5 = .ok (.if_icmp .ge 57, 3) := by decide +kernel
theorem dX0_copyFrom_8 : decode cX0_copyFrom 8 = .ok (.aload_n 0, 1) := by decide +kernel
theorem dX0_copyFrom_9 : decode cX0_copyFrom 9 = .ok (.getfield 9, 3) := by decide +kernel
theorem dX0_copyFrom_12 : decode cX0_copyFrom 12 = .ok (.iload_n 2, 1) := by decide +kernel
theorem dX0_copyFrom_13 : decode cX0_copyFrom 13 = .ok (.aload_n 1, 1) := by decide +kernel
theorem dX0_copyFrom_14 : decode cX0_copyFrom 14 = .ok (.getfield 9, 3) := by decide +kernel
theorem dX0_copyFrom_17 : decode cX0_copyFrom 17 = .ok (.iload_n 2, 1) := by decide +kernel
theorem dX0_copyFrom_18 : decode cX0_copyFrom 18 = .ok (.iaload, 1) := by decide +kernel
theorem dX0_copyFrom_19 : decode cX0_copyFrom 19 = .ok (.iastore, 1) := by decide +kernel
theorem dX0_copyFrom_20 : decode cX0_copyFrom 20 = .ok (.aload_n 0, 1) := by decide +kernel
theorem dX0_copyFrom_21 : decode cX0_copyFrom 21 = .ok (.getfield 15, 3) := by decide +kernel
theorem dX0_copyFrom_24 : decode cX0_copyFrom 24 = .ok (.iload_n 2, 1) := by decide +kernel
theorem dX0_copyFrom_25 : decode cX0_copyFrom 25 = .ok (.aload_n 1, 1) := by decide +kernel
theorem dX0_copyFrom_26 : decode cX0_copyFrom 26 = .ok (.getfield 15, 3) := by decide +kernel
theorem dX0_copyFrom_29 : decode cX0_copyFrom 29 = .ok (.iload_n 2, 1) := by decide +kernel
theorem dX0_copyFrom_30 : decode cX0_copyFrom 30 = .ok (.iaload, 1) := by decide +kernel
theorem dX0_copyFrom_31 : decode cX0_copyFrom 31 = .ok (.iastore, 1) := by decide +kernel
theorem dX0_copyFrom_32 : decode cX0_copyFrom 32 = .ok (.aload_n 0, 1) := by decide +kernel
theorem dX0_copyFrom_33 : decode cX0_copyFrom 33 = .ok (.getfield 18, 3) := by decide +kernel
theorem dX0_copyFrom_36 : decode cX0_copyFrom 36 = .ok (.iload_n 2, 1) := by decide +kernel
theorem dX0_copyFrom_37 : decode cX0_copyFrom 37 = .ok (.aload_n 1, 1) := by decide +kernel
theorem dX0_copyFrom_38 : decode cX0_copyFrom 38 = .ok (.getfield 18, 3) := by decide +kernel
theorem dX0_copyFrom_41 : decode cX0_copyFrom 41 = .ok (.iload_n 2, 1) := by decide +kernel
theorem dX0_copyFrom_42 : decode cX0_copyFrom 42 = .ok (.iaload, 1) := by decide +kernel
theorem dX0_copyFrom_43 : decode cX0_copyFrom 43 = .ok (.iastore, 1) := by decide +kernel
theorem dX0_copyFrom_44 : decode cX0_copyFrom 44 = .ok (.aload_n 0, 1) := by decide +kernel
theorem dX0_copyFrom_45 : decode cX0_copyFrom 45 = .ok (.getfield 21, 3) := by decide +kernel
theorem dX0_copyFrom_48 : decode cX0_copyFrom 48 = .ok (.iload_n 2, 1) := by decide +kernel
theorem dX0_copyFrom_49 : decode cX0_copyFrom 49 = .ok (.aload_n 1, 1) := by decide +kernel
theorem dX0_copyFrom_50 : decode cX0_copyFrom 50 = .ok (.getfield 21, 3) := by decide +kernel
theorem dX0_copyFrom_53 : decode cX0_copyFrom 53 = .ok (.iload_n 2, 1) := by decide +kernel
theorem dX0_copyFrom_54 : decode cX0_copyFrom 54 = .ok (.iaload, 1) := by decide +kernel
theorem dX0_copyFrom_55 : decode cX0_copyFrom 55 = .ok (.iastore, 1) := by decide +kernel
theorem dX0_copyFrom_56 : decode cX0_copyFrom 56 = .ok (.iinc 2 1, 3) := by decide +kernel
theorem dX0_copyFrom_59 : decode cX0_copyFrom 59 = .ok (.goto (-57), 3) := by decide +kernel
theorem dX0_copyFrom_62 : decode cX0_copyFrom 62 = .ok (.iconst 0, 1) := by decide +kernel
theorem dX0_copyFrom_63 : decode cX0_copyFrom 63 = .ok (.istore_n 2, 1) := by decide +kernel
theorem dX0_copyFrom_64 : decode cX0_copyFrom 64 = .ok (.iload_n 2, 1) := by decide +kernel
theorem dX0_copyFrom_65 : decode cX0_copyFrom 65 = .ok (.iconst 5, 1) := by decide +kernel
theorem dX0_copyFrom_66 : decode cX0_copyFrom 66 = .ok (.if_icmp .ge 21, 3) := by decide +kernel
theorem dX0_copyFrom_69 : decode cX0_copyFrom 69 = .ok (.aload_n 0, 1) := by decide +kernel
theorem dX0_copyFrom_70 : decode cX0_copyFrom 70 = .ok (.getfield 24, 3) := by decide +kernel
theorem dX0_copyFrom_73 : decode cX0_copyFrom 73 = .ok (.iload_n 2, 1) := by decide +kernel
theorem dX0_copyFrom_74 : decode cX0_copyFrom 74 = .ok (.aload_n 1, 1) := by decide +kernel
theorem dX0_copyFrom_75 : decode cX0_copyFrom 75 = .ok (.getfield 24, 3) := by decide +kernel
theorem dX0_copyFrom_78 : decode cX0_copyFrom 78 = .ok (.iload_n 2, 1) := by decide +kernel
theorem dX0_copyFrom_79 : decode cX0_copyFrom 79 = .ok (.iaload, 1) := by decide +kernel
theorem dX0_copyFrom_80 : decode cX0_copyFrom 80 = .ok (.iastore, 1) := by decide +kernel
theorem dX0_copyFrom_81 : decode cX0_copyFrom 81 = .ok (.iinc 2 1, 3) := by decide +kernel
theorem dX0_copyFrom_84 : decode cX0_copyFrom 84 = .ok (.goto (-20), 3) := by decide +kernel
theorem dX0_copyFrom_87 : decode cX0_copyFrom 87 = .ok (.iconst 0, 1) := by decide +kernel
theorem dX0_copyFrom_88 : decode cX0_copyFrom 88 = .ok (.istore_n 2, 1) := by decide +kernel
theorem dX0_copyFrom_89 : decode cX0_copyFrom 89 = .ok (.iload_n 2, 1) := by decide +kernel
theorem dX0_copyFrom_90 : decode cX0_copyFrom 90 = .ok (.iconst 4, 1) := by decide +kernel
theorem dX0_copyFrom_91 : decode cX0_copyFrom 91 = .ok (.if_icmp .ge 45, 3) := by decide +kernel
theorem dX0_copyFrom_94 : decode cX0_copyFrom 94 = .ok (.aload_n 0, 1) := by decide +kernel
theorem dX0_copyFrom_95 : decode cX0_copyFrom 95 = .ok (.getfield 27, 3) := by decide +kernel
theorem dX0_copyFrom_98 : decode cX0_copyFrom 98 = .ok (.iload_n 2, 1) := by decide +kernel
theorem dX0_copyFrom_99 : decode cX0_copyFrom 99 = .ok (.aload_n 1, 1) := by decide +kernel
theorem dX0_copyFrom_100 : decode cX0_copyFrom 100 = .ok (.getfield 27, 3) := by decide +kernel
theorem dX0_copyFrom_103 : decode cX0_copyFrom 103 = .ok (.iload_n 2, 1) := by decide +kernel
theorem dX0_copyFrom_104 : decode cX0_copyFrom 104 = .ok (.iaload, 1) := by decide +kernel
theorem dX0_copyFrom_105 : decode cX0_copyFrom 105 = .ok (.iastore, 1) := by decide +kernel
theorem dX0_copyFrom_106 : decode cX0_copyFrom 106 = .ok (.aload_n 0, 1) := by decide +kernel
theorem dX0_copyFrom_107 : decode cX0_copyFrom 107 = .ok (.getfield 30, 3) := by decide +kernel
theorem dX0_copyFrom_110 : decode cX0_copyFrom 110 = .ok (.iload_n 2, 1) := by decide +kernel
theorem dX0_copyFrom_111 : decode cX0_copyFrom 111 = .ok (.aload_n 1, 1) := by decide +kernel
theorem dX0_copyFrom_112 : decode cX0_copyFrom 112 = .ok (.getfield 30, 3) := by decide +kernel
theorem dX0_copyFrom_115 : decode cX0_copyFrom 115 = .ok (.iload_n 2, 1) := by decide +kernel
theorem dX0_copyFrom_116 : decode cX0_copyFrom 116 = .ok (.iaload, 1) := by decide +kernel
theorem dX0_copyFrom_117 : decode cX0_copyFrom 117 = .ok (.iastore, 1) := by decide +kernel
theorem dX0_copyFrom_118 : decode cX0_copyFrom 118 = .ok (.aload_n 0, 1) := by decide +kernel
theorem dX0_copyFrom_119 : decode cX0_copyFrom 119 = .ok (.getfield 33, 3) := by decide +kernel
theorem dX0_copyFrom_122 : decode cX0_copyFrom 122 = .ok (.iload_n 2, 1) := by decide +kernel
theorem dX0_copyFrom_123 : decode cX0_copyFrom 123 = .ok (.aload_n 1, 1) := by decide +kernel
theorem dX0_copyFrom_124 : decode cX0_copyFrom 124 = .ok (.getfield 33, 3) := by decide +kernel
theorem dX0_copyFrom_127 : decode cX0_copyFrom 127 = .ok (.iload_n 2, 1) := by decide +kernel
theorem dX0_copyFrom_128 : decode cX0_copyFrom 128 = .ok (.iaload, 1) := by decide +kernel
theorem dX0_copyFrom_129 : decode cX0_copyFrom 129 = .ok (.iastore, 1) := by decide +kernel
theorem dX0_copyFrom_130 : decode cX0_copyFrom 130 = .ok (.iinc 2 1, 3) := by decide +kernel
theorem dX0_copyFrom_133 : decode cX0_copyFrom 133 = .ok (.goto (-44), 3) := by decide +kernel
theorem dX0_copyFrom_136 : decode cX0_copyFrom 136 = .ok (.aload_n 0, 1) := by decide +kernel
theorem dX0_copyFrom_137 : decode cX0_copyFrom 137 = .ok (.aload_n 1, 1) := by decide +kernel
theorem dX0_copyFrom_138 : decode cX0_copyFrom 138 = .ok (.getfield 40, 3) := by decide +kernel
theorem dX0_copyFrom_141 : decode cX0_copyFrom 141 = .ok (.putfield 40, 3) := by decide +kernel
theorem dX0_copyFrom_144 : decode cX0_copyFrom 144 = .ok (.aload_n 0, 1) := by decide +kernel
theorem dX0_copyFrom_145 : decode cX0_copyFrom 145 = .ok (.aload_n 1, 1) := by decide +kernel
theorem dX0_copyFrom_146 : decode cX0_copyFrom 146 = .ok (.getfield 43, 3) := by decide +kernel
theorem dX0_copyFrom_149 : decode cX0_copyFrom 149 = .ok (.putfield 43, 3) := by decide +kernel
theorem dX0_copyFrom_152 : decode cX0_copyFrom 152 = .ok (.aload_n 0, 1) := by decide +kernel
theorem dX0_copyFrom_153 : decode cX0_copyFrom 153 = .ok (.aload_n 1, 1) := by decide +kernel
theorem dX0_copyFrom_154 : decode cX0_copyFrom 154 = .ok (.getfield 46, 3) := by decide +kernel
theorem dX0_copyFrom_157 : decode cX0_copyFrom 157 = .ok (.putfield 46, 3) := by decide +kernel
theorem dX0_copyFrom_160 : decode cX0_copyFrom 160 = .ok (.aload_n 0, 1) := by decide +kernel
theorem dX0_copyFrom_161 : decode cX0_copyFrom 161 = .ok (.aload_n 1, 1) := by decide +kernel
theorem dX0_copyFrom_162 : decode cX0_copyFrom 162 = .ok (.getfield 36, 3) := by decide +kernel
theorem dX0_copyFrom_165 : decode cX0_copyFrom 165 = .ok (.putfield 36, 3) := by decide +kernel
theorem dX0_copyFrom_168 : decode cX0_copyFrom 168 = .ok (.return_, 1) := by decide +kernel
theorem dX0_hasMouse_0 : decode cX0_hasMouse 0 = .ok (.iload_n 1, 1) := by decide +kernel
theorem dX0_hasMouse_1 : decode cX0_hasMouse 1 = .ok (.ifCond .lt 21, 3) := by decide +kernel
theorem dX0_hasMouse_4 : decode cX0_hasMouse 4 = .ok (.iload_n 1, 1) := by decide +kernel
theorem dX0_hasMouse_5 : decode cX0_hasMouse 5 = .ok (.aload_n 0, 1) := by decide +kernel
theorem dX0_hasMouse_6 : decode cX0_hasMouse 6 = .ok (.getfield 40, 3) := by decide +kernel
theorem dX0_hasMouse_9 : decode cX0_hasMouse 9 = .ok (.if_icmp .ge 13, 3) := by decide +kernel
theorem dX0_hasMouse_12 : decode cX0_hasMouse 12 = .ok (.iload_n 1, 1) := by decide +kernel
theorem dX0_hasMouse_13 : decode cX0_hasMouse 13 = .ok (.bipush 6, 2) := by decide +kernel
theorem dX0_hasMouse_15 : decode cX0_hasMouse 15 = .ok (.if_icmp .ge 7, 3) := by decide +kernel
theorem dX0_hasMouse_18 : decode cX0_hasMouse 18 = .ok (.iconst 1, 1) := by decide +kernel
theorem dX0_hasMouse_19 : decode cX0_hasMouse 19 = .ok (.goto 4, 3) := by decide +kernel
theorem dX0_hasMouse_22 : decode cX0_hasMouse 22 = .ok (.iconst 0, 1) := by decide +kernel
theorem dX0_hasMouse_23 : decode cX0_hasMouse 23 = .ok (.ireturn, 1) := by decide +kernel
theorem dX0_hasStep_0 : decode cX0_hasStep 0 = .ok (.iload_n 1, 1) := by decide +kernel
theorem dX0_hasStep_1 : decode cX0_hasStep 1 = .ok (.ifCond .lt 20, 3) := by decide +kernel
theorem dX0_hasStep_4 : decode cX0_hasStep 4 = .ok (.iload_n 1, 1) := by decide +kernel
theorem dX0_hasStep_5 : decode cX0_hasStep 5 = .ok (.aload_n 0, 1) := by decide +kernel
theorem dX0_hasStep_6 : decode cX0_hasStep 6 = .ok (.getfield 43, 3) := by decide +kernel
theorem dX0_hasStep_9 : decode cX0_hasStep 9 = .ok (.if_icmp .ge 12, 3) := by decide +kernel
theorem dX0_hasStep_12 : decode cX0_hasStep 12 = .ok (.iload_n 1, 1) := by decide +kernel
theorem dX0_hasStep_13 : decode cX0_hasStep 13 = .ok (.iconst 5, 1) := by decide +kernel
theorem dX0_hasStep_14 : decode cX0_hasStep 14 = .ok (.if_icmp .ge 7, 3) := by decide +kernel
theorem dX0_hasStep_17 : decode cX0_hasStep 17 = .ok (.iconst 1, 1) := by decide +kernel
theorem dX0_hasStep_18 : decode cX0_hasStep 18 = .ok (.goto 4, 3) := by decide +kernel
theorem dX0_hasStep_21 : decode cX0_hasStep 21 = .ok (.iconst 0, 1) := by decide +kernel
theorem dX0_hasStep_22 : decode cX0_hasStep 22 = .ok (.ireturn, 1) := by decide +kernel
theorem dX0_hasRat_0 : decode cX0_hasRat 0 = .ok (.iload_n 1, 1) := by decide +kernel
theorem dX0_hasRat_1 : decode cX0_hasRat 1 = .ok (.ifCond .lt 20, 3) := by decide +kernel
theorem dX0_hasRat_4 : decode cX0_hasRat 4 = .ok (.iload_n 1, 1) := by decide +kernel
theorem dX0_hasRat_5 : decode cX0_hasRat 5 = .ok (.aload_n 0, 1) := by decide +kernel
theorem dX0_hasRat_6 : decode cX0_hasRat 6 = .ok (.getfield 46, 3) := by decide +kernel
theorem dX0_hasRat_9 : decode cX0_hasRat 9 = .ok (.if_icmp .ge 12, 3) := by decide +kernel
theorem dX0_hasRat_12 : decode cX0_hasRat 12 = .ok (.iload_n 1, 1) := by decide +kernel
theorem dX0_hasRat_13 : decode cX0_hasRat 13 = .ok (.iconst 4, 1) := by decide +kernel
theorem dX0_hasRat_14 : decode cX0_hasRat 14 = .ok (.if_icmp .ge 7, 3) := by decide +kernel
theorem dX0_hasRat_17 : decode cX0_hasRat 17 = .ok (.iconst 1, 1) := by decide +kernel
theorem dX0_hasRat_18 : decode cX0_hasRat 18 = .ok (.goto 4, 3) := by decide +kernel
theorem dX0_hasRat_21 : decode cX0_hasRat 21 = .ok (.iconst 0, 1) := by decide +kernel
theorem dX0_hasRat_22 : decode cX0_hasRat 22 = .ok (.ireturn, 1) := by decide +kernel
theorem dX0_takes_0 : decode cX0_takes 0 = .ok (.iload_n 1, 1) := by decide +kernel
theorem dX0_takes_1 : decode cX0_takes 1 = .ok (.tableswitch 82 0 5 #[39, 39, 39, 39, 54, 68], 39) := by decide +kernel
theorem dX0_takes_40 : decode cX0_takes 40 = .ok (.aload_n 0, 1) := by decide +kernel
theorem dX0_takes_41 : decode cX0_takes 41 = .ok (.getfield 40, 3) := by decide +kernel
theorem dX0_takes_44 : decode cX0_takes 44 = .ok (.bipush 6, 2) := by decide +kernel
theorem dX0_takes_46 : decode cX0_takes 46 = .ok (.if_icmp .ge 7, 3) := by decide +kernel
theorem dX0_takes_49 : decode cX0_takes 49 = .ok (.iconst 1, 1) := by decide +kernel
theorem dX0_takes_50 : decode cX0_takes 50 = .ok (.goto 4, 3) := by decide +kernel
theorem dX0_takes_53 : decode cX0_takes 53 = .ok (.iconst 0, 1) := by decide +kernel
theorem dX0_takes_54 : decode cX0_takes 54 = .ok (.ireturn, 1) := by decide +kernel
theorem dX0_takes_55 : decode cX0_takes 55 = .ok (.aload_n 0, 1) := by decide +kernel
theorem dX0_takes_56 : decode cX0_takes 56 = .ok (.getfield 43, 3) := by decide +kernel
theorem dX0_takes_59 : decode cX0_takes 59 = .ok (.iconst 5, 1) := by decide +kernel
theorem dX0_takes_60 : decode cX0_takes 60 = .ok (.if_icmp .ge 7, 3) := by decide +kernel
theorem dX0_takes_63 : decode cX0_takes 63 = .ok (.iconst 1, 1) := by decide +kernel
theorem dX0_takes_64 : decode cX0_takes 64 = .ok (.goto 4, 3) := by decide +kernel
theorem dX0_takes_67 : decode cX0_takes 67 = .ok (.iconst 0, 1) := by decide +kernel
theorem dX0_takes_68 : decode cX0_takes 68 = .ok (.ireturn, 1) := by decide +kernel
theorem dX0_takes_69 : decode cX0_takes 69 = .ok (.aload_n 0, 1) := by decide +kernel
theorem dX0_takes_70 : decode cX0_takes 70 = .ok (.getfield 46, 3) := by decide +kernel
theorem dX0_takes_73 : decode cX0_takes 73 = .ok (.iconst 4, 1) := by decide +kernel
theorem dX0_takes_74 : decode cX0_takes 74 = .ok (.if_icmp .ge 7, 3) := by decide +kernel
theorem dX0_takes_77 : decode cX0_takes 77 = .ok (.iconst 1, 1) := by decide +kernel
theorem dX0_takes_78 : decode cX0_takes 78 = .ok (.goto 4, 3) := by decide +kernel
theorem dX0_takes_81 : decode cX0_takes 81 = .ok (.iconst 0, 1) := by decide +kernel
theorem dX0_takes_82 : decode cX0_takes 82 = .ok (.ireturn, 1) := by decide +kernel
theorem dX0_takes_83 : decode cX0_takes 83 = .ok (.iload_n 1, 1) := by decide +kernel
theorem dX0_takes_84 : decode cX0_takes 84 = .ok (.iconst (-1), 1) := by decide +kernel
theorem dX0_takes_85 : decode cX0_takes 85 = .ok (.if_icmp .eq 7, 3) := by decide +kernel
theorem dX0_takes_88 : decode cX0_takes 88 = .ok (.iconst 1, 1) := by decide +kernel
theorem dX0_takes_89 : decode cX0_takes 89 = .ok (.goto 4, 3) := by decide +kernel
theorem dX0_takes_92 : decode cX0_takes 92 = .ok (.iconst 0, 1) := by decide +kernel
theorem dX0_takes_93 : decode cX0_takes 93 = .ok (.ireturn, 1) := by decide +kernel
theorem dX0_apply_0 : decode cX0_apply 0 = .ok (.aload_n 0, 1) := by decide +kernel
theorem dX0_apply_1 : decode cX0_apply 1 = .ok (.iload_n 1, 1) := by decide +kernel
theorem dX0_apply_2 : decode cX0_apply 2 = .ok (.invokevirtual 49, 3) := by decide +kernel
theorem dX0_apply_5 : decode cX0_apply 5 = .ok (.ifCond .ne 4, 3) := by decide +kernel
theorem dX0_apply_8 : decode cX0_apply 8 = .ok (.return_, 1) := by decide +kernel
theorem dX0_apply_9 : decode cX0_apply 9 = .ok (.iload_n 1, 1) := by decide +kernel
theorem dX0_apply_10 : decode cX0_apply 10 = .ok (.tableswitch 88 4 8 #[34, 54, 65, 73, 80], 34) := by decide +kernel
theorem dX0_apply_44 : decode cX0_apply 44 = .ok (.aload_n 0, 1) := by decide +kernel
theorem dX0_apply_45 : decode cX0_apply 45 = .ok (.getfield 24, 3) := by decide +kernel
theorem dX0_apply_48 : decode cX0_apply 48 = .ok (.aload_n 0, 1) := by decide +kernel
theorem dX0_apply_49 : decode cX0_apply 49 = .ok (.dup, 1) := by decide +kernel
theorem dX0_apply_50 : decode cX0_apply 50 = .ok (.getfield 43, 3) := by decide +kernel
theorem dX0_apply_53 : decode cX0_apply 53 = .ok (.dup_x1, 1) := by decide +kernel
theorem dX0_apply_54 : decode cX0_apply 54 = .ok (.iconst 1, 1) := by decide +kernel
theorem dX0_apply_55 : decode cX0_apply 55 = .ok (.iadd, 1) := by decide +kernel
theorem dX0_apply_56 : decode cX0_apply 56 = .ok (.putfield 43, 3) := by decide +kernel
theorem dX0_apply_59 : decode cX0_apply 59 = .ok (.iload_n 2, 1) := by decide +kernel
theorem dX0_apply_60 : decode cX0_apply 60 = .ok (.iastore, 1) := by decide +kernel
theorem dX0_apply_61 : decode cX0_apply 61 = .ok (.goto 46, 3) := by decide +kernel
theorem dX0_apply_64 : decode cX0_apply 64 = .ok (.aload_n 0, 1) := by decide +kernel
theorem dX0_apply_65 : decode cX0_apply 65 = .ok (.iload_n 2, 1) := by decide +kernel
theorem dX0_apply_66 : decode cX0_apply 66 = .ok (.iload_n 3, 1) := by decide +kernel
theorem dX0_apply_67 : decode cX0_apply 67 = .ok (.iload 4, 2) := by decide +kernel
theorem dX0_apply_69 : decode cX0_apply 69 = .ok (.invokevirtual 53, 3) := by decide +kernel
theorem dX0_apply_72 : decode cX0_apply 72 = .ok (.goto 35, 3) := by decide +kernel
theorem dX0_apply_75 : decode cX0_apply 75 = .ok (.aload_n 0, 1) := by decide +kernel
theorem dX0_apply_76 : decode cX0_apply 76 = .ok (.iload_n 2, 1) := by decide +kernel
theorem dX0_apply_77 : decode cX0_apply 77 = .ok (.putfield 36, 3) := by decide +kernel
theorem dX0_apply_80 : decode cX0_apply 80 = .ok (.goto 27, 3) := by decide +kernel
theorem dX0_apply_83 : decode cX0_apply 83 = .ok (.aload_n 0, 1) := by decide +kernel
theorem dX0_apply_84 : decode cX0_apply 84 = .ok (.invokevirtual 57, 3) := by decide +kernel
theorem dX0_apply_87 : decode cX0_apply 87 = .ok (.goto 20, 3) := by decide +kernel
theorem dX0_apply_90 : decode cX0_apply 90 = .ok (.aload_n 0, 1) := by decide +kernel
theorem dX0_apply_91 : decode cX0_apply 91 = .ok (.iconst 0, 1) := by decide +kernel
theorem dX0_apply_92 : decode cX0_apply 92 = .ok (.putfield 43, 3) := by decide +kernel
theorem dX0_apply_95 : decode cX0_apply 95 = .ok (.goto 12, 3) := by decide +kernel
theorem dX0_apply_98 : decode cX0_apply 98 = .ok (.aload_n 0, 1) := by decide +kernel
theorem dX0_apply_99 : decode cX0_apply 99 = .ok (.iload_n 1, 1) := by decide +kernel
theorem dX0_apply_100 : decode cX0_apply 100 = .ok (.iload_n 2, 1) := by decide +kernel
theorem dX0_apply_101 : decode cX0_apply 101 = .ok (.iload_n 3, 1) := by decide +kernel
theorem dX0_apply_102 : decode cX0_apply 102 = .ok (.iload 4, 2) := by decide +kernel
theorem dX0_apply_104 : decode cX0_apply 104 = .ok (.invokevirtual 60, 3) := by decide +kernel
theorem dX0_apply_107 : decode cX0_apply 107 = .ok (.return_, 1) := by decide +kernel
theorem dX0_addMouse_0 : decode cX0_addMouse 0 = .ok (.aload_n 0, 1) := by decide +kernel
theorem dX0_addMouse_1 : decode cX0_addMouse 1 = .ok (.getfield 40, 3) := by decide +kernel
theorem dX0_addMouse_4 : decode cX0_addMouse 4 = .ok (.bipush 6, 2) := by decide +kernel
theorem dX0_addMouse_6 : decode cX0_addMouse 6 = .ok (.if_icmp .lt 4, 3) := by decide +kernel
theorem dX0_addMouse_9 : decode cX0_addMouse 9 = .ok (.return_, 1) := by decide +kernel
theorem dX0_addMouse_10 : decode cX0_addMouse 10 = .ok (.aload_n 0, 1) := by decide +kernel
theorem dX0_addMouse_11 : decode cX0_addMouse 11 = .ok (.getfield 9, 3) := by decide +kernel
theorem dX0_addMouse_14 : decode cX0_addMouse 14 = .ok (.aload_n 0, 1) := by decide +kernel
theorem dX0_addMouse_15 : decode cX0_addMouse 15 = .ok (.getfield 40, 3) := by decide +kernel
theorem dX0_addMouse_18 : decode cX0_addMouse 18 = .ok (.iload_n 1, 1) := by decide +kernel
theorem dX0_addMouse_19 : decode cX0_addMouse 19 = .ok (.iastore, 1) := by decide +kernel
theorem dX0_addMouse_20 : decode cX0_addMouse 20 = .ok (.aload_n 0, 1) := by decide +kernel
theorem dX0_addMouse_21 : decode cX0_addMouse 21 = .ok (.getfield 15, 3) := by decide +kernel
theorem dX0_addMouse_24 : decode cX0_addMouse 24 = .ok (.aload_n 0, 1) := by decide +kernel
theorem dX0_addMouse_25 : decode cX0_addMouse 25 = .ok (.getfield 40, 3) := by decide +kernel
theorem dX0_addMouse_28 : decode cX0_addMouse 28 = .ok (.iload_n 2, 1) := by decide +kernel
theorem dX0_addMouse_29 : decode cX0_addMouse 29 = .ok (.iastore, 1) := by decide +kernel
theorem dX0_addMouse_30 : decode cX0_addMouse 30 = .ok (.aload_n 0, 1) := by decide +kernel
theorem dX0_addMouse_31 : decode cX0_addMouse 31 = .ok (.getfield 18, 3) := by decide +kernel
theorem dX0_addMouse_34 : decode cX0_addMouse 34 = .ok (.aload_n 0, 1) := by decide +kernel
theorem dX0_addMouse_35 : decode cX0_addMouse 35 = .ok (.getfield 40, 3) := by decide +kernel
theorem dX0_addMouse_38 : decode cX0_addMouse 38 = .ok (.iload_n 3, 1) := by decide +kernel
theorem dX0_addMouse_39 : decode cX0_addMouse 39 = .ok (.iastore, 1) := by decide +kernel
theorem dX0_addMouse_40 : decode cX0_addMouse 40 = .ok (.aload_n 0, 1) := by decide +kernel
theorem dX0_addMouse_41 : decode cX0_addMouse 41 = .ok (.getfield 21, 3) := by decide +kernel
theorem dX0_addMouse_44 : decode cX0_addMouse 44 = .ok (.aload_n 0, 1) := by decide +kernel
theorem dX0_addMouse_45 : decode cX0_addMouse 45 = .ok (.getfield 40, 3) := by decide +kernel
theorem dX0_addMouse_48 : decode cX0_addMouse 48 = .ok (.iload 4, 2) := by decide +kernel
theorem dX0_addMouse_50 : decode cX0_addMouse 50 = .ok (.iastore, 1) := by decide +kernel
theorem dX0_addMouse_51 : decode cX0_addMouse 51 = .ok (.aload_n 0, 1) := by decide +kernel
theorem dX0_addMouse_52 : decode cX0_addMouse 52 = .ok (.dup, 1) := by decide +kernel
theorem dX0_addMouse_53 : decode cX0_addMouse 53 = .ok (.getfield 40, 3) := by decide +kernel
theorem dX0_addMouse_56 : decode cX0_addMouse 56 = .ok (.iconst 1, 1) := by decide +kernel
theorem dX0_addMouse_57 : decode cX0_addMouse 57 = .ok (.iadd, 1) := by decide +kernel
theorem dX0_addMouse_58 : decode cX0_addMouse 58 = .ok (.putfield 40, 3) := by decide +kernel
theorem dX0_addMouse_61 : decode cX0_addMouse 61 = .ok (.return_, 1) := by decide +kernel
theorem dX0_addRat_0 : decode cX0_addRat 0 = .ok (.aload_n 0, 1) := by decide +kernel
theorem dX0_addRat_1 : decode cX0_addRat 1 = .ok (.getfield 46, 3) := by decide +kernel
theorem dX0_addRat_4 : decode cX0_addRat 4 = .ok (.iconst 4, 1) := by decide +kernel
theorem dX0_addRat_5 : decode cX0_addRat 5 = .ok (.if_icmp .lt 4, 3) := by decide +kernel
theorem dX0_addRat_8 : decode cX0_addRat 8 = .ok (.return_, 1) := by decide +kernel
theorem dX0_addRat_9 : decode cX0_addRat 9 = .ok (.aload_n 0, 1) := by decide +kernel
theorem dX0_addRat_10 : decode cX0_addRat 10 = .ok (.getfield 27, 3) := by decide +kernel
theorem dX0_addRat_13 : decode cX0_addRat 13 = .ok (.aload_n 0, 1) := by decide +kernel
theorem dX0_addRat_14 : decode cX0_addRat 14 = .ok (.getfield 46, 3) := by decide +kernel
theorem dX0_addRat_17 : decode cX0_addRat 17 = .ok (.iload_n 1, 1) := by decide +kernel
theorem dX0_addRat_18 : decode cX0_addRat 18 = .ok (.iastore, 1) := by decide +kernel
theorem dX0_addRat_19 : decode cX0_addRat 19 = .ok (.aload_n 0, 1) := by decide +kernel
theorem dX0_addRat_20 : decode cX0_addRat 20 = .ok (.getfield 30, 3) := by decide +kernel
theorem dX0_addRat_23 : decode cX0_addRat 23 = .ok (.aload_n 0, 1) := by decide +kernel
theorem dX0_addRat_24 : decode cX0_addRat 24 = .ok (.getfield 46, 3) := by decide +kernel
theorem dX0_addRat_27 : decode cX0_addRat 27 = .ok (.iload_n 2, 1) := by decide +kernel
theorem dX0_addRat_28 : decode cX0_addRat 28 = .ok (.iastore, 1) := by decide +kernel
theorem dX0_addRat_29 : decode cX0_addRat 29 = .ok (.aload_n 0, 1) := by decide +kernel
theorem dX0_addRat_30 : decode cX0_addRat 30 = .ok (.getfield 33, 3) := by decide +kernel
theorem dX0_addRat_33 : decode cX0_addRat 33 = .ok (.aload_n 0, 1) := by decide +kernel
theorem dX0_addRat_34 : decode cX0_addRat 34 = .ok (.getfield 46, 3) := by decide +kernel
theorem dX0_addRat_37 : decode cX0_addRat 37 = .ok (.iload_n 3, 1) := by decide +kernel
theorem dX0_addRat_38 : decode cX0_addRat 38 = .ok (.iastore, 1) := by decide +kernel
theorem dX0_addRat_39 : decode cX0_addRat 39 = .ok (.aload_n 0, 1) := by decide +kernel
theorem dX0_addRat_40 : decode cX0_addRat 40 = .ok (.dup, 1) := by decide +kernel
theorem dX0_addRat_41 : decode cX0_addRat 41 = .ok (.getfield 46, 3) := by decide +kernel
theorem dX0_addRat_44 : decode cX0_addRat 44 = .ok (.iconst 1, 1) := by decide +kernel
theorem dX0_addRat_45 : decode cX0_addRat 45 = .ok (.iadd, 1) := by decide +kernel
theorem dX0_addRat_46 : decode cX0_addRat 46 = .ok (.putfield 46, 3) := by decide +kernel
theorem dX0_addRat_49 : decode cX0_addRat 49 = .ok (.return_, 1) := by decide +kernel
theorem dX0_empty_0 : decode cX0_empty 0 = .ok (.aload_n 0, 1) := by decide +kernel
theorem dX0_empty_1 : decode cX0_empty 1 = .ok (.iconst 0, 1) := by decide +kernel
theorem dX0_empty_2 : decode cX0_empty 2 = .ok (.putfield 40, 3) := by decide +kernel
theorem dX0_empty_5 : decode cX0_empty 5 = .ok (.aload_n 0, 1) := by decide +kernel
theorem dX0_empty_6 : decode cX0_empty 6 = .ok (.iconst 0, 1) := by decide +kernel
theorem dX0_empty_7 : decode cX0_empty 7 = .ok (.putfield 43, 3) := by decide +kernel
theorem dX0_empty_10 : decode cX0_empty 10 = .ok (.aload_n 0, 1) := by decide +kernel
theorem dX0_empty_11 : decode cX0_empty 11 = .ok (.iconst 0, 1) := by decide +kernel
theorem dX0_empty_12 : decode cX0_empty 12 = .ok (.putfield 46, 3) := by decide +kernel
theorem dX0_empty_15 : decode cX0_empty 15 = .ok (.aload_n 0, 1) := by decide +kernel
theorem dX0_empty_16 : decode cX0_empty 16 = .ok (.bipush 20, 2) := by decide +kernel
theorem dX0_empty_18 : decode cX0_empty 18 = .ok (.putfield 36, 3) := by decide +kernel
theorem dX0_empty_21 : decode cX0_empty 21 = .ok (.return_, 1) := by decide +kernel
theorem dX0_fearOf_0 : decode cX0_fearOf 0 = .ok (.aload_n 0, 1) := by decide +kernel
theorem dX0_fearOf_1 : decode cX0_fearOf 1 = .ok (.iload_n 1, 1) := by decide +kernel
theorem dX0_fearOf_2 : decode cX0_fearOf 2 = .ok (.invokevirtual 64, 3) := by decide +kernel
theorem dX0_fearOf_5 : decode cX0_fearOf 5 = .ok (.ifCond .eq 12, 3) := by decide +kernel
theorem dX0_fearOf_8 : decode cX0_fearOf 8 = .ok (.aload_n 0, 1) := by decide +kernel
theorem dX0_fearOf_9 : decode cX0_fearOf 9 = .ok (.getfield 18, 3) := by decide +kernel
theorem dX0_fearOf_12 : decode cX0_fearOf 12 = .ok (.iload_n 1, 1) := by decide +kernel
theorem dX0_fearOf_13 : decode cX0_fearOf 13 = .ok (.iaload, 1) := by decide +kernel
theorem dX0_fearOf_14 : decode cX0_fearOf 14 = .ok (.goto 4, 3) := by decide +kernel
theorem dX0_fearOf_17 : decode cX0_fearOf 17 = .ok (.iconst 0, 1) := by decide +kernel
theorem dX0_fearOf_18 : decode cX0_fearOf 18 = .ok (.ireturn, 1) := by decide +kernel
theorem dX0_worthOf_0 : decode cX0_worthOf 0 = .ok (.aload_n 0, 1) := by decide +kernel
theorem dX0_worthOf_1 : decode cX0_worthOf 1 = .ok (.iload_n 1, 1) := by decide +kernel
theorem dX0_worthOf_2 : decode cX0_worthOf 2 = .ok (.invokevirtual 67, 3) := by decide +kernel
theorem dX0_worthOf_5 : decode cX0_worthOf 5 = .ok (.ifCond .eq 34, 3) := by decide +kernel
theorem dX0_worthOf_8 : decode cX0_worthOf 8 = .ok (.aload_n 0, 1) := by decide +kernel
theorem dX0_worthOf_9 : decode cX0_worthOf 9 = .ok (.getfield 36, 3) := by decide +kernel
theorem dX0_worthOf_12 : decode cX0_worthOf 12 = .ok (.aload_n 0, 1) := by decide +kernel
theorem dX0_worthOf_13 : decode cX0_worthOf 13 = .ok (.getfield 30, 3) := by decide +kernel
theorem dX0_worthOf_16 : decode cX0_worthOf 16 = .ok (.iload_n 1, 1) := by decide +kernel
theorem dX0_worthOf_17 : decode cX0_worthOf 17 = .ok (.iaload, 1) := by decide +kernel
theorem dX0_worthOf_18 : decode cX0_worthOf 18 = .ok (.imul, 1) := by decide +kernel
theorem dX0_worthOf_19 : decode cX0_worthOf 19 = .ok (.aload_n 0, 1) := by decide +kernel
theorem dX0_worthOf_20 : decode cX0_worthOf 20 = .ok (.getfield 33, 3) := by decide +kernel
theorem dX0_worthOf_23 : decode cX0_worthOf 23 = .ok (.iload_n 1, 1) := by decide +kernel
theorem dX0_worthOf_24 : decode cX0_worthOf 24 = .ok (.iaload, 1) := by decide +kernel
theorem dX0_worthOf_25 : decode cX0_worthOf 25 = .ok (.imul, 1) := by decide +kernel
theorem dX0_worthOf_26 : decode cX0_worthOf 26 = .ok (.bipush 100, 2) := by decide +kernel
theorem dX0_worthOf_28 : decode cX0_worthOf 28 = .ok (.aload_n 0, 1) := by decide +kernel
theorem dX0_worthOf_29 : decode cX0_worthOf 29 = .ok (.getfield 27, 3) := by decide +kernel
theorem dX0_worthOf_32 : decode cX0_worthOf 32 = .ok (.iload_n 1, 1) := by decide +kernel
theorem dX0_worthOf_33 : decode cX0_worthOf 33 = .ok (.iaload, 1) := by decide +kernel
theorem dX0_worthOf_34 : decode cX0_worthOf 34 = .ok (.imul, 1) := by decide +kernel
theorem dX0_worthOf_35 : decode cX0_worthOf 35 = .ok (.isub, 1) := by decide +kernel
theorem dX0_worthOf_36 : decode cX0_worthOf 36 = .ok (.goto 4, 3) := by decide +kernel
theorem dX0_worthOf_39 : decode cX0_worthOf 39 = .ok (.iconst 0, 1) := by decide +kernel
theorem dX0_worthOf_40 : decode cX0_worthOf 40 = .ok (.ireturn, 1) := by decide +kernel
theorem dX0_dangerAt_0 : decode cX0_dangerAt 0 = .ok (.aload_n 0, 1) := by decide +kernel
theorem dX0_dangerAt_1 : decode cX0_dangerAt 1 = .ok (.iload_n 1, 1) := by decide +kernel
theorem dX0_dangerAt_2 : decode cX0_dangerAt 2 = .ok (.invokevirtual 70, 3) := by decide +kernel
theorem dX0_dangerAt_5 : decode cX0_dangerAt 5 = .ok (.ifCond .eq 11, 3) := by decide +kernel
theorem dX0_dangerAt_8 : decode cX0_dangerAt 8 = .ok (.aload_n 0, 1) := by decide +kernel
theorem dX0_dangerAt_9 : decode cX0_dangerAt 9 = .ok (.iload_n 2, 1) := by decide +kernel
theorem dX0_dangerAt_10 : decode cX0_dangerAt 10 = .ok (.invokevirtual 64, 3) := by decide +kernel
theorem dX0_dangerAt_13 : decode cX0_dangerAt 13 = .ok (.ifCond .ne 5, 3) := by decide +kernel
theorem dX0_dangerAt_16 : decode cX0_dangerAt 16 = .ok (.iconst 0, 1) := by decide +kernel
theorem dX0_dangerAt_17 : decode cX0_dangerAt 17 = .ok (.ireturn, 1) := by decide +kernel
theorem dX0_dangerAt_18 : decode cX0_dangerAt 18 = .ok (.aload_n 0, 1) := by decide +kernel
theorem dX0_dangerAt_19 : decode cX0_dangerAt 19 = .ok (.getfield 24, 3) := by decide +kernel
theorem dX0_dangerAt_22 : decode cX0_dangerAt 22 = .ok (.iload_n 1, 1) := by decide +kernel
theorem dX0_dangerAt_23 : decode cX0_dangerAt 23 = .ok (.iaload, 1) := by decide +kernel
theorem dX0_dangerAt_24 : decode cX0_dangerAt 24 = .ok (.aload_n 0, 1) := by decide +kernel
theorem dX0_dangerAt_25 : decode cX0_dangerAt 25 = .ok (.getfield 9, 3) := by decide +kernel
theorem dX0_dangerAt_28 : decode cX0_dangerAt 28 = .ok (.iload_n 2, 1) := by decide +kernel
theorem dX0_dangerAt_29 : decode cX0_dangerAt 29 = .ok (.iaload, 1) := by decide +kernel
theorem dX0_dangerAt_30 : decode cX0_dangerAt 30 = .ok (.aload_n 0, 1) := by decide +kernel
theorem dX0_dangerAt_31 : decode cX0_dangerAt 31 = .ok (.getfield 15, 3) := by decide +kernel
theorem dX0_dangerAt_34 : decode cX0_dangerAt 34 = .ok (.iload_n 2, 1) := by decide +kernel
theorem dX0_dangerAt_35 : decode cX0_dangerAt 35 = .ok (.iaload, 1) := by decide +kernel
theorem dX0_dangerAt_36 : decode cX0_dangerAt 36 = .ok (.invokestatic 73, 3) := by decide +kernel
theorem dX0_dangerAt_39 : decode cX0_dangerAt 39 = .ok (.ireturn, 1) := by decide +kernel
theorem dX0_aloneAbove_0 : decode cX0_aloneAbove 0 = .ok (.lconst 1, 1) := by decide +kernel
theorem dX0_aloneAbove_1 : decode cX0_aloneAbove 1 = .ok (.lstore_n 2, 1) := by decide +kernel
theorem dX0_aloneAbove_2 : decode cX0_aloneAbove 2 = .ok (.lconst 1, 1) := by decide +kernel
theorem dX0_aloneAbove_3 : decode cX0_aloneAbove 3 = .ok (.lstore 4, 2) := by decide +kernel
theorem dX0_aloneAbove_5 : decode cX0_aloneAbove 5 = .ok (.iconst 0, 1) := by decide +kernel
theorem dX0_aloneAbove_6 : decode cX0_aloneAbove 6 = .ok (.istore 6, 2) := by decide +kernel
theorem dX0_aloneAbove_8 : decode cX0_aloneAbove 8 = .ok (.iload 6, 2) := by decide +kernel
theorem dX0_aloneAbove_10 : decode cX0_aloneAbove 10 = .ok (.aload_n 0, 1) := by decide +kernel
theorem dX0_aloneAbove_11 : decode cX0_aloneAbove 11 = .ok (.getfield 43, 3) := by decide +kernel
theorem dX0_aloneAbove_14 : decode cX0_aloneAbove 14 = .ok (.if_icmp .ge 31, 3) := by decide +kernel
theorem dX0_aloneAbove_17 : decode cX0_aloneAbove 17 = .ok (.lload_n 2, 1) := by decide +kernel
theorem dX0_aloneAbove_18 : decode cX0_aloneAbove 18 = .ok (.ldc2_w 77, 3) := by decide +kernel
theorem dX0_aloneAbove_21 : decode cX0_aloneAbove 21 = .ok (.lmul, 1) := by decide +kernel
theorem dX0_aloneAbove_22 : decode cX0_aloneAbove 22 = .ok (.lstore_n 2, 1) := by decide +kernel
theorem dX0_aloneAbove_23 : decode cX0_aloneAbove 23 = .ok (.lload 4, 2) := by decide +kernel
theorem dX0_aloneAbove_25 : decode cX0_aloneAbove 25 = .ok (.bipush 10, 2) := by decide +kernel
theorem dX0_aloneAbove_27 : decode cX0_aloneAbove 27 = .ok (.aload_n 0, 1) := by decide +kernel
theorem dX0_aloneAbove_28 : decode cX0_aloneAbove 28 = .ok (.iload 6, 2) := by decide +kernel
theorem dX0_aloneAbove_30 : decode cX0_aloneAbove 30 = .ok (.iload_n 1, 1) := by decide +kernel
theorem dX0_aloneAbove_31 : decode cX0_aloneAbove 31 = .ok (.invokevirtual 79, 3) := by decide +kernel
theorem dX0_aloneAbove_34 : decode cX0_aloneAbove 34 = .ok (.isub, 1) := by decide +kernel
theorem dX0_aloneAbove_35 : decode cX0_aloneAbove 35 = .ok (.i2l, 1) := by decide +kernel
theorem dX0_aloneAbove_36 : decode cX0_aloneAbove 36 = .ok (.lmul, 1) := by decide +kernel
theorem dX0_aloneAbove_37 : decode cX0_aloneAbove 37 = .ok (.lstore 4, 2) := by decide +kernel
theorem dX0_aloneAbove_39 : decode cX0_aloneAbove 39 = .ok (.iinc 6 1, 3) := by decide +kernel
theorem dX0_aloneAbove_42 : decode cX0_aloneAbove 42 = .ok (.goto (-34), 3) := by decide +kernel
theorem dX0_aloneAbove_45 : decode cX0_aloneAbove 45 = .ok (.lload_n 2, 1) := by decide +kernel
theorem dX0_aloneAbove_46 : decode cX0_aloneAbove 46 = .ok (.lload 4, 2) := by decide +kernel
theorem dX0_aloneAbove_48 : decode cX0_aloneAbove 48 = .ok (.lsub, 1) := by decide +kernel
theorem dX0_aloneAbove_49 : decode cX0_aloneAbove 49 = .ok (.lreturn, 1) := by decide +kernel
theorem dX0_dreadAbove_0 : decode cX0_dreadAbove 0 = .ok (.aload_n 0, 1) := by decide +kernel
theorem dX0_dreadAbove_1 : decode cX0_dreadAbove 1 = .ok (.iload_n 1, 1) := by decide +kernel
theorem dX0_dreadAbove_2 : decode cX0_dreadAbove 2 = .ok (.invokevirtual 83, 3) := by decide +kernel
theorem dX0_dreadAbove_5 : decode cX0_dreadAbove 5 = .ok (.i2l, 1) := by decide +kernel
theorem dX0_dreadAbove_6 : decode cX0_dreadAbove 6 = .ok (.aload_n 0, 1) := by decide +kernel
theorem dX0_dreadAbove_7 : decode cX0_dreadAbove 7 = .ok (.iload_n 1, 1) := by decide +kernel
theorem dX0_dreadAbove_8 : decode cX0_dreadAbove 8 = .ok (.invokevirtual 87, 3) := by decide +kernel
theorem dX0_dreadAbove_11 : decode cX0_dreadAbove 11 = .ok (.lmul, 1) := by decide +kernel
theorem dX0_dreadAbove_12 : decode cX0_dreadAbove 12 = .ok (.lreturn, 1) := by decide +kernel
theorem dX1_init_0 : decode cX1_init 0 = .ok (.aload_n 0, 1) := by decide +kernel
theorem dX1_init_1 : decode cX1_init 1 = .ok (.invokespecial 3, 3) := by decide +kernel
theorem dX1_init_4 : decode cX1_init 4 = .ok (.return_, 1) := by decide +kernel
theorem dX1_weigh_0 : decode cX1_weigh 0 = .ok (.aload_n 0, 1) := by decide +kernel
theorem dX1_weigh_1 : decode cX1_weigh 1 = .ok (.iload_n 2, 1) := by decide +kernel
theorem dX1_weigh_2 : decode cX1_weigh 2 = .ok (.putfield 9, 3) := by decide +kernel
theorem dX1_weigh_5 : decode cX1_weigh 5 = .ok (.aload_n 0, 1) := by decide +kernel
theorem dX1_weigh_6 : decode cX1_weigh 6 = .ok (.iconst 0, 1) := by decide +kernel
theorem dX1_weigh_7 : decode cX1_weigh 7 = .ok (.putfield 15, 3) := by decide +kernel
theorem dX1_weigh_10 : decode cX1_weigh 10 = .ok (.aload_n 0, 1) := by decide +kernel
theorem dX1_weigh_11 : decode cX1_weigh 11 = .ok (.iconst 0, 1) := by decide +kernel
theorem dX1_weigh_12 : decode cX1_weigh 12 = .ok (.putfield 18, 3) := by decide +kernel
theorem dX1_weigh_15 : decode cX1_weigh 15 = .ok (.aload_n 0, 1) := by decide +kernel
theorem dX1_weigh_16 : decode cX1_weigh 16 = .ok (.iconst 0, 1) := by decide +kernel
theorem dX1_weigh_17 : decode cX1_weigh 17 = .ok (.putfield 21, 3) := by decide +kernel
theorem dX1_weigh_20 : decode cX1_weigh 20 = .ok (.aload_n 0, 1) := by decide +kernel
theorem dX1_weigh_21 : decode cX1_weigh 21 = .ok (.iconst 0, 1) := by decide +kernel
theorem dX1_weigh_22 : decode cX1_weigh 22 = .ok (.putfield 24, 3) := by decide +kernel
theorem dX1_weigh_25 : decode cX1_weigh 25 = .ok (.aload_n 1, 1) := by decide +kernel
theorem dX1_weigh_26 : decode cX1_weigh 26 = .ok (.getfield 27, 3) := by decide +kernel
theorem dX1_weigh_29 : decode cX1_weigh 29 = .ok (.invokestatic 32, 3) := by decide +kernel
theorem dX1_weigh_32 : decode cX1_weigh 32 = .ok (.lstore 4, 2) := by decide +kernel
theorem dX1_weigh_34 : decode cX1_weigh 34 = .ok (.iload_n 3, 1) := by decide +kernel
theorem dX1_weigh_35 : decode cX1_weigh 35 = .ok (.i2l, 1) := by decide +kernel
theorem dX1_weigh_36 : decode cX1_weigh 36 = .ok (.lload 4, 2) := by decide +kernel
theorem dX1_weigh_38 : decode cX1_weigh 38 = .ok (.lmul, 1) := by decide +kernel
theorem dX1_weigh_39 : decode cX1_weigh 39 = .ok (.lstore 6, 2) := by decide +kernel
theorem dX1_weigh_41 : decode cX1_weigh 41 = .ok (.iload_n 3, 1) := by decide +kernel
theorem dX1_weigh_42 : decode cX1_weigh 42 = .ok (.aload_n 1, 1) := by decide +kernel
theorem dX1_weigh_43 : decode cX1_weigh 43 = .ok (.getfield 36, 3) := by decide +kernel
theorem dX1_weigh_46 : decode cX1_weigh 46 = .ok (.iadd, 1) := by decide +kernel
theorem dX1_weigh_47 : decode cX1_weigh 47 = .ok (.i2l, 1) := by decide +kernel
theorem dX1_weigh_48 : decode cX1_weigh 48 = .ok (.lload 4, 2) := by decide +kernel
theorem dX1_weigh_50 : decode cX1_weigh 50 = .ok (.lmul, 1) := by decide +kernel
theorem dX1_weigh_51 : decode cX1_weigh 51 = .ok (.lstore 8, 2) := by decide +kernel
theorem dX1_weigh_53 : decode cX1_weigh 53 = .ok (.iconst 0, 1) := by decide +kernel
theorem dX1_weigh_54 : decode cX1_weigh 54 = .ok (.istore 10, 2) := by decide +kernel
theorem dX1_weigh_56 : decode cX1_weigh 56 = .ok (.iload 10, 2) := by decide +kernel
theorem dX1_weigh_58 : decode cX1_weigh 58 = .ok (.aload_n 1, 1) := by decide +kernel
theorem dX1_weigh_59 : decode cX1_weigh 59 = .ok (.getfield 39, 3) := by decide +kernel
theorem dX1_weigh_62 : decode cX1_weigh 62 = .ok (.if_icmp .ge 117, 3) := by decide +kernel
theorem dX1_weigh_65 : decode cX1_weigh 65 = .ok (.aload_n 1, 1) := by decide +kernel
theorem dX1_weigh_66 : decode cX1_weigh 66 = .ok (.iload 10, 2) := by decide +kernel
theorem dX1_weigh_68 : decode cX1_weigh 68 = .ok (.invokevirtual 42, 3) := by decide +kernel
theorem dX1_weigh_71 : decode cX1_weigh 71 = .ok (.lstore 11, 2) := by decide +kernel
theorem dX1_weigh_73 : decode cX1_weigh 73 = .ok (.aload_n 0, 1) := by decide +kernel
theorem dX1_weigh_74 : decode cX1_weigh 74 = .ok (.dup, 1) := by decide +kernel
theorem dX1_weigh_75 : decode cX1_weigh 75 = .ok (.getfield 15, 3) := by decide +kernel
theorem dX1_weigh_78 : decode cX1_weigh 78 = .ok (.lload 11, 2) := by decide +kernel
theorem dX1_weigh_80 : decode cX1_weigh 80 = .ok (.lload 6, 2) := by decide +kernel
theorem dX1_weigh_82 : decode cX1_weigh 82 = .ok (.lcmp, 1) := by decide +kernel
theorem dX1_weigh_83 : decode cX1_weigh 83 = .ok (.ifCond .gt 10, 3) := by decide +kernel
theorem dX1_weigh_86 : decode cX1_weigh 86 = .ok (.iconst 1, 1) := by decide +kernel
theorem dX1_weigh_87 : decode cX1_weigh 87 = .ok (.iload 10, 2) := by decide +kernel
theorem dX1_weigh_89 : decode cX1_weigh 89 = .ok (.ishl, 1) := by decide +kernel
theorem dX1_weigh_90 : decode cX1_weigh 90 = .ok (.goto 4, 3) := by decide +kernel
theorem dX1_weigh_93 : decode cX1_weigh 93 = .ok (.iconst 0, 1) := by decide +kernel
theorem dX1_weigh_94 : decode cX1_weigh 94 = .ok (.ior, 1) := by decide +kernel
theorem dX1_weigh_95 : decode cX1_weigh 95 = .ok (.putfield 15, 3) := by decide +kernel
theorem dX1_weigh_98 : decode cX1_weigh 98 = .ok (.aload_n 0, 1) := by decide +kernel
theorem dX1_weigh_99 : decode cX1_weigh 99 = .ok (.dup, 1) := by decide +kernel
theorem dX1_weigh_100 : decode cX1_weigh 100 = .ok (.getfield 18, 3) := by decide +kernel
theorem dX1_weigh_103 : decode cX1_weigh 103 = .ok (.lload 11, 2) := by decide +kernel
theorem dX1_weigh_105 : decode cX1_weigh 105 = .ok (.lload 6, 2) := by decide +kernel
theorem dX1_weigh_107 : decode cX1_weigh 107 = .ok (.lcmp, 1) := by decide +kernel
theorem dX1_weigh_108 : decode cX1_weigh 108 = .ok (.ifCond .lt 10, 3) := by decide +kernel
theorem dX1_weigh_111 : decode cX1_weigh 111 = .ok (.iconst 1, 1) := by decide +kernel
theorem dX1_weigh_112 : decode cX1_weigh 112 = .ok (.iload 10, 2) := by decide +kernel
theorem dX1_weigh_114 : decode cX1_weigh 114 = .ok (.ishl, 1) := by decide +kernel
theorem dX1_weigh_115 : decode cX1_weigh 115 = .ok (.goto 4, 3) := by decide +kernel
theorem dX1_weigh_118 : decode cX1_weigh 118 = .ok (.iconst 0, 1) := by decide +kernel
theorem dX1_weigh_119 : decode cX1_weigh 119 = .ok (.ior, 1) := by decide +kernel
theorem dX1_weigh_120 : decode cX1_weigh 120 = .ok (.putfield 18, 3) := by decide +kernel
theorem dX1_weigh_123 : decode cX1_weigh 123 = .ok (.aload_n 0, 1) := by decide +kernel
theorem dX1_weigh_124 : decode cX1_weigh 124 = .ok (.dup, 1) := by decide +kernel
theorem dX1_weigh_125 : decode cX1_weigh 125 = .ok (.getfield 21, 3) := by decide +kernel
theorem dX1_weigh_128 : decode cX1_weigh 128 = .ok (.lload 11, 2) := by decide +kernel
theorem dX1_weigh_130 : decode cX1_weigh 130 = .ok (.lload 8, 2) := by decide +kernel
theorem dX1_weigh_132 : decode cX1_weigh 132 = .ok (.lcmp, 1) := by decide +kernel
theorem dX1_weigh_133 : decode cX1_weigh 133 = .ok (.ifCond .gt 10, 3) := by decide +kernel
theorem dX1_weigh_136 : decode cX1_weigh 136 = .ok (.iconst 1, 1) := by decide +kernel
theorem dX1_weigh_137 : decode cX1_weigh 137 = .ok (.iload 10, 2) := by decide +kernel
theorem dX1_weigh_139 : decode cX1_weigh 139 = .ok (.ishl, 1) := by decide +kernel
theorem dX1_weigh_140 : decode cX1_weigh 140 = .ok (.goto 4, 3) := by decide +kernel
theorem dX1_weigh_143 : decode cX1_weigh 143 = .ok (.iconst 0, 1) := by decide +kernel
theorem dX1_weigh_144 : decode cX1_weigh 144 = .ok (.ior, 1) := by decide +kernel
theorem dX1_weigh_145 : decode cX1_weigh 145 = .ok (.putfield 21, 3) := by decide +kernel
theorem dX1_weigh_148 : decode cX1_weigh 148 = .ok (.aload_n 0, 1) := by decide +kernel
theorem dX1_weigh_149 : decode cX1_weigh 149 = .ok (.dup, 1) := by decide +kernel
theorem dX1_weigh_150 : decode cX1_weigh 150 = .ok (.getfield 24, 3) := by decide +kernel
theorem dX1_weigh_153 : decode cX1_weigh 153 = .ok (.lload 11, 2) := by decide +kernel
theorem dX1_weigh_155 : decode cX1_weigh 155 = .ok (.lload 8, 2) := by decide +kernel
theorem dX1_weigh_157 : decode cX1_weigh 157 = .ok (.lcmp, 1) := by decide +kernel
theorem dX1_weigh_158 : decode cX1_weigh 158 = .ok (.ifCond .ge 10, 3) := by decide +kernel
theorem dX1_weigh_161 : decode cX1_weigh 161 = .ok (.iconst 1, 1) := by decide +kernel
theorem dX1_weigh_162 : decode cX1_weigh 162 = .ok (.iload 10, 2) := by decide +kernel
theorem dX1_weigh_164 : decode cX1_weigh 164 = .ok (.ishl, 1) := by decide +kernel
theorem dX1_weigh_165 : decode cX1_weigh 165 = .ok (.goto 4, 3) := by decide +kernel
theorem dX1_weigh_168 : decode cX1_weigh 168 = .ok (.iconst 0, 1) := by decide +kernel
theorem dX1_weigh_169 : decode cX1_weigh 169 = .ok (.ior, 1) := by decide +kernel
theorem dX1_weigh_170 : decode cX1_weigh 170 = .ok (.putfield 24, 3) := by decide +kernel
theorem dX1_weigh_173 : decode cX1_weigh 173 = .ok (.iinc 10 1, 3) := by decide +kernel
theorem dX1_weigh_176 : decode cX1_weigh 176 = .ok (.goto (-120), 3) := by decide +kernel
theorem dX1_weigh_179 : decode cX1_weigh 179 = .ok (.return_, 1) := by decide +kernel
theorem dX1_isAtRest_0 : decode cX1_isAtRest 0 = .ok (.iload_n 1, 1) := by decide +kernel
theorem dX1_isAtRest_1 : decode cX1_isAtRest 1 = .ok (.aload_n 0, 1) := by decide +kernel
theorem dX1_isAtRest_2 : decode cX1_isAtRest 2 = .ok (.getfield 9, 3) := by decide +kernel
theorem dX1_isAtRest_5 : decode cX1_isAtRest 5 = .ok (.iconst (-1), 1) := by decide +kernel
theorem dX1_isAtRest_6 : decode cX1_isAtRest 6 = .ok (.ixor, 1) := by decide +kernel
theorem dX1_isAtRest_7 : decode cX1_isAtRest 7 = .ok (.iand, 1) := by decide +kernel
theorem dX1_isAtRest_8 : decode cX1_isAtRest 8 = .ok (.ifCond .eq 5, 3) := by decide +kernel
theorem dX1_isAtRest_11 : decode cX1_isAtRest 11 = .ok (.iconst 0, 1) := by decide +kernel
theorem dX1_isAtRest_12 : decode cX1_isAtRest 12 = .ok (.ireturn, 1) := by decide +kernel
theorem dX1_isAtRest_13 : decode cX1_isAtRest 13 = .ok (.iload_n 1, 1) := by decide +kernel
theorem dX1_isAtRest_14 : decode cX1_isAtRest 14 = .ok (.ifCond .ne 21, 3) := by decide +kernel
theorem dX1_isAtRest_17 : decode cX1_isAtRest 17 = .ok (.aload_n 0, 1) := by decide +kernel
theorem dX1_isAtRest_18 : decode cX1_isAtRest 18 = .ok (.getfield 9, 3) := by decide +kernel
theorem dX1_isAtRest_21 : decode cX1_isAtRest 21 = .ok (.aload_n 0, 1) := by decide +kernel
theorem dX1_isAtRest_22 : decode cX1_isAtRest 22 = .ok (.getfield 24, 3) := by decide +kernel
theorem dX1_isAtRest_25 : decode cX1_isAtRest 25 = .ok (.iand, 1) := by decide +kernel
theorem dX1_isAtRest_26 : decode cX1_isAtRest 26 = .ok (.ifCond .ne 7, 3) := by decide +kernel
theorem dX1_isAtRest_29 : decode cX1_isAtRest 29 = .ok (.iconst 1, 1) := by decide +kernel
theorem dX1_isAtRest_30 : decode cX1_isAtRest 30 = .ok (.goto 4, 3) := by decide +kernel
theorem dX1_isAtRest_33 : decode cX1_isAtRest 33 = .ok (.iconst 0, 1) := by decide +kernel
theorem dX1_isAtRest_34 : decode cX1_isAtRest 34 = .ok (.ireturn, 1) := by decide +kernel
theorem dX1_isAtRest_35 : decode cX1_isAtRest 35 = .ok (.aload_n 0, 1) := by decide +kernel
theorem dX1_isAtRest_36 : decode cX1_isAtRest 36 = .ok (.getfield 9, 3) := by decide +kernel
theorem dX1_isAtRest_39 : decode cX1_isAtRest 39 = .ok (.iload_n 1, 1) := by decide +kernel
theorem dX1_isAtRest_40 : decode cX1_isAtRest 40 = .ok (.iconst (-1), 1) := by decide +kernel
theorem dX1_isAtRest_41 : decode cX1_isAtRest 41 = .ok (.ixor, 1) := by decide +kernel
theorem dX1_isAtRest_42 : decode cX1_isAtRest 42 = .ok (.iand, 1) := by decide +kernel
theorem dX1_isAtRest_43 : decode cX1_isAtRest 43 = .ok (.istore_n 2, 1) := by decide +kernel
theorem dX1_isAtRest_44 : decode cX1_isAtRest 44 = .ok (.iload_n 1, 1) := by decide +kernel
theorem dX1_isAtRest_45 : decode cX1_isAtRest 45 = .ok (.invokestatic 45, 3) := by decide +kernel
theorem dX1_isAtRest_48 : decode cX1_isAtRest 48 = .ok (.iconst 1, 1) := by decide +kernel
theorem dX1_isAtRest_49 : decode cX1_isAtRest 49 = .ok (.if_icmp .ne 10, 3) := by decide +kernel
theorem dX1_isAtRest_52 : decode cX1_isAtRest 52 = .ok (.aload_n 0, 1) := by decide +kernel
theorem dX1_isAtRest_53 : decode cX1_isAtRest 53 = .ok (.getfield 21, 3) := by decide +kernel
theorem dX1_isAtRest_56 : decode cX1_isAtRest 56 = .ok (.goto 7, 3) := by decide +kernel
theorem dX1_isAtRest_59 : decode cX1_isAtRest 59 = .ok (.aload_n 0, 1) := by decide +kernel
theorem dX1_isAtRest_60 : decode cX1_isAtRest 60 = .ok (.getfield 15, 3) := by decide +kernel
theorem dX1_isAtRest_63 : decode cX1_isAtRest 63 = .ok (.istore_n 3, 1) := by decide +kernel
theorem dX1_isAtRest_64 : decode cX1_isAtRest 64 = .ok (.iload_n 2, 1) := by decide +kernel
theorem dX1_isAtRest_65 : decode cX1_isAtRest 65 = .ok (.aload_n 0, 1) := by decide +kernel
theorem dX1_isAtRest_66 : decode cX1_isAtRest 66 = .ok (.getfield 18, 3) := by decide +kernel
theorem dX1_isAtRest_69 : decode cX1_isAtRest 69 = .ok (.iconst (-1), 1) := by decide +kernel
theorem dX1_isAtRest_70 : decode cX1_isAtRest 70 = .ok (.ixor, 1) := by decide +kernel
theorem dX1_isAtRest_71 : decode cX1_isAtRest 71 = .ok (.iand, 1) := by decide +kernel
theorem dX1_isAtRest_72 : decode cX1_isAtRest 72 = .ok (.ifCond .ne 15, 3) := by decide +kernel
theorem dX1_isAtRest_75 : decode cX1_isAtRest 75 = .ok (.iload_n 1, 1) := by decide +kernel
theorem dX1_isAtRest_76 : decode cX1_isAtRest 76 = .ok (.iload_n 3, 1) := by decide +kernel
theorem dX1_isAtRest_77 : decode cX1_isAtRest 77 = .ok (.iconst (-1), 1) := by decide +kernel
theorem dX1_isAtRest_78 : decode cX1_isAtRest 78 = .ok (.ixor, 1) := by decide +kernel
theorem dX1_isAtRest_79 : decode cX1_isAtRest 79 = .ok (.iand, 1) := by decide +kernel
theorem dX1_isAtRest_80 : decode cX1_isAtRest 80 = .ok (.ifCond .ne 7, 3) := by decide +kernel
theorem dX1_isAtRest_83 : decode cX1_isAtRest 83 = .ok (.iconst 1, 1) := by decide +kernel
theorem dX1_isAtRest_84 : decode cX1_isAtRest 84 = .ok (.goto 4, 3) := by decide +kernel
theorem dX1_isAtRest_87 : decode cX1_isAtRest 87 = .ok (.iconst 0, 1) := by decide +kernel
theorem dX1_isAtRest_88 : decode cX1_isAtRest 88 = .ok (.ireturn, 1) := by decide +kernel
theorem dX1_howManyRest_0 : decode cX1_howManyRest 0 = .ok (.iconst 0, 1) := by decide +kernel
theorem dX1_howManyRest_1 : decode cX1_howManyRest 1 = .ok (.istore_n 1, 1) := by decide +kernel
theorem dX1_howManyRest_2 : decode cX1_howManyRest 2 = .ok (.iconst 0, 1) := by decide +kernel
theorem dX1_howManyRest_3 : decode cX1_howManyRest 3 = .ok (.istore_n 2, 1) := by decide +kernel
theorem dX1_howManyRest_4 : decode cX1_howManyRest 4 = .ok (.iload_n 2, 1) := by decide +kernel
theorem dX1_howManyRest_5 : decode cX1_howManyRest 5 = .ok (.bipush 64, 2) := by decide +kernel
theorem dX1_howManyRest_7 : decode cX1_howManyRest 7 = .ok (.if_icmp .ge 25, 3) := by decide +kernel
theorem dX1_howManyRest_10 : decode cX1_howManyRest 10 = .ok (.iload_n 1, 1) := by decide +kernel
theorem dX1_howManyRest_11 : decode cX1_howManyRest 11 = .ok (.aload_n 0, 1) := by decide +kernel
theorem dX1_howManyRest_12 : decode cX1_howManyRest 12 = .ok (.iload_n 2, 1) := by decide +kernel
theorem dX1_howManyRest_13 : decode cX1_howManyRest 13 = .ok (.invokevirtual 51, 3) := by decide +kernel
theorem dX1_howManyRest_16 : decode cX1_howManyRest 16 = .ok (.ifCond .eq 7, 3) := by decide +kernel
theorem dX1_howManyRest_19 : decode cX1_howManyRest 19 = .ok (.iconst 1, 1) := by decide +kernel
theorem dX1_howManyRest_20 : decode cX1_howManyRest 20 = .ok (.goto 4, 3) := by decide +kernel
theorem dX1_howManyRest_23 : decode cX1_howManyRest 23 = .ok (.iconst 0, 1) := by decide +kernel
theorem dX1_howManyRest_24 : decode cX1_howManyRest 24 = .ok (.iadd, 1) := by decide +kernel
theorem dX1_howManyRest_25 : decode cX1_howManyRest 25 = .ok (.istore_n 1, 1) := by decide +kernel
theorem dX1_howManyRest_26 : decode cX1_howManyRest 26 = .ok (.iinc 2 1, 3) := by decide +kernel
theorem dX1_howManyRest_29 : decode cX1_howManyRest 29 = .ok (.goto (-25), 3) := by decide +kernel
theorem dX1_howManyRest_32 : decode cX1_howManyRest 32 = .ok (.iload_n 1, 1) := by decide +kernel
theorem dX1_howManyRest_33 : decode cX1_howManyRest 33 = .ok (.ireturn, 1) := by decide +kernel
theorem dX1_leastAtRest_0 : decode cX1_leastAtRest 0 = .ok (.iconst 0, 1) := by decide +kernel
theorem dX1_leastAtRest_1 : decode cX1_leastAtRest 1 = .ok (.istore_n 1, 1) := by decide +kernel
theorem dX1_leastAtRest_2 : decode cX1_leastAtRest 2 = .ok (.iload_n 1, 1) := by decide +kernel
theorem dX1_leastAtRest_3 : decode cX1_leastAtRest 3 = .ok (.bipush 64, 2) := by decide +kernel
theorem dX1_leastAtRest_5 : decode cX1_leastAtRest 5 = .ok (.if_icmp .ge 19, 3) := by decide +kernel
theorem dX1_leastAtRest_8 : decode cX1_leastAtRest 8 = .ok (.aload_n 0, 1) := by decide +kernel
theorem dX1_leastAtRest_9 : decode cX1_leastAtRest 9 = .ok (.iload_n 1, 1) := by decide +kernel
theorem dX1_leastAtRest_10 : decode cX1_leastAtRest 10 = .ok (.invokevirtual 51, 3) := by decide +kernel
theorem dX1_leastAtRest_13 : decode cX1_leastAtRest 13 = .ok (.ifCond .eq 5, 3) := by decide +kernel
theorem dX1_leastAtRest_16 : decode cX1_leastAtRest 16 = .ok (.iload_n 1, 1) := by decide +kernel
theorem dX1_leastAtRest_17 : decode cX1_leastAtRest 17 = .ok (.ireturn, 1) := by decide +kernel
theorem dX1_leastAtRest_18 : decode cX1_leastAtRest 18 = .ok (.iinc 1 1, 3) := by decide +kernel
theorem dX1_leastAtRest_21 : decode cX1_leastAtRest 21 = .ok (.goto (-19), 3) := by decide +kernel
theorem dX1_leastAtRest_24 : decode cX1_leastAtRest 24 = .ok (.iconst (-1), 1) := by decide +kernel
theorem dX1_leastAtRest_25 : decode cX1_leastAtRest 25 = .ok (.ireturn, 1) := by decide +kernel
theorem dX2_init_0 : decode cX2_init 0 = .ok (.aload_n 0, 1) := by decide +kernel
theorem dX2_init_1 : decode cX2_init 1 = .ok (.invokespecial 3, 3) := by decide +kernel
theorem dX2_init_4 : decode cX2_init 4 = .ok (.aload_n 0, 1) := by decide +kernel
theorem dX2_init_5 : decode cX2_init 5 = .ok (.iconst 5, 1) := by decide +kernel
theorem dX2_init_6 : decode cX2_init 6 = .ok (.newarray .int, 2) := by decide +kernel
theorem dX2_init_8 : decode cX2_init 8 = .ok (.putfield 9, 3) := by decide +kernel
theorem dX2_init_11 : decode cX2_init 11 = .ok (.aload_n 0, 1) := by decide +kernel
theorem dX2_init_12 : decode cX2_init 12 = .ok (.iconst 5, 1) := by decide +kernel
theorem dX2_init_13 : decode cX2_init 13 = .ok (.newarray .int, 2) := by decide +kernel
theorem dX2_init_15 : decode cX2_init 15 = .ok (.putfield 15, 3) := by decide +kernel
theorem dX2_init_18 : decode cX2_init 18 = .ok (.return_, 1) := by decide +kernel
theorem dX2_run_0 : decode cX2_run 0 = .ok (.aload_n 0, 1) := by decide +kernel
theorem dX2_run_1 : decode cX2_run 1 = .ok (.getfield 15, 3) := by decide +kernel
theorem dX2_run_4 : decode cX2_run 4 = .ok (.iconst (-1), 1) := by decide +kernel
theorem dX2_run_5 : decode cX2_run 5 = .ok (.invokestatic 18, 3) := by decide +kernel
theorem dX2_run_8 : decode cX2_run 8 = .ok (.aload_n 0, 1) := by decide +kernel
theorem dX2_run_9 : decode cX2_run 9 = .ok (.ldc2_w 24, 3) := by decide +kernel
theorem dX2_run_12 : decode cX2_run 12 = .ok (.putfield 26, 3) := by decide +kernel
theorem dX2_run_15 : decode cX2_run 15 = .ok (.aload_n 0, 1) := by decide +kernel
theorem dX2_run_16 : decode cX2_run 16 = .ok (.aload_n 1, 1) := by decide +kernel
theorem dX2_run_17 : decode cX2_run 17 = .ok (.getfield 30, 3) := by decide +kernel
theorem dX2_run_20 : decode cX2_run 20 = .ok (.iload_n 2, 1) := by decide +kernel
theorem dX2_run_21 : decode cX2_run 21 = .ok (.invokestatic 36, 3) := by decide +kernel
theorem dX2_run_24 : decode cX2_run 24 = .ok (.if_icmp .le 7, 3) := by decide +kernel
theorem dX2_run_27 : decode cX2_run 27 = .ok (.iconst 1, 1) := by decide +kernel
theorem dX2_run_28 : decode cX2_run 28 = .ok (.goto 4, 3) := by decide +kernel
theorem dX2_run_31 : decode cX2_run 31 = .ok (.iconst 0, 1) := by decide +kernel
theorem dX2_run_32 : decode cX2_run 32 = .ok (.putfield 42, 3) := by decide +kernel
theorem dX2_run_35 : decode cX2_run 35 = .ok (.aload_n 0, 1) := by decide +kernel
theorem dX2_run_36 : decode cX2_run 36 = .ok (.aload_n 1, 1) := by decide +kernel
theorem dX2_run_37 : decode cX2_run 37 = .ok (.iconst 0, 1) := by decide +kernel
theorem dX2_run_38 : decode cX2_run 38 = .ok (.lconst 1, 1) := by decide +kernel
theorem dX2_run_39 : decode cX2_run 39 = .ok (.iload_n 2, 1) := by decide +kernel
theorem dX2_run_40 : decode cX2_run 40 = .ok (.invokestatic 46, 3) := by decide +kernel
theorem dX2_run_43 : decode cX2_run 43 = .ok (.return_, 1) := by decide +kernel
theorem dX2_tryFrom_0 : decode cX2_tryFrom 0 = .ok (.aload_n 1, 1) := by decide +kernel
theorem dX2_tryFrom_1 : decode cX2_tryFrom 1 = .ok (.iload_n 2, 1) := by decide +kernel
theorem dX2_tryFrom_2 : decode cX2_tryFrom 2 = .ok (.invokevirtual 50, 3) := by decide +kernel
theorem dX2_tryFrom_5 : decode cX2_tryFrom 5 = .ok (.ifCond .ne 9, 3) := by decide +kernel
theorem dX2_tryFrom_8 : decode cX2_tryFrom 8 = .ok (.aload_n 0, 1) := by decide +kernel
theorem dX2_tryFrom_9 : decode cX2_tryFrom 9 = .ok (.lload_n 3, 1) := by decide +kernel
theorem dX2_tryFrom_10 : decode cX2_tryFrom 10 = .ok (.invokevirtual 54, 3) := by decide +kernel
theorem dX2_tryFrom_13 : decode cX2_tryFrom 13 = .ok (.return_, 1) := by decide +kernel
theorem dX2_tryFrom_14 : decode cX2_tryFrom 14 = .ok (.lload_n 3, 1) := by decide +kernel
theorem dX2_tryFrom_15 : decode cX2_tryFrom 15 = .ok (.aload_n 1, 1) := by decide +kernel
theorem dX2_tryFrom_16 : decode cX2_tryFrom 16 = .ok (.getfield 30, 3) := by decide +kernel
theorem dX2_tryFrom_19 : decode cX2_tryFrom 19 = .ok (.iload_n 2, 1) := by decide +kernel
theorem dX2_tryFrom_20 : decode cX2_tryFrom 20 = .ok (.isub, 1) := by decide +kernel
theorem dX2_tryFrom_21 : decode cX2_tryFrom 21 = .ok (.invokestatic 58, 3) := by decide +kernel
theorem dX2_tryFrom_24 : decode cX2_tryFrom 24 = .ok (.lmul, 1) := by decide +kernel
theorem dX2_tryFrom_25 : decode cX2_tryFrom 25 = .ok (.aload_n 0, 1) := by decide +kernel
theorem dX2_tryFrom_26 : decode cX2_tryFrom 26 = .ok (.getfield 26, 3) := by decide +kernel
theorem dX2_tryFrom_29 : decode cX2_tryFrom 29 = .ok (.lcmp, 1) := by decide +kernel
theorem dX2_tryFrom_30 : decode cX2_tryFrom 30 = .ok (.ifCond .gt 4, 3) := by decide +kernel
theorem dX2_tryFrom_33 : decode cX2_tryFrom 33 = .ok (.return_, 1) := by decide +kernel
theorem dX2_tryFrom_34 : decode cX2_tryFrom 34 = .ok (.iconst 0, 1) := by decide +kernel
theorem dX2_tryFrom_35 : decode cX2_tryFrom 35 = .ok (.istore 6, 2) := by decide +kernel
theorem dX2_tryFrom_37 : decode cX2_tryFrom 37 = .ok (.iload 6, 2) := by decide +kernel
theorem dX2_tryFrom_39 : decode cX2_tryFrom 39 = .ok (.aload_n 1, 1) := by decide +kernel
theorem dX2_tryFrom_40 : decode cX2_tryFrom 40 = .ok (.getfield 62, 3) := by decide +kernel
theorem dX2_tryFrom_43 : decode cX2_tryFrom 43 = .ok (.if_icmp .ge 74, 3) := by decide +kernel
theorem dX2_tryFrom_46 : decode cX2_tryFrom 46 = .ok (.iload 5, 2) := by decide +kernel
theorem dX2_tryFrom_48 : decode cX2_tryFrom 48 = .ok (.iload 6, 2) := by decide +kernel
theorem dX2_tryFrom_50 : decode cX2_tryFrom 50 = .ok (.ishr, 1) := by decide +kernel
theorem dX2_tryFrom_51 : decode cX2_tryFrom 51 = .ok (.iconst 1, 1) := by decide +kernel
theorem dX2_tryFrom_52 : decode cX2_tryFrom 52 = .ok (.iand, 1) := by decide +kernel
theorem dX2_tryFrom_53 : decode cX2_tryFrom 53 = .ok (.iconst 1, 1) := by decide +kernel
theorem dX2_tryFrom_54 : decode cX2_tryFrom 54 = .ok (.if_icmp .ne 57, 3) := by decide +kernel
theorem dX2_tryFrom_57 : decode cX2_tryFrom 57 = .ok (.aload_n 0, 1) := by decide +kernel
theorem dX2_tryFrom_58 : decode cX2_tryFrom 58 = .ok (.getfield 9, 3) := by decide +kernel
theorem dX2_tryFrom_61 : decode cX2_tryFrom 61 = .ok (.iload_n 2, 1) := by decide +kernel
theorem dX2_tryFrom_62 : decode cX2_tryFrom 62 = .ok (.iload 6, 2) := by decide +kernel
theorem dX2_tryFrom_64 : decode cX2_tryFrom 64 = .ok (.iastore, 1) := by decide +kernel
theorem dX2_tryFrom_65 : decode cX2_tryFrom 65 = .ok (.aload_n 0, 1) := by decide +kernel
theorem dX2_tryFrom_66 : decode cX2_tryFrom 66 = .ok (.getfield 42, 3) := by decide +kernel
theorem dX2_tryFrom_69 : decode cX2_tryFrom 69 = .ok (.ifCond .eq 8, 3) := by decide +kernel
theorem dX2_tryFrom_72 : decode cX2_tryFrom 72 = .ok (.iload 5, 2) := by decide +kernel
theorem dX2_tryFrom_74 : decode cX2_tryFrom 74 = .ok (.goto 12, 3) := by decide +kernel
theorem dX2_tryFrom_77 : decode cX2_tryFrom 77 = .ok (.iload 5, 2) := by decide +kernel
theorem dX2_tryFrom_79 : decode cX2_tryFrom 79 = .ok (.iconst 1, 1) := by decide +kernel
theorem dX2_tryFrom_80 : decode cX2_tryFrom 80 = .ok (.iload 6, 2) := by decide +kernel
theorem dX2_tryFrom_82 : decode cX2_tryFrom 82 = .ok (.ishl, 1) := by decide +kernel
theorem dX2_tryFrom_83 : decode cX2_tryFrom 83 = .ok (.iconst (-1), 1) := by decide +kernel
theorem dX2_tryFrom_84 : decode cX2_tryFrom 84 = .ok (.ixor, 1) := by decide +kernel
theorem dX2_tryFrom_85 : decode cX2_tryFrom 85 = .ok (.iand, 1) := by decide +kernel
theorem dX2_tryFrom_86 : decode cX2_tryFrom 86 = .ok (.istore 7, 2) := by decide +kernel
theorem dX2_tryFrom_88 : decode cX2_tryFrom 88 = .ok (.aload_n 0, 1) := by decide +kernel
theorem dX2_tryFrom_89 : decode cX2_tryFrom 89 = .ok (.aload_n 1, 1) := by decide +kernel
theorem dX2_tryFrom_90 : decode cX2_tryFrom 90 = .ok (.iload_n 2, 1) := by decide +kernel
theorem dX2_tryFrom_91 : decode cX2_tryFrom 91 = .ok (.iconst 1, 1) := by decide +kernel
theorem dX2_tryFrom_92 : decode cX2_tryFrom 92 = .ok (.iadd, 1) := by decide +kernel
theorem dX2_tryFrom_93 : decode cX2_tryFrom 93 = .ok (.lload_n 3, 1) := by decide +kernel
theorem dX2_tryFrom_94 : decode cX2_tryFrom 94 = .ok (.bipush 10, 2) := by decide +kernel
theorem dX2_tryFrom_96 : decode cX2_tryFrom 96 = .ok (.aload_n 1, 1) := by decide +kernel
theorem dX2_tryFrom_97 : decode cX2_tryFrom 97 = .ok (.iload_n 2, 1) := by decide +kernel
theorem dX2_tryFrom_98 : decode cX2_tryFrom 98 = .ok (.iload 6, 2) := by decide +kernel
theorem dX2_tryFrom_100 : decode cX2_tryFrom 100 = .ok (.invokevirtual 65, 3) := by decide +kernel
theorem dX2_tryFrom_103 : decode cX2_tryFrom 103 = .ok (.isub, 1) := by decide +kernel
theorem dX2_tryFrom_104 : decode cX2_tryFrom 104 = .ok (.i2l, 1) := by decide +kernel
theorem dX2_tryFrom_105 : decode cX2_tryFrom 105 = .ok (.lmul, 1) := by decide +kernel
theorem dX2_tryFrom_106 : decode cX2_tryFrom 106 = .ok (.iload 7, 2) := by decide +kernel
theorem dX2_tryFrom_108 : decode cX2_tryFrom 108 = .ok (.invokestatic 46, 3) := by decide +kernel
theorem dX2_tryFrom_111 : decode cX2_tryFrom 111 = .ok (.iinc 6 1, 3) := by decide +kernel
theorem dX2_tryFrom_114 : decode cX2_tryFrom 114 = .ok (.goto (-77), 3) := by decide +kernel
theorem dX2_tryFrom_117 : decode cX2_tryFrom 117 = .ok (.return_, 1) := by decide +kernel
theorem dX2_takeIfBetter_0 : decode cX2_takeIfBetter 0 = .ok (.lload_n 1, 1) := by decide +kernel
theorem dX2_takeIfBetter_1 : decode cX2_takeIfBetter 1 = .ok (.aload_n 0, 1) := by decide +kernel
theorem dX2_takeIfBetter_2 : decode cX2_takeIfBetter 2 = .ok (.getfield 26, 3) := by decide +kernel
theorem dX2_takeIfBetter_5 : decode cX2_takeIfBetter 5 = .ok (.lcmp, 1) := by decide +kernel
theorem dX2_takeIfBetter_6 : decode cX2_takeIfBetter 6 = .ok (.ifCond .le 22, 3) := by decide +kernel
theorem dX2_takeIfBetter_9 : decode cX2_takeIfBetter 9 = .ok (.aload_n 0, 1) := by decide +kernel
theorem dX2_takeIfBetter_10 : decode cX2_takeIfBetter 10 = .ok (.lload_n 1, 1) := by decide +kernel
theorem dX2_takeIfBetter_11 : decode cX2_takeIfBetter 11 = .ok (.putfield 26, 3) := by decide +kernel
theorem dX2_takeIfBetter_14 : decode cX2_takeIfBetter 14 = .ok (.aload_n 0, 1) := by decide +kernel
theorem dX2_takeIfBetter_15 : decode cX2_takeIfBetter 15 = .ok (.getfield 9, 3) := by decide +kernel
theorem dX2_takeIfBetter_18 : decode cX2_takeIfBetter 18 = .ok (.iconst 0, 1) := by decide +kernel
theorem dX2_takeIfBetter_19 : decode cX2_takeIfBetter 19 = .ok (.aload_n 0, 1) := by decide +kernel
theorem dX2_takeIfBetter_20 : decode cX2_takeIfBetter 20 = .ok (.getfield 15, 3) := by decide +kernel
theorem dX2_takeIfBetter_23 : decode cX2_takeIfBetter 23 = .ok (.iconst 0, 1) := by decide +kernel
theorem dX2_takeIfBetter_24 : decode cX2_takeIfBetter 24 = .ok (.iconst 5, 1) := by decide +kernel
theorem dX2_takeIfBetter_25 : decode cX2_takeIfBetter 25 = .ok (.invokestatic 69, 3) := by decide +kernel
theorem dX2_takeIfBetter_28 : decode cX2_takeIfBetter 28 = .ok (.return_, 1) := by decide +kernel
theorem dX3_init_0 : decode cX3_init 0 = .ok (.aload_n 0, 1) := by decide +kernel
theorem dX3_init_1 : decode cX3_init 1 = .ok (.invokespecial 3, 3) := by decide +kernel
theorem dX3_init_4 : decode cX3_init 4 = .ok (.aload_n 0, 1) := by decide +kernel
theorem dX3_init_5 : decode cX3_init 5 = .ok (.bipush 6, 2) := by decide +kernel
theorem dX3_init_7 : decode cX3_init 7 = .ok (.newarray .int, 2) := by decide +kernel
theorem dX3_init_9 : decode cX3_init 9 = .ok (.putfield 9, 3) := by decide +kernel
theorem dX3_init_12 : decode cX3_init 12 = .ok (.aload_n 0, 1) := by decide +kernel
theorem dX3_init_13 : decode cX3_init 13 = .ok (.bipush 6, 2) := by decide +kernel
theorem dX3_init_15 : decode cX3_init 15 = .ok (.newarray .int, 2) := by decide +kernel
theorem dX3_init_17 : decode cX3_init 17 = .ok (.putfield 15, 3) := by decide +kernel
theorem dX3_init_20 : decode cX3_init 20 = .ok (.return_, 1) := by decide +kernel
theorem dX3_add_0 : decode cX3_add 0 = .ok (.aload_n 0, 1) := by decide +kernel
theorem dX3_add_1 : decode cX3_add 1 = .ok (.getfield 18, 3) := by decide +kernel
theorem dX3_add_4 : decode cX3_add 4 = .ok (.ifCond .lt 12, 3) := by decide +kernel
theorem dX3_add_7 : decode cX3_add 7 = .ok (.aload_n 0, 1) := by decide +kernel
theorem dX3_add_8 : decode cX3_add 8 = .ok (.getfield 18, 3) := by decide +kernel
theorem dX3_add_11 : decode cX3_add 11 = .ok (.bipush 6, 2) := by decide +kernel
theorem dX3_add_13 : decode cX3_add 13 = .ok (.if_icmp .lt 5, 3) := by decide +kernel
theorem dX3_add_16 : decode cX3_add 16 = .ok (.iconst 0, 1) := by decide +kernel
theorem dX3_add_17 : decode cX3_add 17 = .ok (.ireturn, 1) := by decide +kernel
theorem dX3_add_18 : decode cX3_add 18 = .ok (.aload_n 0, 1) := by decide +kernel
theorem dX3_add_19 : decode cX3_add 19 = .ok (.getfield 9, 3) := by decide +kernel
theorem dX3_add_22 : decode cX3_add 22 = .ok (.aload_n 0, 1) := by decide +kernel
theorem dX3_add_23 : decode cX3_add 23 = .ok (.getfield 18, 3) := by decide +kernel
theorem dX3_add_26 : decode cX3_add 26 = .ok (.iload_n 1, 1) := by decide +kernel
theorem dX3_add_27 : decode cX3_add 27 = .ok (.iastore, 1) := by decide +kernel
theorem dX3_add_28 : decode cX3_add 28 = .ok (.aload_n 0, 1) := by decide +kernel
theorem dX3_add_29 : decode cX3_add 29 = .ok (.getfield 15, 3) := by decide +kernel
theorem dX3_add_32 : decode cX3_add 32 = .ok (.aload_n 0, 1) := by decide +kernel
theorem dX3_add_33 : decode cX3_add 33 = .ok (.getfield 18, 3) := by decide +kernel
theorem dX3_add_36 : decode cX3_add 36 = .ok (.iload_n 2, 1) := by decide +kernel
theorem dX3_add_37 : decode cX3_add 37 = .ok (.iastore, 1) := by decide +kernel
theorem dX3_add_38 : decode cX3_add 38 = .ok (.aload_n 0, 1) := by decide +kernel
theorem dX3_add_39 : decode cX3_add 39 = .ok (.dup, 1) := by decide +kernel
theorem dX3_add_40 : decode cX3_add 40 = .ok (.getfield 18, 3) := by decide +kernel
theorem dX3_add_43 : decode cX3_add 43 = .ok (.iconst 1, 1) := by decide +kernel
theorem dX3_add_44 : decode cX3_add 44 = .ok (.iadd, 1) := by decide +kernel
theorem dX3_add_45 : decode cX3_add 45 = .ok (.putfield 18, 3) := by decide +kernel
theorem dX3_add_48 : decode cX3_add 48 = .ok (.iconst 1, 1) := by decide +kernel
theorem dX3_add_49 : decode cX3_add 49 = .ok (.ireturn, 1) := by decide +kernel
theorem dX3_possibleAt_0 : decode cX3_possibleAt 0 = .ok (.iconst 0, 1) := by decide +kernel
theorem dX3_possibleAt_1 : decode cX3_possibleAt 1 = .ok (.istore_n 3, 1) := by decide +kernel
theorem dX3_possibleAt_2 : decode cX3_possibleAt 2 = .ok (.iconst 0, 1) := by decide +kernel
theorem dX3_possibleAt_3 : decode cX3_possibleAt 3 = .ok (.istore 4, 2) := by decide +kernel
theorem dX3_possibleAt_5 : decode cX3_possibleAt 5 = .ok (.iload 4, 2) := by decide +kernel
theorem dX3_possibleAt_7 : decode cX3_possibleAt 7 = .ok (.aload_n 1, 1) := by decide +kernel
theorem dX3_possibleAt_8 : decode cX3_possibleAt 8 = .ok (.getfield 22, 3) := by decide +kernel
theorem dX3_possibleAt_11 : decode cX3_possibleAt 11 = .ok (.if_icmp .ge 37, 3) := by decide +kernel
theorem dX3_possibleAt_14 : decode cX3_possibleAt 14 = .ok (.iload_n 3, 1) := by decide +kernel
theorem dX3_possibleAt_15 : decode cX3_possibleAt 15 = .ok (.aload_n 0, 1) := by decide +kernel
theorem dX3_possibleAt_16 : decode cX3_possibleAt 16 = .ok (.iload_n 2, 1) := by decide +kernel
theorem dX3_possibleAt_17 : decode cX3_possibleAt 17 = .ok (.iload 4, 2) := by decide +kernel
theorem dX3_possibleAt_19 : decode cX3_possibleAt 19 = .ok (.aload_n 1, 1) := by decide +kernel
theorem dX3_possibleAt_20 : decode cX3_possibleAt 20 = .ok (.iload_n 2, 1) := by decide +kernel
theorem dX3_possibleAt_21 : decode cX3_possibleAt 21 = .ok (.iload 4, 2) := by decide +kernel
theorem dX3_possibleAt_23 : decode cX3_possibleAt 23 = .ok (.invokevirtual 27, 3) := by decide +kernel
theorem dX3_possibleAt_26 : decode cX3_possibleAt 26 = .ok (.invokevirtual 31, 3) := by decide +kernel
theorem dX3_possibleAt_29 : decode cX3_possibleAt 29 = .ok (.ifCond .eq 10, 3) := by decide +kernel
theorem dX3_possibleAt_32 : decode cX3_possibleAt 32 = .ok (.iconst 1, 1) := by decide +kernel
theorem dX3_possibleAt_33 : decode cX3_possibleAt 33 = .ok (.iload 4, 2) := by decide +kernel
theorem dX3_possibleAt_35 : decode cX3_possibleAt 35 = .ok (.ishl, 1) := by decide +kernel
theorem dX3_possibleAt_36 : decode cX3_possibleAt 36 = .ok (.goto 4, 3) := by decide +kernel
theorem dX3_possibleAt_39 : decode cX3_possibleAt 39 = .ok (.iconst 0, 1) := by decide +kernel
theorem dX3_possibleAt_40 : decode cX3_possibleAt 40 = .ok (.ior, 1) := by decide +kernel
theorem dX3_possibleAt_41 : decode cX3_possibleAt 41 = .ok (.istore_n 3, 1) := by decide +kernel
theorem dX3_possibleAt_42 : decode cX3_possibleAt 42 = .ok (.iinc 4 1, 3) := by decide +kernel
theorem dX3_possibleAt_45 : decode cX3_possibleAt 45 = .ok (.goto (-40), 3) := by decide +kernel
theorem dX3_possibleAt_48 : decode cX3_possibleAt 48 = .ok (.iload_n 3, 1) := by decide +kernel
theorem dX3_possibleAt_49 : decode cX3_possibleAt 49 = .ok (.ireturn, 1) := by decide +kernel
theorem dX3_isPossible_0 : decode cX3_isPossible 0 = .ok (.iconst 0, 1) := by decide +kernel
theorem dX3_isPossible_1 : decode cX3_isPossible 1 = .ok (.istore 4, 2) := by decide +kernel
theorem dX3_isPossible_3 : decode cX3_isPossible 3 = .ok (.iload 4, 2) := by decide +kernel
theorem dX3_isPossible_5 : decode cX3_isPossible 5 = .ok (.aload_n 0, 1) := by decide +kernel
theorem dX3_isPossible_6 : decode cX3_isPossible 6 = .ok (.getfield 18, 3) := by decide +kernel
theorem dX3_isPossible_9 : decode cX3_isPossible 9 = .ok (.if_icmp .ge 63, 3) := by decide +kernel
theorem dX3_isPossible_12 : decode cX3_isPossible 12 = .ok (.iload 4, 2) := by decide +kernel
theorem dX3_isPossible_14 : decode cX3_isPossible 14 = .ok (.bipush 6, 2) := by decide +kernel
theorem dX3_isPossible_16 : decode cX3_isPossible 16 = .ok (.if_icmp .ge 56, 3) := by decide +kernel
theorem dX3_isPossible_19 : decode cX3_isPossible 19 = .ok (.aload_n 0, 1) := by decide +kernel
theorem dX3_isPossible_20 : decode cX3_isPossible 20 = .ok (.getfield 9, 3) := by decide +kernel
theorem dX3_isPossible_23 : decode cX3_isPossible 23 = .ok (.iload 4, 2) := by decide +kernel
theorem dX3_isPossible_25 : decode cX3_isPossible 25 = .ok (.iaload, 1) := by decide +kernel
theorem dX3_isPossible_26 : decode cX3_isPossible 26 = .ok (.iload_n 1, 1) := by decide +kernel
theorem dX3_isPossible_27 : decode cX3_isPossible 27 = .ok (.if_icmp .ne 20, 3) := by decide +kernel
theorem dX3_isPossible_30 : decode cX3_isPossible 30 = .ok (.aload_n 0, 1) := by decide +kernel
theorem dX3_isPossible_31 : decode cX3_isPossible 31 = .ok (.getfield 15, 3) := by decide +kernel
theorem dX3_isPossible_34 : decode cX3_isPossible 34 = .ok (.iload 4, 2) := by decide +kernel
theorem dX3_isPossible_36 : decode cX3_isPossible 36 = .ok (.iaload, 1) := by decide +kernel
theorem dX3_isPossible_37 : decode cX3_isPossible 37 = .ok (.iload_n 2, 1) := by decide +kernel
theorem dX3_isPossible_38 : decode cX3_isPossible 38 = .ok (.if_icmp .ne 7, 3) := by decide +kernel
theorem dX3_isPossible_41 : decode cX3_isPossible 41 = .ok (.iload_n 3, 1) := by decide +kernel
theorem dX3_isPossible_42 : decode cX3_isPossible 42 = .ok (.ifCond .ne 5, 3) := by decide +kernel
theorem dX3_isPossible_45 : decode cX3_isPossible 45 = .ok (.iconst 0, 1) := by decide +kernel
theorem dX3_isPossible_46 : decode cX3_isPossible 46 = .ok (.ireturn, 1) := by decide +kernel
theorem dX3_isPossible_47 : decode cX3_isPossible 47 = .ok (.aload_n 0, 1) := by decide +kernel
theorem dX3_isPossible_48 : decode cX3_isPossible 48 = .ok (.getfield 9, 3) := by decide +kernel
theorem dX3_isPossible_51 : decode cX3_isPossible 51 = .ok (.iload 4, 2) := by decide +kernel
theorem dX3_isPossible_53 : decode cX3_isPossible 53 = .ok (.iaload, 1) := by decide +kernel
theorem dX3_isPossible_54 : decode cX3_isPossible 54 = .ok (.iload_n 1, 1) := by decide +kernel
theorem dX3_isPossible_55 : decode cX3_isPossible 55 = .ok (.if_icmp .le 11, 3) := by decide +kernel
theorem dX3_isPossible_58 : decode cX3_isPossible 58 = .ok (.iload_n 3, 1) := by decide +kernel
theorem dX3_isPossible_59 : decode cX3_isPossible 59 = .ok (.bipush 10, 2) := by decide +kernel
theorem dX3_isPossible_61 : decode cX3_isPossible 61 = .ok (.if_icmp .lt 5, 3) := by decide +kernel
theorem dX3_isPossible_64 : decode cX3_isPossible 64 = .ok (.iconst 0, 1) := by decide +kernel
theorem dX3_isPossible_65 : decode cX3_isPossible 65 = .ok (.ireturn, 1) := by decide +kernel
theorem dX3_isPossible_66 : decode cX3_isPossible 66 = .ok (.iinc 4 1, 3) := by decide +kernel
theorem dX3_isPossible_69 : decode cX3_isPossible 69 = .ok (.goto (-66), 3) := by decide +kernel
theorem dX3_isPossible_72 : decode cX3_isPossible 72 = .ok (.iconst 1, 1) := by decide +kernel
theorem dX3_isPossible_73 : decode cX3_isPossible 73 = .ok (.ireturn, 1) := by decide +kernel
theorem dX3_rowCount_0 : decode cX3_rowCount 0 = .ok (.iconst 1, 1) := by decide +kernel
theorem dX3_rowCount_1 : decode cX3_rowCount 1 = .ok (.istore_n 2, 1) := by decide +kernel
theorem dX3_rowCount_2 : decode cX3_rowCount 2 = .ok (.iconst 0, 1) := by decide +kernel
theorem dX3_rowCount_3 : decode cX3_rowCount 3 = .ok (.istore_n 3, 1) := by decide +kernel
theorem dX3_rowCount_4 : decode cX3_rowCount 4 = .ok (.iload_n 3, 1) := by decide +kernel
theorem dX3_rowCount_5 : decode cX3_rowCount 5 = .ok (.aload_n 1, 1) := by decide +kernel
theorem dX3_rowCount_6 : decode cX3_rowCount 6 = .ok (.getfield 35, 3) := by decide +kernel
theorem dX3_rowCount_9 : decode cX3_rowCount 9 = .ok (.if_icmp .ge 21, 3) := by decide +kernel
theorem dX3_rowCount_12 : decode cX3_rowCount 12 = .ok (.iload_n 2, 1) := by decide +kernel
theorem dX3_rowCount_13 : decode cX3_rowCount 13 = .ok (.aload_n 0, 1) := by decide +kernel
theorem dX3_rowCount_14 : decode cX3_rowCount 14 = .ok (.aload_n 1, 1) := by decide +kernel
theorem dX3_rowCount_15 : decode cX3_rowCount 15 = .ok (.iload_n 3, 1) := by decide +kernel
theorem dX3_rowCount_16 : decode cX3_rowCount 16 = .ok (.invokevirtual 38, 3) := by decide +kernel
theorem dX3_rowCount_19 : decode cX3_rowCount 19 = .ok (.invokestatic 42, 3) := by decide +kernel
theorem dX3_rowCount_22 : decode cX3_rowCount 22 = .ok (.imul, 1) := by decide +kernel
theorem dX3_rowCount_23 : decode cX3_rowCount 23 = .ok (.istore_n 2, 1) := by decide +kernel
theorem dX3_rowCount_24 : decode cX3_rowCount 24 = .ok (.iinc 3 1, 3) := by decide +kernel
theorem dX3_rowCount_27 : decode cX3_rowCount 27 = .ok (.goto (-23), 3) := by decide +kernel
theorem dX3_rowCount_30 : decode cX3_rowCount 30 = .ok (.iload_n 2, 1) := by decide +kernel
theorem dX3_rowCount_31 : decode cX3_rowCount 31 = .ok (.ireturn, 1) := by decide +kernel
theorem dX3_inAllRows_0 : decode cX3_inAllRows 0 = .ok (.aload_n 0, 1) := by decide +kernel
theorem dX3_inAllRows_1 : decode cX3_inAllRows 1 = .ok (.aload_n 1, 1) := by decide +kernel
theorem dX3_inAllRows_2 : decode cX3_inAllRows 2 = .ok (.invokevirtual 48, 3) := by decide +kernel
theorem dX3_inAllRows_5 : decode cX3_inAllRows 5 = .ok (.ifCond .ne 5, 3) := by decide +kernel
theorem dX3_inAllRows_8 : decode cX3_inAllRows 8 = .ok (.iconst 0, 1) := by decide +kernel
theorem dX3_inAllRows_9 : decode cX3_inAllRows 9 = .ok (.ireturn, 1) := by decide +kernel
theorem dX3_inAllRows_10 : decode cX3_inAllRows 10 = .ok (.iconst 0, 1) := by decide +kernel
theorem dX3_inAllRows_11 : decode cX3_inAllRows 11 = .ok (.istore_n 2, 1) := by decide +kernel
theorem dX3_inAllRows_12 : decode cX3_inAllRows 12 = .ok (.iconst 0, 1) := by decide +kernel
theorem dX3_inAllRows_13 : decode cX3_inAllRows 13 = .ok (.istore_n 3, 1) := by decide +kernel
theorem dX3_inAllRows_14 : decode cX3_inAllRows 14 = .ok (.iload_n 3, 1) := by decide +kernel
theorem dX3_inAllRows_15 : decode cX3_inAllRows 15 = .ok (.aload_n 1, 1) := by decide +kernel
theorem dX3_inAllRows_16 : decode cX3_inAllRows 16 = .ok (.getfield 35, 3) := by decide +kernel
theorem dX3_inAllRows_19 : decode cX3_inAllRows 19 = .ok (.if_icmp .ge 35, 3) := by decide +kernel
theorem dX3_inAllRows_22 : decode cX3_inAllRows 22 = .ok (.aload_n 0, 1) := by decide +kernel
theorem dX3_inAllRows_23 : decode cX3_inAllRows 23 = .ok (.aload_n 1, 1) := by decide +kernel
theorem dX3_inAllRows_24 : decode cX3_inAllRows 24 = .ok (.iload_n 3, 1) := by decide +kernel
theorem dX3_inAllRows_25 : decode cX3_inAllRows 25 = .ok (.invokevirtual 38, 3) := by decide +kernel
theorem dX3_inAllRows_28 : decode cX3_inAllRows 28 = .ok (.istore 4, 2) := by decide +kernel
theorem dX3_inAllRows_30 : decode cX3_inAllRows 30 = .ok (.iload_n 2, 1) := by decide +kernel
theorem dX3_inAllRows_31 : decode cX3_inAllRows 31 = .ok (.iload 4, 2) := by decide +kernel
theorem dX3_inAllRows_33 : decode cX3_inAllRows 33 = .ok (.invokestatic 42, 3) := by decide +kernel
theorem dX3_inAllRows_36 : decode cX3_inAllRows 36 = .ok (.iconst 1, 1) := by decide +kernel
theorem dX3_inAllRows_37 : decode cX3_inAllRows 37 = .ok (.if_icmp .ne 8, 3) := by decide +kernel
theorem dX3_inAllRows_40 : decode cX3_inAllRows 40 = .ok (.iload 4, 2) := by decide +kernel
theorem dX3_inAllRows_42 : decode cX3_inAllRows 42 = .ok (.goto 4, 3) := by decide +kernel
theorem dX3_inAllRows_45 : decode cX3_inAllRows 45 = .ok (.iconst 0, 1) := by decide +kernel
theorem dX3_inAllRows_46 : decode cX3_inAllRows 46 = .ok (.ior, 1) := by decide +kernel
theorem dX3_inAllRows_47 : decode cX3_inAllRows 47 = .ok (.istore_n 2, 1) := by decide +kernel
theorem dX3_inAllRows_48 : decode cX3_inAllRows 48 = .ok (.iinc 3 1, 3) := by decide +kernel
theorem dX3_inAllRows_51 : decode cX3_inAllRows 51 = .ok (.goto (-37), 3) := by decide +kernel
theorem dX3_inAllRows_54 : decode cX3_inAllRows 54 = .ok (.iload_n 2, 1) := by decide +kernel
theorem dX3_inAllRows_55 : decode cX3_inAllRows 55 = .ok (.ireturn, 1) := by decide +kernel
theorem dX4_init_0 : decode cX4_init 0 = .ok (.aload_n 0, 1) := by decide +kernel
theorem dX4_init_1 : decode cX4_init 1 = .ok (.invokespecial 3, 3) := by decide +kernel
theorem dX4_init_4 : decode cX4_init 4 = .ok (.aload_n 0, 1) := by decide +kernel
theorem dX4_init_5 : decode cX4_init 5 = .ok (.iconst 5, 1) := by decide +kernel
theorem dX4_init_6 : decode cX4_init 6 = .ok (.newarray .int, 2) := by decide +kernel
theorem dX4_init_8 : decode cX4_init 8 = .ok (.putfield 9, 3) := by decide +kernel
theorem dX4_init_11 : decode cX4_init 11 = .ok (.aload_n 0, 1) := by decide +kernel
theorem dX4_init_12 : decode cX4_init 12 = .ok (.getfield 9, 3) := by decide +kernel
theorem dX4_init_15 : decode cX4_init 15 = .ok (.iconst (-1), 1) := by decide +kernel
theorem dX4_init_16 : decode cX4_init 16 = .ok (.invokestatic 15, 3) := by decide +kernel
theorem dX4_init_19 : decode cX4_init 19 = .ok (.return_, 1) := by decide +kernel
theorem dX4_begin_0 : decode cX4_begin 0 = .ok (.aload_n 0, 1) := by decide +kernel
theorem dX4_begin_1 : decode cX4_begin 1 = .ok (.invokevirtual 21, 3) := by decide +kernel
theorem dX4_begin_4 : decode cX4_begin 4 = .ok (.aload_n 0, 1) := by decide +kernel
theorem dX4_begin_5 : decode cX4_begin 5 = .ok (.iconst 0, 1) := by decide +kernel
theorem dX4_begin_6 : decode cX4_begin 6 = .ok (.putfield 24, 3) := by decide +kernel
theorem dX4_begin_9 : decode cX4_begin 9 = .ok (.aload_n 0, 1) := by decide +kernel
theorem dX4_begin_10 : decode cX4_begin 10 = .ok (.iconst 1, 1) := by decide +kernel
theorem dX4_begin_11 : decode cX4_begin 11 = .ok (.iload_n 1, 1) := by decide +kernel
theorem dX4_begin_12 : decode cX4_begin 12 = .ok (.ishl, 1) := by decide +kernel
theorem dX4_begin_13 : decode cX4_begin 13 = .ok (.iconst 1, 1) := by decide +kernel
theorem dX4_begin_14 : decode cX4_begin 14 = .ok (.isub, 1) := by decide +kernel
theorem dX4_begin_15 : decode cX4_begin 15 = .ok (.putfield 28, 3) := by decide +kernel
theorem dX4_begin_18 : decode cX4_begin 18 = .ok (.aload_n 0, 1) := by decide +kernel
theorem dX4_begin_19 : decode cX4_begin 19 = .ok (.iconst 0, 1) := by decide +kernel
theorem dX4_begin_20 : decode cX4_begin 20 = .ok (.putfield 31, 3) := by decide +kernel
theorem dX4_begin_23 : decode cX4_begin 23 = .ok (.return_, 1) := by decide +kernel
theorem dX4_lives_0 : decode cX4_lives 0 = .ok (.iload_n 1, 1) := by decide +kernel
theorem dX4_lives_1 : decode cX4_lives 1 = .ok (.ifCond .lt 25, 3) := by decide +kernel
theorem dX4_lives_4 : decode cX4_lives 4 = .ok (.iload_n 1, 1) := by decide +kernel
theorem dX4_lives_5 : decode cX4_lives 5 = .ok (.bipush 6, 2) := by decide +kernel
theorem dX4_lives_7 : decode cX4_lives 7 = .ok (.if_icmp .ge 19, 3) := by decide +kernel
theorem dX4_lives_10 : decode cX4_lives 10 = .ok (.aload_n 0, 1) := by decide +kernel
theorem dX4_lives_11 : decode cX4_lives 11 = .ok (.getfield 28, 3) := by decide +kernel
theorem dX4_lives_14 : decode cX4_lives 14 = .ok (.iload_n 1, 1) := by decide +kernel
theorem dX4_lives_15 : decode cX4_lives 15 = .ok (.ishr, 1) := by decide +kernel
theorem dX4_lives_16 : decode cX4_lives 16 = .ok (.iconst 1, 1) := by decide +kernel
theorem dX4_lives_17 : decode cX4_lives 17 = .ok (.iand, 1) := by decide +kernel
theorem dX4_lives_18 : decode cX4_lives 18 = .ok (.iconst 1, 1) := by decide +kernel
theorem dX4_lives_19 : decode cX4_lives 19 = .ok (.if_icmp .ne 7, 3) := by decide +kernel
theorem dX4_lives_22 : decode cX4_lives 22 = .ok (.iconst 1, 1) := by decide +kernel
theorem dX4_lives_23 : decode cX4_lives 23 = .ok (.goto 4, 3) := by decide +kernel
theorem dX4_lives_26 : decode cX4_lives 26 = .ok (.iconst 0, 1) := by decide +kernel
theorem dX4_lives_27 : decode cX4_lives 27 = .ok (.ireturn, 1) := by decide +kernel
theorem dX4_doerOf_0 : decode cX4_doerOf 0 = .ok (.iload_n 1, 1) := by decide +kernel
theorem dX4_doerOf_1 : decode cX4_doerOf 1 = .ok (.ifCond .lt 17, 3) := by decide +kernel
theorem dX4_doerOf_4 : decode cX4_doerOf 4 = .ok (.iload_n 1, 1) := by decide +kernel
theorem dX4_doerOf_5 : decode cX4_doerOf 5 = .ok (.iconst 5, 1) := by decide +kernel
theorem dX4_doerOf_6 : decode cX4_doerOf 6 = .ok (.if_icmp .ge 12, 3) := by decide +kernel
theorem dX4_doerOf_9 : decode cX4_doerOf 9 = .ok (.aload_n 0, 1) := by decide +kernel
theorem dX4_doerOf_10 : decode cX4_doerOf 10 = .ok (.getfield 9, 3) := by decide +kernel
theorem dX4_doerOf_13 : decode cX4_doerOf 13 = .ok (.iload_n 1, 1) := by decide +kernel
theorem dX4_doerOf_14 : decode cX4_doerOf 14 = .ok (.iaload, 1) := by decide +kernel
theorem dX4_doerOf_15 : decode cX4_doerOf 15 = .ok (.goto 4, 3) := by decide +kernel
theorem dX4_doerOf_18 : decode cX4_doerOf 18 = .ok (.iconst (-1), 1) := by decide +kernel
theorem dX4_doerOf_19 : decode cX4_doerOf 19 = .ok (.ireturn, 1) := by decide +kernel
theorem dX4_setDoer_0 : decode cX4_setDoer 0 = .ok (.iload_n 1, 1) := by decide +kernel
theorem dX4_setDoer_1 : decode cX4_setDoer 1 = .ok (.ifCond .lt 15, 3) := by decide +kernel
theorem dX4_setDoer_4 : decode cX4_setDoer 4 = .ok (.iload_n 1, 1) := by decide +kernel
theorem dX4_setDoer_5 : decode cX4_setDoer 5 = .ok (.iconst 5, 1) := by decide +kernel
theorem dX4_setDoer_6 : decode cX4_setDoer 6 = .ok (.if_icmp .ge 10, 3) := by decide +kernel
theorem dX4_setDoer_9 : decode cX4_setDoer 9 = .ok (.aload_n 0, 1) := by decide +kernel
theorem dX4_setDoer_10 : decode cX4_setDoer 10 = .ok (.getfield 9, 3) := by decide +kernel
theorem dX4_setDoer_13 : decode cX4_setDoer 13 = .ok (.iload_n 1, 1) := by decide +kernel
theorem dX4_setDoer_14 : decode cX4_setDoer 14 = .ok (.iload_n 2, 1) := by decide +kernel
theorem dX4_setDoer_15 : decode cX4_setDoer 15 = .ok (.iastore, 1) := by decide +kernel
theorem dX4_setDoer_16 : decode cX4_setDoer 16 = .ok (.return_, 1) := by decide +kernel
theorem dX4_dismiss_0 : decode cX4_dismiss 0 = .ok (.aload_n 0, 1) := by decide +kernel
theorem dX4_dismiss_1 : decode cX4_dismiss 1 = .ok (.getfield 9, 3) := by decide +kernel
theorem dX4_dismiss_4 : decode cX4_dismiss 4 = .ok (.iconst (-1), 1) := by decide +kernel
theorem dX4_dismiss_5 : decode cX4_dismiss 5 = .ok (.invokestatic 15, 3) := by decide +kernel
theorem dX4_dismiss_8 : decode cX4_dismiss 8 = .ok (.return_, 1) := by decide +kernel
theorem dX4_lose_0 : decode cX4_lose 0 = .ok (.aload_n 0, 1) := by decide +kernel
theorem dX4_lose_1 : decode cX4_lose 1 = .ok (.iload_n 1, 1) := by decide +kernel
theorem dX4_lose_2 : decode cX4_lose 2 = .ok (.invokevirtual 35, 3) := by decide +kernel
theorem dX4_lose_5 : decode cX4_lose 5 = .ok (.ifCond .ne 4, 3) := by decide +kernel
theorem dX4_lose_8 : decode cX4_lose 8 = .ok (.return_, 1) := by decide +kernel
theorem dX4_lose_9 : decode cX4_lose 9 = .ok (.aload_n 0, 1) := by decide +kernel
theorem dX4_lose_10 : decode cX4_lose 10 = .ok (.dup, 1) := by decide +kernel
theorem dX4_lose_11 : decode cX4_lose 11 = .ok (.getfield 28, 3) := by decide +kernel
theorem dX4_lose_14 : decode cX4_lose 14 = .ok (.iconst 1, 1) := by decide +kernel
theorem dX4_lose_15 : decode cX4_lose 15 = .ok (.iload_n 1, 1) := by decide +kernel
theorem dX4_lose_16 : decode cX4_lose 16 = .ok (.ishl, 1) := by decide +kernel
theorem dX4_lose_17 : decode cX4_lose 17 = .ok (.iconst (-1), 1) := by decide +kernel
theorem dX4_lose_18 : decode cX4_lose 18 = .ok (.ixor, 1) := by decide +kernel
theorem dX4_lose_19 : decode cX4_lose 19 = .ok (.iand, 1) := by decide +kernel
theorem dX4_lose_20 : decode cX4_lose 20 = .ok (.putfield 28, 3) := by decide +kernel
theorem dX4_lose_23 : decode cX4_lose 23 = .ok (.iconst 0, 1) := by decide +kernel
theorem dX4_lose_24 : decode cX4_lose 24 = .ok (.istore_n 2, 1) := by decide +kernel
theorem dX4_lose_25 : decode cX4_lose 25 = .ok (.iload_n 2, 1) := by decide +kernel
theorem dX4_lose_26 : decode cX4_lose 26 = .ok (.iconst 5, 1) := by decide +kernel
theorem dX4_lose_27 : decode cX4_lose 27 = .ok (.if_icmp .ge 26, 3) := by decide +kernel
theorem dX4_lose_30 : decode cX4_lose 30 = .ok (.aload_n 0, 1) := by decide +kernel
theorem dX4_lose_31 : decode cX4_lose 31 = .ok (.getfield 9, 3) := by decide +kernel
theorem dX4_lose_34 : decode cX4_lose 34 = .ok (.iload_n 2, 1) := by decide +kernel
theorem dX4_lose_35 : decode cX4_lose 35 = .ok (.iaload, 1) := by decide +kernel
theorem dX4_lose_36 : decode cX4_lose 36 = .ok (.iload_n 1, 1) := by decide +kernel
theorem dX4_lose_37 : decode cX4_lose 37 = .ok (.if_icmp .ne 10, 3) := by decide +kernel
theorem dX4_lose_40 : decode cX4_lose 40 = .ok (.aload_n 0, 1) := by decide +kernel
theorem dX4_lose_41 : decode cX4_lose 41 = .ok (.getfield 9, 3) := by decide +kernel
theorem dX4_lose_44 : decode cX4_lose 44 = .ok (.iload_n 2, 1) := by decide +kernel
theorem dX4_lose_45 : decode cX4_lose 45 = .ok (.iconst (-1), 1) := by decide +kernel
theorem dX4_lose_46 : decode cX4_lose 46 = .ok (.iastore, 1) := by decide +kernel
theorem dX4_lose_47 : decode cX4_lose 47 = .ok (.iinc 2 1, 3) := by decide +kernel
theorem dX4_lose_50 : decode cX4_lose 50 = .ok (.goto (-25), 3) := by decide +kernel
theorem dX4_lose_53 : decode cX4_lose 53 = .ok (.return_, 1) := by decide +kernel
theorem dX4_filledSteps_0 : decode cX4_filledSteps 0 = .ok (.iconst 0, 1) := by decide +kernel
theorem dX4_filledSteps_1 : decode cX4_filledSteps 1 = .ok (.istore_n 1, 1) := by decide +kernel
theorem dX4_filledSteps_2 : decode cX4_filledSteps 2 = .ok (.iconst 0, 1) := by decide +kernel
theorem dX4_filledSteps_3 : decode cX4_filledSteps 3 = .ok (.istore_n 2, 1) := by decide +kernel
theorem dX4_filledSteps_4 : decode cX4_filledSteps 4 = .ok (.iload_n 2, 1) := by decide +kernel
theorem dX4_filledSteps_5 : decode cX4_filledSteps 5 = .ok (.iconst 5, 1) := by decide +kernel
theorem dX4_filledSteps_6 : decode cX4_filledSteps 6 = .ok (.if_icmp .ge 27, 3) := by decide +kernel
theorem dX4_filledSteps_9 : decode cX4_filledSteps 9 = .ok (.iload_n 1, 1) := by decide +kernel
theorem dX4_filledSteps_10 : decode cX4_filledSteps 10 = .ok (.aload_n 0, 1) := by decide +kernel
theorem dX4_filledSteps_11 : decode cX4_filledSteps 11 = .ok (.getfield 9, 3) := by decide +kernel
theorem dX4_filledSteps_14 : decode cX4_filledSteps 14 = .ok (.iload_n 2, 1) := by decide +kernel
theorem dX4_filledSteps_15 : decode cX4_filledSteps 15 = .ok (.iaload, 1) := by decide +kernel
theorem dX4_filledSteps_16 : decode cX4_filledSteps 16 = .ok (.iconst (-1), 1) := by decide +kernel
theorem dX4_filledSteps_17 : decode cX4_filledSteps 17 = .ok (.if_icmp .ne 7, 3) := by decide +kernel
theorem dX4_filledSteps_20 : decode cX4_filledSteps 20 = .ok (.iconst 0, 1) := by decide +kernel
theorem dX4_filledSteps_21 : decode cX4_filledSteps 21 = .ok (.goto 4, 3) := by decide +kernel
theorem dX4_filledSteps_24 : decode cX4_filledSteps 24 = .ok (.iconst 1, 1) := by decide +kernel
theorem dX4_filledSteps_25 : decode cX4_filledSteps 25 = .ok (.iadd, 1) := by decide +kernel
theorem dX4_filledSteps_26 : decode cX4_filledSteps 26 = .ok (.istore_n 1, 1) := by decide +kernel
theorem dX4_filledSteps_27 : decode cX4_filledSteps 27 = .ok (.iinc 2 1, 3) := by decide +kernel
theorem dX4_filledSteps_30 : decode cX4_filledSteps 30 = .ok (.goto (-26), 3) := by decide +kernel
theorem dX4_filledSteps_33 : decode cX4_filledSteps 33 = .ok (.iload_n 1, 1) := by decide +kernel
theorem dX4_filledSteps_34 : decode cX4_filledSteps 34 = .ok (.ireturn, 1) := by decide +kernel
theorem dX4_stepsOf_0 : decode cX4_stepsOf 0 = .ok (.iconst 0, 1) := by decide +kernel
theorem dX4_stepsOf_1 : decode cX4_stepsOf 1 = .ok (.istore_n 2, 1) := by decide +kernel
theorem dX4_stepsOf_2 : decode cX4_stepsOf 2 = .ok (.iconst 0, 1) := by decide +kernel
theorem dX4_stepsOf_3 : decode cX4_stepsOf 3 = .ok (.istore_n 3, 1) := by decide +kernel
theorem dX4_stepsOf_4 : decode cX4_stepsOf 4 = .ok (.iload_n 3, 1) := by decide +kernel
theorem dX4_stepsOf_5 : decode cX4_stepsOf 5 = .ok (.iconst 5, 1) := by decide +kernel
theorem dX4_stepsOf_6 : decode cX4_stepsOf 6 = .ok (.if_icmp .ge 29, 3) := by decide +kernel
theorem dX4_stepsOf_9 : decode cX4_stepsOf 9 = .ok (.iload_n 2, 1) := by decide +kernel
theorem dX4_stepsOf_10 : decode cX4_stepsOf 10 = .ok (.aload_n 0, 1) := by decide +kernel
theorem dX4_stepsOf_11 : decode cX4_stepsOf 11 = .ok (.getfield 9, 3) := by decide +kernel
theorem dX4_stepsOf_14 : decode cX4_stepsOf 14 = .ok (.iload_n 3, 1) := by decide +kernel
theorem dX4_stepsOf_15 : decode cX4_stepsOf 15 = .ok (.iaload, 1) := by decide +kernel
theorem dX4_stepsOf_16 : decode cX4_stepsOf 16 = .ok (.iload_n 1, 1) := by decide +kernel
theorem dX4_stepsOf_17 : decode cX4_stepsOf 17 = .ok (.if_icmp .ne 9, 3) := by decide +kernel
theorem dX4_stepsOf_20 : decode cX4_stepsOf 20 = .ok (.iconst 1, 1) := by decide +kernel
theorem dX4_stepsOf_21 : decode cX4_stepsOf 21 = .ok (.iload_n 3, 1) := by decide +kernel
theorem dX4_stepsOf_22 : decode cX4_stepsOf 22 = .ok (.ishl, 1) := by decide +kernel
theorem dX4_stepsOf_23 : decode cX4_stepsOf 23 = .ok (.goto 4, 3) := by decide +kernel
theorem dX4_stepsOf_26 : decode cX4_stepsOf 26 = .ok (.iconst 0, 1) := by decide +kernel
theorem dX4_stepsOf_27 : decode cX4_stepsOf 27 = .ok (.ior, 1) := by decide +kernel
theorem dX4_stepsOf_28 : decode cX4_stepsOf 28 = .ok (.istore_n 2, 1) := by decide +kernel
theorem dX4_stepsOf_29 : decode cX4_stepsOf 29 = .ok (.iinc 3 1, 3) := by decide +kernel
theorem dX4_stepsOf_32 : decode cX4_stepsOf 32 = .ok (.goto (-28), 3) := by decide +kernel
theorem dX4_stepsOf_35 : decode cX4_stepsOf 35 = .ok (.iload_n 2, 1) := by decide +kernel
theorem dX4_stepsOf_36 : decode cX4_stepsOf 36 = .ok (.ireturn, 1) := by decide +kernel
theorem dX4_isWhole_0 : decode cX4_isWhole 0 = .ok (.iconst 0, 1) := by decide +kernel
theorem dX4_isWhole_1 : decode cX4_isWhole 1 = .ok (.istore_n 2, 1) := by decide +kernel
theorem dX4_isWhole_2 : decode cX4_isWhole 2 = .ok (.iload_n 2, 1) := by decide +kernel
theorem dX4_isWhole_3 : decode cX4_isWhole 3 = .ok (.iload_n 1, 1) := by decide +kernel
theorem dX4_isWhole_4 : decode cX4_isWhole 4 = .ok (.if_icmp .ge 23, 3) := by decide +kernel
theorem dX4_isWhole_7 : decode cX4_isWhole 7 = .ok (.aload_n 0, 1) := by decide +kernel
theorem dX4_isWhole_8 : decode cX4_isWhole 8 = .ok (.aload_n 0, 1) := by decide +kernel
theorem dX4_isWhole_9 : decode cX4_isWhole 9 = .ok (.iload_n 2, 1) := by decide +kernel
theorem dX4_isWhole_10 : decode cX4_isWhole 10 = .ok (.invokevirtual 39, 3) := by decide +kernel
theorem dX4_isWhole_13 : decode cX4_isWhole 13 = .ok (.invokevirtual 35, 3) := by decide +kernel
theorem dX4_isWhole_16 : decode cX4_isWhole 16 = .ok (.ifCond .ne 5, 3) := by decide +kernel
theorem dX4_isWhole_19 : decode cX4_isWhole 19 = .ok (.iconst 0, 1) := by decide +kernel
theorem dX4_isWhole_20 : decode cX4_isWhole 20 = .ok (.ireturn, 1) := by decide +kernel
theorem dX4_isWhole_21 : decode cX4_isWhole 21 = .ok (.iinc 2 1, 3) := by decide +kernel
theorem dX4_isWhole_24 : decode cX4_isWhole 24 = .ok (.goto (-22), 3) := by decide +kernel
theorem dX4_isWhole_27 : decode cX4_isWhole 27 = .ok (.iconst 1, 1) := by decide +kernel
theorem dX4_isWhole_28 : decode cX4_isWhole 28 = .ok (.ireturn, 1) := by decide +kernel
theorem dX5_init_0 : decode cX5_init 0 = .ok (.aload_n 0, 1) := by decide +kernel
theorem dX5_init_1 : decode cX5_init 1 = .ok (.invokespecial 3, 3) := by decide +kernel
theorem dX5_init_4 : decode cX5_init 4 = .ok (.aload_n 0, 1) := by decide +kernel
theorem dX5_init_5 : decode cX5_init 5 = .ok (.sipush 160, 3) := by decide +kernel
theorem dX5_init_8 : decode cX5_init 8 = .ok (.newarray .int, 2) := by decide +kernel
theorem dX5_init_10 : decode cX5_init 10 = .ok (.putfield 9, 3) := by decide +kernel
theorem dX5_init_13 : decode cX5_init 13 = .ok (.aload_n 0, 1) := by decide +kernel
theorem dX5_init_14 : decode cX5_init 14 = .ok (.iconst 3, 1) := by decide +kernel
theorem dX5_init_15 : decode cX5_init 15 = .ok (.newarray .int, 2) := by decide +kernel
theorem dX5_init_17 : decode cX5_init 17 = .ok (.putfield 15, 3) := by decide +kernel
theorem dX5_init_20 : decode cX5_init 20 = .ok (.return_, 1) := by decide +kernel
theorem dX5_append_0 : decode cX5_append 0 = .ok (.aload_n 0, 1) := by decide +kernel
theorem dX5_append_1 : decode cX5_append 1 = .ok (.getfield 18, 3) := by decide +kernel
theorem dX5_append_4 : decode cX5_append 4 = .ok (.ifCond .lt 13, 3) := by decide +kernel
theorem dX5_append_7 : decode cX5_append 7 = .ok (.aload_n 0, 1) := by decide +kernel
theorem dX5_append_8 : decode cX5_append 8 = .ok (.getfield 18, 3) := by decide +kernel
theorem dX5_append_11 : decode cX5_append 11 = .ok (.sipush 160, 3) := by decide +kernel
theorem dX5_append_14 : decode cX5_append 14 = .ok (.if_icmp .lt 5, 3) := by decide +kernel
theorem dX5_append_17 : decode cX5_append 17 = .ok (.iconst 0, 1) := by decide +kernel
theorem dX5_append_18 : decode cX5_append 18 = .ok (.ireturn, 1) := by decide +kernel
theorem dX5_append_19 : decode cX5_append 19 = .ok (.aload_n 0, 1) := by decide +kernel
theorem dX5_append_20 : decode cX5_append 20 = .ok (.getfield 9, 3) := by decide +kernel
theorem dX5_append_23 : decode cX5_append 23 = .ok (.aload_n 0, 1) := by decide +kernel
theorem dX5_append_24 : decode cX5_append 24 = .ok (.dup, 1) := by decide +kernel
theorem dX5_append_25 : decode cX5_append 25 = .ok (.getfield 18, 3) := by decide +kernel
theorem dX5_append_28 : decode cX5_append 28 = .ok (.dup_x1, 1) := by decide +kernel
theorem dX5_append_29 : decode cX5_append 29 = .ok (.iconst 1, 1) := by decide +kernel
theorem dX5_append_30 : decode cX5_append 30 = .ok (.iadd, 1) := by decide +kernel
theorem dX5_append_31 : decode cX5_append 31 = .ok (.putfield 18, 3) := by decide +kernel
theorem dX5_append_34 : decode cX5_append 34 = .ok (.iload_n 1, 1) := by decide +kernel
theorem dX5_append_35 : decode cX5_append 35 = .ok (.iastore, 1) := by decide +kernel
theorem dX5_append_36 : decode cX5_append 36 = .ok (.iconst 1, 1) := by decide +kernel
theorem dX5_append_37 : decode cX5_append 37 = .ok (.ireturn, 1) := by decide +kernel
theorem dX5_readInto_0 : decode cX5_readInto 0 = .ok (.aload_n 0, 1) := by decide +kernel
theorem dX5_readInto_1 : decode cX5_readInto 1 = .ok (.iconst 0, 1) := by decide +kernel
theorem dX5_readInto_2 : decode cX5_readInto 2 = .ok (.putfield 22, 3) := by decide +kernel
theorem dX5_readInto_5 : decode cX5_readInto 5 = .ok (.aload_n 0, 1) := by decide +kernel
theorem dX5_readInto_6 : decode cX5_readInto 6 = .ok (.invokevirtual 25, 3) := by decide +kernel
theorem dX5_readInto_9 : decode cX5_readInto 9 = .ok (.iconst 1, 1) := by decide +kernel
theorem dX5_readInto_10 : decode cX5_readInto 10 = .ok (.istore_n 2, 1) := by decide +kernel
theorem dX5_readInto_11 : decode cX5_readInto 11 = .ok (.iload_n 2, 1) := by decide +kernel
theorem dX5_readInto_12 : decode cX5_readInto 12 = .ok (.bipush 14, 2) := by decide +kernel
theorem dX5_readInto_14 : decode cX5_readInto 14 = .ok (.if_icmp .gt 68, 3) := by decide +kernel
theorem dX5_readInto_17 : decode cX5_readInto 17 = .ok (.aload_n 0, 1) := by decide +kernel
theorem dX5_readInto_18 : decode cX5_readInto 18 = .ok (.aload_n 1, 1) := by decide +kernel
theorem dX5_readInto_19 : decode cX5_readInto 19 = .ok (.invokevirtual 28, 3) := by decide +kernel
theorem dX5_readInto_22 : decode cX5_readInto 22 = .ok (.ifCond .ne 8, 3) := by decide +kernel
theorem dX5_readInto_25 : decode cX5_readInto 25 = .ok (.aload_n 0, 1) := by decide +kernel
theorem dX5_readInto_26 : decode cX5_readInto 26 = .ok (.getfield 32, 3) := by decide +kernel
theorem dX5_readInto_29 : decode cX5_readInto 29 = .ok (.ireturn, 1) := by decide +kernel
theorem dX5_readInto_30 : decode cX5_readInto 30 = .ok (.aload_n 0, 1) := by decide +kernel
theorem dX5_readInto_31 : decode cX5_readInto 31 = .ok (.getfield 32, 3) := by decide +kernel
theorem dX5_readInto_34 : decode cX5_readInto 34 = .ok (.aload_n 0, 1) := by decide +kernel
theorem dX5_readInto_35 : decode cX5_readInto 35 = .ok (.getfield 18, 3) := by decide +kernel
theorem dX5_readInto_38 : decode cX5_readInto 38 = .ok (.if_icmp .lt 10, 3) := by decide +kernel
theorem dX5_readInto_41 : decode cX5_readInto 41 = .ok (.aload_n 0, 1) := by decide +kernel
theorem dX5_readInto_42 : decode cX5_readInto 42 = .ok (.iload_n 2, 1) := by decide +kernel
theorem dX5_readInto_43 : decode cX5_readInto 43 = .ok (.putfield 35, 3) := by decide +kernel
theorem dX5_readInto_46 : decode cX5_readInto 46 = .ok (.iconst (-1), 1) := by decide +kernel
theorem dX5_readInto_47 : decode cX5_readInto 47 = .ok (.ireturn, 1) := by decide +kernel
theorem dX5_readInto_48 : decode cX5_readInto 48 = .ok (.aload_n 0, 1) := by decide +kernel
theorem dX5_readInto_49 : decode cX5_readInto 49 = .ok (.aload_n 0, 1) := by decide +kernel
theorem dX5_readInto_50 : decode cX5_readInto 50 = .ok (.getfield 32, 3) := by decide +kernel
theorem dX5_readInto_53 : decode cX5_readInto 53 = .ok (.invokevirtual 38, 3) := by decide +kernel
theorem dX5_readInto_56 : decode cX5_readInto 56 = .ok (.bipush 59, 2) := by decide +kernel
theorem dX5_readInto_58 : decode cX5_readInto 58 = .ok (.if_icmp .ne 9, 3) := by decide +kernel
theorem dX5_readInto_61 : decode cX5_readInto 61 = .ok (.iload_n 2, 1) := by decide +kernel
theorem dX5_readInto_62 : decode cX5_readInto 62 = .ok (.bipush 14, 2) := by decide +kernel
theorem dX5_readInto_64 : decode cX5_readInto 64 = .ok (.if_icmp .ne 8, 3) := by decide +kernel
theorem dX5_readInto_67 : decode cX5_readInto 67 = .ok (.aload_n 0, 1) := by decide +kernel
theorem dX5_readInto_68 : decode cX5_readInto 68 = .ok (.getfield 32, 3) := by decide +kernel
theorem dX5_readInto_71 : decode cX5_readInto 71 = .ok (.ireturn, 1) := by decide +kernel
theorem dX5_readInto_72 : decode cX5_readInto 72 = .ok (.aload_n 0, 1) := by decide +kernel
theorem dX5_readInto_73 : decode cX5_readInto 73 = .ok (.invokevirtual 25, 3) := by decide +kernel
theorem dX5_readInto_76 : decode cX5_readInto 76 = .ok (.iinc 2 1, 3) := by decide +kernel
theorem dX5_readInto_79 : decode cX5_readInto 79 = .ok (.goto (-68), 3) := by decide +kernel
theorem dX5_readInto_82 : decode cX5_readInto 82 = .ok (.aload_n 0, 1) := by decide +kernel
theorem dX5_readInto_83 : decode cX5_readInto 83 = .ok (.getfield 32, 3) := by decide +kernel
theorem dX5_readInto_86 : decode cX5_readInto 86 = .ok (.ireturn, 1) := by decide +kernel
theorem dX5_readClause_0 : decode cX5_readClause 0 = .ok (.aload_n 0, 1) := by decide +kernel
theorem dX5_readClause_1 : decode cX5_readClause 1 = .ok (.invokevirtual 42, 3) := by decide +kernel
theorem dX5_readClause_4 : decode cX5_readClause 4 = .ok (.istore_n 2, 1) := by decide +kernel
theorem dX5_readClause_5 : decode cX5_readClause 5 = .ok (.aload_n 1, 1) := by decide +kernel
theorem dX5_readClause_6 : decode cX5_readClause 6 = .ok (.iload_n 2, 1) := by decide +kernel
theorem dX5_readClause_7 : decode cX5_readClause 7 = .ok (.invokevirtual 46, 3) := by decide +kernel
theorem dX5_readClause_10 : decode cX5_readClause 10 = .ok (.ifCond .ne 5, 3) := by decide +kernel
theorem dX5_readClause_13 : decode cX5_readClause 13 = .ok (.iconst 0, 1) := by decide +kernel
theorem dX5_readClause_14 : decode cX5_readClause 14 = .ok (.ireturn, 1) := by decide +kernel
theorem dX5_readClause_15 : decode cX5_readClause 15 = .ok (.aload_n 0, 1) := by decide +kernel
theorem dX5_readClause_16 : decode cX5_readClause 16 = .ok (.invokevirtual 25, 3) := by decide +kernel
theorem dX5_readClause_19 : decode cX5_readClause 19 = .ok (.aload_n 0, 1) := by decide +kernel
theorem dX5_readClause_20 : decode cX5_readClause 20 = .ok (.getfield 15, 3) := by decide +kernel
theorem dX5_readClause_23 : decode cX5_readClause 23 = .ok (.iconst 0, 1) := by decide +kernel
theorem dX5_readClause_24 : decode cX5_readClause 24 = .ok (.invokestatic 52, 3) := by decide +kernel
theorem dX5_readClause_27 : decode cX5_readClause 27 = .ok (.iconst 0, 1) := by decide +kernel
theorem dX5_readClause_28 : decode cX5_readClause 28 = .ok (.istore_n 3, 1) := by decide +kernel
theorem dX5_readClause_29 : decode cX5_readClause 29 = .ok (.iload_n 3, 1) := by decide +kernel
theorem dX5_readClause_30 : decode cX5_readClause 30 = .ok (.iload_n 2, 1) := by decide +kernel
theorem dX5_readClause_31 : decode cX5_readClause 31 = .ok (.invokestatic 58, 3) := by decide +kernel
theorem dX5_readClause_34 : decode cX5_readClause 34 = .ok (.if_icmp .ge 49, 3) := by decide +kernel
theorem dX5_readClause_37 : decode cX5_readClause 37 = .ok (.iload_n 3, 1) := by decide +kernel
theorem dX5_readClause_38 : decode cX5_readClause 38 = .ok (.iconst 3, 1) := by decide +kernel
theorem dX5_readClause_39 : decode cX5_readClause 39 = .ok (.if_icmp .ge 44, 3) := by decide +kernel
theorem dX5_readClause_42 : decode cX5_readClause 42 = .ok (.aload_n 0, 1) := by decide +kernel
theorem dX5_readClause_43 : decode cX5_readClause 43 = .ok (.invokevirtual 61, 3) := by decide +kernel
theorem dX5_readClause_46 : decode cX5_readClause 46 = .ok (.istore 4, 2) := by decide +kernel
theorem dX5_readClause_48 : decode cX5_readClause 48 = .ok (.iload 4, 2) := by decide +kernel
theorem dX5_readClause_50 : decode cX5_readClause 50 = .ok (.ifCond .lt 13, 3) := by decide +kernel
theorem dX5_readClause_53 : decode cX5_readClause 53 = .ok (.iload 4, 2) := by decide +kernel
theorem dX5_readClause_55 : decode cX5_readClause 55 = .ok (.iload_n 2, 1) := by decide +kernel
theorem dX5_readClause_56 : decode cX5_readClause 56 = .ok (.iload_n 3, 1) := by decide +kernel
theorem dX5_readClause_57 : decode cX5_readClause 57 = .ok (.invokestatic 64, 3) := by decide +kernel
theorem dX5_readClause_60 : decode cX5_readClause 60 = .ok (.if_icmp .le 5, 3) := by decide +kernel
theorem dX5_readClause_63 : decode cX5_readClause 63 = .ok (.iconst 0, 1) := by decide +kernel
theorem dX5_readClause_64 : decode cX5_readClause 64 = .ok (.ireturn, 1) := by decide +kernel
theorem dX5_readClause_65 : decode cX5_readClause 65 = .ok (.aload_n 0, 1) := by decide +kernel
theorem dX5_readClause_66 : decode cX5_readClause 66 = .ok (.getfield 15, 3) := by decide +kernel
theorem dX5_readClause_69 : decode cX5_readClause 69 = .ok (.iload_n 3, 1) := by decide +kernel
theorem dX5_readClause_70 : decode cX5_readClause 70 = .ok (.iload 4, 2) := by decide +kernel
theorem dX5_readClause_72 : decode cX5_readClause 72 = .ok (.iastore, 1) := by decide +kernel
theorem dX5_readClause_73 : decode cX5_readClause 73 = .ok (.aload_n 0, 1) := by decide +kernel
theorem dX5_readClause_74 : decode cX5_readClause 74 = .ok (.invokevirtual 25, 3) := by decide +kernel
theorem dX5_readClause_77 : decode cX5_readClause 77 = .ok (.iinc 3 1, 3) := by decide +kernel
theorem dX5_readClause_80 : decode cX5_readClause 80 = .ok (.goto (-51), 3) := by decide +kernel
theorem dX5_readClause_83 : decode cX5_readClause 83 = .ok (.aload_n 1, 1) := by decide +kernel
theorem dX5_readClause_84 : decode cX5_readClause 84 = .ok (.iload_n 2, 1) := by decide +kernel
theorem dX5_readClause_85 : decode cX5_readClause 85 = .ok (.aload_n 0, 1) := by decide +kernel
theorem dX5_readClause_86 : decode cX5_readClause 86 = .ok (.getfield 15, 3) := by decide +kernel
theorem dX5_readClause_89 : decode cX5_readClause 89 = .ok (.iconst 0, 1) := by decide +kernel
theorem dX5_readClause_90 : decode cX5_readClause 90 = .ok (.iaload, 1) := by decide +kernel
theorem dX5_readClause_91 : decode cX5_readClause 91 = .ok (.aload_n 0, 1) := by decide +kernel
theorem dX5_readClause_92 : decode cX5_readClause 92 = .ok (.getfield 15, 3) := by decide +kernel
theorem dX5_readClause_95 : decode cX5_readClause 95 = .ok (.iconst 1, 1) := by decide +kernel
theorem dX5_readClause_96 : decode cX5_readClause 96 = .ok (.iaload, 1) := by decide +kernel
theorem dX5_readClause_97 : decode cX5_readClause 97 = .ok (.aload_n 0, 1) := by decide +kernel
theorem dX5_readClause_98 : decode cX5_readClause 98 = .ok (.getfield 15, 3) := by decide +kernel
theorem dX5_readClause_101 : decode cX5_readClause 101 = .ok (.iconst 2, 1) := by decide +kernel
theorem dX5_readClause_102 : decode cX5_readClause 102 = .ok (.iaload, 1) := by decide +kernel
theorem dX5_readClause_103 : decode cX5_readClause 103 = .ok (.invokevirtual 68, 3) := by decide +kernel
theorem dX5_readClause_106 : decode cX5_readClause 106 = .ok (.iconst 1, 1) := by decide +kernel
theorem dX5_readClause_107 : decode cX5_readClause 107 = .ok (.ireturn, 1) := by decide +kernel
theorem dX5_nextToken_0 : decode cX5_nextToken 0 = .ok (.aload_n 0, 1) := by decide +kernel
theorem dX5_nextToken_1 : decode cX5_nextToken 1 = .ok (.aload_n 0, 1) := by decide +kernel
theorem dX5_nextToken_2 : decode cX5_nextToken 2 = .ok (.aload_n 0, 1) := by decide +kernel
theorem dX5_nextToken_3 : decode cX5_nextToken 3 = .ok (.getfield 22, 3) := by decide +kernel
theorem dX5_nextToken_6 : decode cX5_nextToken 6 = .ok (.invokevirtual 72, 3) := by decide +kernel
theorem dX5_nextToken_9 : decode cX5_nextToken 9 = .ok (.putfield 32, 3) := by decide +kernel
theorem dX5_nextToken_12 : decode cX5_nextToken 12 = .ok (.aload_n 0, 1) := by decide +kernel
theorem dX5_nextToken_13 : decode cX5_nextToken 13 = .ok (.aload_n 0, 1) := by decide +kernel
theorem dX5_nextToken_14 : decode cX5_nextToken 14 = .ok (.getfield 32, 3) := by decide +kernel
theorem dX5_nextToken_17 : decode cX5_nextToken 17 = .ok (.invokevirtual 38, 3) := by decide +kernel
theorem dX5_nextToken_20 : decode cX5_nextToken 20 = .ok (.istore_n 1, 1) := by decide +kernel
theorem dX5_nextToken_21 : decode cX5_nextToken 21 = .ok (.iload_n 1, 1) := by decide +kernel
theorem dX5_nextToken_22 : decode cX5_nextToken 22 = .ok (.invokestatic 75, 3) := by decide +kernel
theorem dX5_nextToken_25 : decode cX5_nextToken 25 = .ok (.ifCond .eq 18, 3) := by decide +kernel
theorem dX5_nextToken_28 : decode cX5_nextToken 28 = .ok (.aload_n 0, 1) := by decide +kernel
theorem dX5_nextToken_29 : decode cX5_nextToken 29 = .ok (.aload_n 0, 1) := by decide +kernel
theorem dX5_nextToken_30 : decode cX5_nextToken 30 = .ok (.aload_n 0, 1) := by decide +kernel
theorem dX5_nextToken_31 : decode cX5_nextToken 31 = .ok (.getfield 32, 3) := by decide +kernel
theorem dX5_nextToken_34 : decode cX5_nextToken 34 = .ok (.invokevirtual 78, 3) := by decide +kernel
theorem dX5_nextToken_37 : decode cX5_nextToken 37 = .ok (.putfield 22, 3) := by decide +kernel
theorem dX5_nextToken_40 : decode cX5_nextToken 40 = .ok (.goto 42, 3) := by decide +kernel
theorem dX5_nextToken_43 : decode cX5_nextToken 43 = .ok (.iload_n 1, 1) := by decide +kernel
theorem dX5_nextToken_44 : decode cX5_nextToken 44 = .ok (.invokestatic 81, 3) := by decide +kernel
theorem dX5_nextToken_47 : decode cX5_nextToken 47 = .ok (.ifCond .eq 18, 3) := by decide +kernel
theorem dX5_nextToken_50 : decode cX5_nextToken 50 = .ok (.aload_n 0, 1) := by decide +kernel
theorem dX5_nextToken_51 : decode cX5_nextToken 51 = .ok (.aload_n 0, 1) := by decide +kernel
theorem dX5_nextToken_52 : decode cX5_nextToken 52 = .ok (.aload_n 0, 1) := by decide +kernel
theorem dX5_nextToken_53 : decode cX5_nextToken 53 = .ok (.getfield 32, 3) := by decide +kernel
theorem dX5_nextToken_56 : decode cX5_nextToken 56 = .ok (.invokevirtual 84, 3) := by decide +kernel
theorem dX5_nextToken_59 : decode cX5_nextToken 59 = .ok (.putfield 22, 3) := by decide +kernel
theorem dX5_nextToken_62 : decode cX5_nextToken 62 = .ok (.goto 20, 3) := by decide +kernel
theorem dX5_nextToken_65 : decode cX5_nextToken 65 = .ok (.aload_n 0, 1) := by decide +kernel
theorem dX5_nextToken_66 : decode cX5_nextToken 66 = .ok (.aload_n 0, 1) := by decide +kernel
theorem dX5_nextToken_67 : decode cX5_nextToken 67 = .ok (.getfield 18, 3) := by decide +kernel
theorem dX5_nextToken_70 : decode cX5_nextToken 70 = .ok (.aload_n 0, 1) := by decide +kernel
theorem dX5_nextToken_71 : decode cX5_nextToken 71 = .ok (.getfield 32, 3) := by decide +kernel
theorem dX5_nextToken_74 : decode cX5_nextToken 74 = .ok (.iconst 1, 1) := by decide +kernel
theorem dX5_nextToken_75 : decode cX5_nextToken 75 = .ok (.iadd, 1) := by decide +kernel
theorem dX5_nextToken_76 : decode cX5_nextToken 76 = .ok (.invokestatic 87, 3) := by decide +kernel
theorem dX5_nextToken_79 : decode cX5_nextToken 79 = .ok (.putfield 22, 3) := by decide +kernel
theorem dX5_nextToken_82 : decode cX5_nextToken 82 = .ok (.return_, 1) := by decide +kernel
theorem dX5_endOfBlanks_0 : decode cX5_endOfBlanks 0 = .ok (.iload_n 1, 1) := by decide +kernel
theorem dX5_endOfBlanks_1 : decode cX5_endOfBlanks 1 = .ok (.istore_n 2, 1) := by decide +kernel
theorem dX5_endOfBlanks_2 : decode cX5_endOfBlanks 2 = .ok (.iload_n 2, 1) := by decide +kernel
theorem dX5_endOfBlanks_3 : decode cX5_endOfBlanks 3 = .ok (.aload_n 0, 1) := by decide +kernel
theorem dX5_endOfBlanks_4 : decode cX5_endOfBlanks 4 = .ok (.getfield 18, 3) := by decide +kernel
theorem dX5_endOfBlanks_7 : decode cX5_endOfBlanks 7 = .ok (.if_icmp .ge 19, 3) := by decide +kernel
theorem dX5_endOfBlanks_10 : decode cX5_endOfBlanks 10 = .ok (.aload_n 0, 1) := by decide +kernel
theorem dX5_endOfBlanks_11 : decode cX5_endOfBlanks 11 = .ok (.iload_n 2, 1) := by decide +kernel
theorem dX5_endOfBlanks_12 : decode cX5_endOfBlanks 12 = .ok (.invokevirtual 38, 3) := by decide +kernel
theorem dX5_endOfBlanks_15 : decode cX5_endOfBlanks 15 = .ok (.bipush 32, 2) := by decide +kernel
theorem dX5_endOfBlanks_17 : decode cX5_endOfBlanks 17 = .ok (.if_icmp .ne 9, 3) := by decide +kernel
theorem dX5_endOfBlanks_20 : decode cX5_endOfBlanks 20 = .ok (.iinc 2 1, 3) := by decide +kernel
theorem dX5_endOfBlanks_23 : decode cX5_endOfBlanks 23 = .ok (.goto (-21), 3) := by decide +kernel
theorem dX5_endOfBlanks_26 : decode cX5_endOfBlanks 26 = .ok (.iload_n 2, 1) := by decide +kernel
theorem dX5_endOfBlanks_27 : decode cX5_endOfBlanks 27 = .ok (.ireturn, 1) := by decide +kernel
theorem dX5_endOfWord_0 : decode cX5_endOfWord 0 = .ok (.iload_n 1, 1) := by decide +kernel
theorem dX5_endOfWord_1 : decode cX5_endOfWord 1 = .ok (.istore_n 2, 1) := by decide +kernel
theorem dX5_endOfWord_2 : decode cX5_endOfWord 2 = .ok (.iload_n 2, 1) := by decide +kernel
theorem dX5_endOfWord_3 : decode cX5_endOfWord 3 = .ok (.aload_n 0, 1) := by decide +kernel
theorem dX5_endOfWord_4 : decode cX5_endOfWord 4 = .ok (.getfield 18, 3) := by decide +kernel
theorem dX5_endOfWord_7 : decode cX5_endOfWord 7 = .ok (.if_icmp .ge 20, 3) := by decide +kernel
theorem dX5_endOfWord_10 : decode cX5_endOfWord 10 = .ok (.aload_n 0, 1) := by decide +kernel
theorem dX5_endOfWord_11 : decode cX5_endOfWord 11 = .ok (.iload_n 2, 1) := by decide +kernel
theorem dX5_endOfWord_12 : decode cX5_endOfWord 12 = .ok (.invokevirtual 38, 3) := by decide +kernel
theorem dX5_endOfWord_15 : decode cX5_endOfWord 15 = .ok (.invokestatic 75, 3) := by decide +kernel
theorem dX5_endOfWord_18 : decode cX5_endOfWord 18 = .ok (.ifCond .eq 9, 3) := by decide +kernel
theorem dX5_endOfWord_21 : decode cX5_endOfWord 21 = .ok (.iinc 2 1, 3) := by decide +kernel
theorem dX5_endOfWord_24 : decode cX5_endOfWord 24 = .ok (.goto (-22), 3) := by decide +kernel
theorem dX5_endOfWord_27 : decode cX5_endOfWord 27 = .ok (.iload_n 2, 1) := by decide +kernel
theorem dX5_endOfWord_28 : decode cX5_endOfWord 28 = .ok (.ireturn, 1) := by decide +kernel
theorem dX5_endOfNumber_0 : decode cX5_endOfNumber 0 = .ok (.iload_n 1, 1) := by decide +kernel
theorem dX5_endOfNumber_1 : decode cX5_endOfNumber 1 = .ok (.istore_n 2, 1) := by decide +kernel
theorem dX5_endOfNumber_2 : decode cX5_endOfNumber 2 = .ok (.iload_n 2, 1) := by decide +kernel
theorem dX5_endOfNumber_3 : decode cX5_endOfNumber 3 = .ok (.aload_n 0, 1) := by decide +kernel
theorem dX5_endOfNumber_4 : decode cX5_endOfNumber 4 = .ok (.getfield 18, 3) := by decide +kernel
theorem dX5_endOfNumber_7 : decode cX5_endOfNumber 7 = .ok (.if_icmp .ge 20, 3) := by decide +kernel
theorem dX5_endOfNumber_10 : decode cX5_endOfNumber 10 = .ok (.aload_n 0, 1) := by decide +kernel
theorem dX5_endOfNumber_11 : decode cX5_endOfNumber 11 = .ok (.iload_n 2, 1) := by decide +kernel
theorem dX5_endOfNumber_12 : decode cX5_endOfNumber 12 = .ok (.invokevirtual 38, 3) := by decide +kernel
theorem dX5_endOfNumber_15 : decode cX5_endOfNumber 15 = .ok (.invokestatic 81, 3) := by decide +kernel
theorem dX5_endOfNumber_18 : decode cX5_endOfNumber 18 = .ok (.ifCond .eq 9, 3) := by decide +kernel
theorem dX5_endOfNumber_21 : decode cX5_endOfNumber 21 = .ok (.iinc 2 1, 3) := by decide +kernel
theorem dX5_endOfNumber_24 : decode cX5_endOfNumber 24 = .ok (.goto (-22), 3) := by decide +kernel
theorem dX5_endOfNumber_27 : decode cX5_endOfNumber 27 = .ok (.iload_n 2, 1) := by decide +kernel
theorem dX5_endOfNumber_28 : decode cX5_endOfNumber 28 = .ok (.ireturn, 1) := by decide +kernel
theorem dX5_letterAt_0 : decode cX5_letterAt 0 = .ok (.iload_n 1, 1) := by decide +kernel
theorem dX5_letterAt_1 : decode cX5_letterAt 1 = .ok (.ifCond .lt 27, 3) := by decide +kernel
theorem dX5_letterAt_4 : decode cX5_letterAt 4 = .ok (.iload_n 1, 1) := by decide +kernel
theorem dX5_letterAt_5 : decode cX5_letterAt 5 = .ok (.aload_n 0, 1) := by decide +kernel
theorem dX5_letterAt_6 : decode cX5_letterAt 6 = .ok (.getfield 18, 3) := by decide +kernel
theorem dX5_letterAt_9 : decode cX5_letterAt 9 = .ok (.if_icmp .ge 19, 3) := by decide +kernel
theorem dX5_letterAt_12 : decode cX5_letterAt 12 = .ok (.iload_n 1, 1) := by decide +kernel
theorem dX5_letterAt_13 : decode cX5_letterAt 13 = .ok (.sipush 160, 3) := by decide +kernel
theorem dX5_letterAt_16 : decode cX5_letterAt 16 = .ok (.if_icmp .ge 12, 3) := by decide +kernel
theorem dX5_letterAt_19 : decode cX5_letterAt 19 = .ok (.aload_n 0, 1) := by decide +kernel
theorem dX5_letterAt_20 : decode cX5_letterAt 20 = .ok (.getfield 9, 3) := by decide +kernel
theorem dX5_letterAt_23 : decode cX5_letterAt 23 = .ok (.iload_n 1, 1) := by decide +kernel
theorem dX5_letterAt_24 : decode cX5_letterAt 24 = .ok (.iaload, 1) := by decide +kernel
theorem dX5_letterAt_25 : decode cX5_letterAt 25 = .ok (.goto 4, 3) := by decide +kernel
theorem dX5_letterAt_28 : decode cX5_letterAt 28 = .ok (.iconst (-1), 1) := by decide +kernel
theorem dX5_letterAt_29 : decode cX5_letterAt 29 = .ok (.ireturn, 1) := by decide +kernel
theorem dX5_isSmall_0 : decode cX5_isSmall 0 = .ok (.iload_n 0, 1) := by decide +kernel
theorem dX5_isSmall_1 : decode cX5_isSmall 1 = .ok (.bipush 97, 2) := by decide +kernel
theorem dX5_isSmall_3 : decode cX5_isSmall 3 = .ok (.if_icmp .lt 13, 3) := by decide +kernel
theorem dX5_isSmall_6 : decode cX5_isSmall 6 = .ok (.iload_n 0, 1) := by decide +kernel
theorem dX5_isSmall_7 : decode cX5_isSmall 7 = .ok (.bipush 122, 2) := by decide +kernel
theorem dX5_isSmall_9 : decode cX5_isSmall 9 = .ok (.if_icmp .gt 7, 3) := by decide +kernel
theorem dX5_isSmall_12 : decode cX5_isSmall 12 = .ok (.iconst 1, 1) := by decide +kernel
theorem dX5_isSmall_13 : decode cX5_isSmall 13 = .ok (.goto 4, 3) := by decide +kernel
theorem dX5_isSmall_16 : decode cX5_isSmall 16 = .ok (.iconst 0, 1) := by decide +kernel
theorem dX5_isSmall_17 : decode cX5_isSmall 17 = .ok (.ireturn, 1) := by decide +kernel
theorem dX5_isDigit_0 : decode cX5_isDigit 0 = .ok (.iload_n 0, 1) := by decide +kernel
theorem dX5_isDigit_1 : decode cX5_isDigit 1 = .ok (.bipush 48, 2) := by decide +kernel
theorem dX5_isDigit_3 : decode cX5_isDigit 3 = .ok (.if_icmp .lt 13, 3) := by decide +kernel
theorem dX5_isDigit_6 : decode cX5_isDigit 6 = .ok (.iload_n 0, 1) := by decide +kernel
theorem dX5_isDigit_7 : decode cX5_isDigit 7 = .ok (.bipush 57, 2) := by decide +kernel
theorem dX5_isDigit_9 : decode cX5_isDigit 9 = .ok (.if_icmp .gt 7, 3) := by decide +kernel
theorem dX5_isDigit_12 : decode cX5_isDigit 12 = .ok (.iconst 1, 1) := by decide +kernel
theorem dX5_isDigit_13 : decode cX5_isDigit 13 = .ok (.goto 4, 3) := by decide +kernel
theorem dX5_isDigit_16 : decode cX5_isDigit 16 = .ok (.iconst 0, 1) := by decide +kernel
theorem dX5_isDigit_17 : decode cX5_isDigit 17 = .ok (.ireturn, 1) := by decide +kernel
theorem dX5_wordHere_0 : decode cX5_wordHere 0 = .ok (.aload_n 0, 1) := by decide +kernel
theorem dX5_wordHere_1 : decode cX5_wordHere 1 = .ok (.aload_n 0, 1) := by decide +kernel
theorem dX5_wordHere_2 : decode cX5_wordHere 2 = .ok (.getfield 32, 3) := by decide +kernel
theorem dX5_wordHere_5 : decode cX5_wordHere 5 = .ok (.invokevirtual 38, 3) := by decide +kernel
theorem dX5_wordHere_8 : decode cX5_wordHere 8 = .ok (.tableswitch 226 98 115 #[133, 118, 103, 226, 226, 178, 194, 226, 226, 226, 226, 226, 226, 226, 88, 210, 163, 148], 88) := by decide +kernel
theorem dX5_wordHere_96 : decode cX5_wordHere 96 = .ok (.aload_n 0, 1) := by decide +kernel
theorem dX5_wordHere_97 : decode cX5_wordHere 97 = .ok (.ldc 92, 2) := by decide +kernel
theorem dX5_wordHere_99 : decode cX5_wordHere 99 = .ok (.invokevirtual 94, 3) := by decide +kernel
theorem dX5_wordHere_102 : decode cX5_wordHere 102 = .ok (.ifCond .eq 7, 3) := by decide +kernel
theorem dX5_wordHere_105 : decode cX5_wordHere 105 = .ok (.iconst 0, 1) := by decide +kernel
theorem dX5_wordHere_106 : decode cX5_wordHere 106 = .ok (.goto 4, 3) := by decide +kernel
theorem dX5_wordHere_109 : decode cX5_wordHere 109 = .ok (.iconst (-1), 1) := by decide +kernel
theorem dX5_wordHere_110 : decode cX5_wordHere 110 = .ok (.ireturn, 1) := by decide +kernel
theorem dX5_wordHere_111 : decode cX5_wordHere 111 = .ok (.aload_n 0, 1) := by decide +kernel
theorem dX5_wordHere_112 : decode cX5_wordHere 112 = .ok (.ldc 98, 2) := by decide +kernel
theorem dX5_wordHere_114 : decode cX5_wordHere 114 = .ok (.invokevirtual 94, 3) := by decide +kernel
theorem dX5_wordHere_117 : decode cX5_wordHere 117 = .ok (.ifCond .eq 7, 3) := by decide +kernel
theorem dX5_wordHere_120 : decode cX5_wordHere 120 = .ok (.iconst 1, 1) := by decide +kernel
theorem dX5_wordHere_121 : decode cX5_wordHere 121 = .ok (.goto 4, 3) := by decide +kernel
theorem dX5_wordHere_124 : decode cX5_wordHere 124 = .ok (.iconst (-1), 1) := by decide +kernel
theorem dX5_wordHere_125 : decode cX5_wordHere 125 = .ok (.ireturn, 1) := by decide +kernel
theorem dX5_wordHere_126 : decode cX5_wordHere 126 = .ok (.aload_n 0, 1) := by decide +kernel
theorem dX5_wordHere_127 : decode cX5_wordHere 127 = .ok (.ldc 100, 2) := by decide +kernel
theorem dX5_wordHere_129 : decode cX5_wordHere 129 = .ok (.invokevirtual 94, 3) := by decide +kernel
theorem dX5_wordHere_132 : decode cX5_wordHere 132 = .ok (.ifCond .eq 7, 3) := by decide +kernel
theorem dX5_wordHere_135 : decode cX5_wordHere 135 = .ok (.iconst 2, 1) := by decide +kernel
theorem dX5_wordHere_136 : decode cX5_wordHere 136 = .ok (.goto 4, 3) := by decide +kernel
theorem dX5_wordHere_139 : decode cX5_wordHere 139 = .ok (.iconst (-1), 1) := by decide +kernel
theorem dX5_wordHere_140 : decode cX5_wordHere 140 = .ok (.ireturn, 1) := by decide +kernel
theorem dX5_wordHere_141 : decode cX5_wordHere 141 = .ok (.aload_n 0, 1) := by decide +kernel
theorem dX5_wordHere_142 : decode cX5_wordHere 142 = .ok (.ldc 102, 2) := by decide +kernel
theorem dX5_wordHere_144 : decode cX5_wordHere 144 = .ok (.invokevirtual 94, 3) := by decide +kernel
theorem dX5_wordHere_147 : decode cX5_wordHere 147 = .ok (.ifCond .eq 7, 3) := by decide +kernel
theorem dX5_wordHere_150 : decode cX5_wordHere 150 = .ok (.iconst 3, 1) := by decide +kernel
theorem dX5_wordHere_151 : decode cX5_wordHere 151 = .ok (.goto 4, 3) := by decide +kernel
theorem dX5_wordHere_154 : decode cX5_wordHere 154 = .ok (.iconst (-1), 1) := by decide +kernel
theorem dX5_wordHere_155 : decode cX5_wordHere 155 = .ok (.ireturn, 1) := by decide +kernel
theorem dX5_wordHere_156 : decode cX5_wordHere 156 = .ok (.aload_n 0, 1) := by decide +kernel
theorem dX5_wordHere_157 : decode cX5_wordHere 157 = .ok (.ldc 104, 2) := by decide +kernel
theorem dX5_wordHere_159 : decode cX5_wordHere 159 = .ok (.invokevirtual 94, 3) := by decide +kernel
theorem dX5_wordHere_162 : decode cX5_wordHere 162 = .ok (.ifCond .eq 7, 3) := by decide +kernel
theorem dX5_wordHere_165 : decode cX5_wordHere 165 = .ok (.iconst 4, 1) := by decide +kernel
theorem dX5_wordHere_166 : decode cX5_wordHere 166 = .ok (.goto 4, 3) := by decide +kernel
theorem dX5_wordHere_169 : decode cX5_wordHere 169 = .ok (.iconst (-1), 1) := by decide +kernel
theorem dX5_wordHere_170 : decode cX5_wordHere 170 = .ok (.ireturn, 1) := by decide +kernel
theorem dX5_wordHere_171 : decode cX5_wordHere 171 = .ok (.aload_n 0, 1) := by decide +kernel
theorem dX5_wordHere_172 : decode cX5_wordHere 172 = .ok (.ldc 106, 2) := by decide +kernel
theorem dX5_wordHere_174 : decode cX5_wordHere 174 = .ok (.invokevirtual 94, 3) := by decide +kernel
theorem dX5_wordHere_177 : decode cX5_wordHere 177 = .ok (.ifCond .eq 7, 3) := by decide +kernel
theorem dX5_wordHere_180 : decode cX5_wordHere 180 = .ok (.iconst 5, 1) := by decide +kernel
theorem dX5_wordHere_181 : decode cX5_wordHere 181 = .ok (.goto 4, 3) := by decide +kernel
theorem dX5_wordHere_184 : decode cX5_wordHere 184 = .ok (.iconst (-1), 1) := by decide +kernel
theorem dX5_wordHere_185 : decode cX5_wordHere 185 = .ok (.ireturn, 1) := by decide +kernel
theorem dX5_wordHere_186 : decode cX5_wordHere 186 = .ok (.aload_n 0, 1) := by decide +kernel
theorem dX5_wordHere_187 : decode cX5_wordHere 187 = .ok (.ldc 108, 2) := by decide +kernel
theorem dX5_wordHere_189 : decode cX5_wordHere 189 = .ok (.invokevirtual 94, 3) := by decide +kernel
theorem dX5_wordHere_192 : decode cX5_wordHere 192 = .ok (.ifCond .eq 8, 3) := by decide +kernel
theorem dX5_wordHere_195 : decode cX5_wordHere 195 = .ok (.bipush 6, 2) := by decide +kernel
theorem dX5_wordHere_197 : decode cX5_wordHere 197 = .ok (.goto 4, 3) := by decide +kernel
theorem dX5_wordHere_200 : decode cX5_wordHere 200 = .ok (.iconst (-1), 1) := by decide +kernel
theorem dX5_wordHere_201 : decode cX5_wordHere 201 = .ok (.ireturn, 1) := by decide +kernel
theorem dX5_wordHere_202 : decode cX5_wordHere 202 = .ok (.aload_n 0, 1) := by decide +kernel
theorem dX5_wordHere_203 : decode cX5_wordHere 203 = .ok (.ldc 110, 2) := by decide +kernel
theorem dX5_wordHere_205 : decode cX5_wordHere 205 = .ok (.invokevirtual 94, 3) := by decide +kernel
theorem dX5_wordHere_208 : decode cX5_wordHere 208 = .ok (.ifCond .eq 8, 3) := by decide +kernel
theorem dX5_wordHere_211 : decode cX5_wordHere 211 = .ok (.bipush 7, 2) := by decide +kernel
theorem dX5_wordHere_213 : decode cX5_wordHere 213 = .ok (.goto 4, 3) := by decide +kernel
theorem dX5_wordHere_216 : decode cX5_wordHere 216 = .ok (.iconst (-1), 1) := by decide +kernel
theorem dX5_wordHere_217 : decode cX5_wordHere 217 = .ok (.ireturn, 1) := by decide +kernel
theorem dX5_wordHere_218 : decode cX5_wordHere 218 = .ok (.aload_n 0, 1) := by decide +kernel
theorem dX5_wordHere_219 : decode cX5_wordHere 219 = .ok (.ldc 112, 2) := by decide +kernel
theorem dX5_wordHere_221 : decode cX5_wordHere 221 = .ok (.invokevirtual 94, 3) := by decide +kernel
theorem dX5_wordHere_224 : decode cX5_wordHere 224 = .ok (.ifCond .eq 8, 3) := by decide +kernel
theorem dX5_wordHere_227 : decode cX5_wordHere 227 = .ok (.bipush 8, 2) := by decide +kernel
theorem dX5_wordHere_229 : decode cX5_wordHere 229 = .ok (.goto 4, 3) := by decide +kernel
theorem dX5_wordHere_232 : decode cX5_wordHere 232 = .ok (.iconst (-1), 1) := by decide +kernel
theorem dX5_wordHere_233 : decode cX5_wordHere 233 = .ok (.ireturn, 1) := by decide +kernel
theorem dX5_wordHere_234 : decode cX5_wordHere 234 = .ok (.iconst (-1), 1) := by decide +kernel
theorem dX5_wordHere_235 : decode cX5_wordHere 235 = .ok (.ireturn, 1) := by decide +kernel
theorem dX5_isHere_0 : decode cX5_isHere 0 = .ok (.aload_n 0, 1) := by decide +kernel
theorem dX5_isHere_1 : decode cX5_isHere 1 = .ok (.getfield 22, 3) := by decide +kernel
theorem dX5_isHere_4 : decode cX5_isHere 4 = .ok (.aload_n 0, 1) := by decide +kernel
theorem dX5_isHere_5 : decode cX5_isHere 5 = .ok (.getfield 32, 3) := by decide +kernel
theorem dX5_isHere_8 : decode cX5_isHere 8 = .ok (.isub, 1) := by decide +kernel
theorem dX5_isHere_9 : decode cX5_isHere 9 = .ok (.aload_n 1, 1) := by decide +kernel
theorem dX5_isHere_10 : decode cX5_isHere 10 = .ok (.invokevirtual 114, 3) := by decide +kernel
theorem dX5_isHere_13 : decode cX5_isHere 13 = .ok (.if_icmp .eq 5, 3) := by decide +kernel
theorem dX5_isHere_16 : decode cX5_isHere 16 = .ok (.iconst 0, 1) := by decide +kernel
theorem dX5_isHere_17 : decode cX5_isHere 17 = .ok (.ireturn, 1) := by decide +kernel
theorem dX5_isHere_18 : decode cX5_isHere 18 = .ok (.iconst 0, 1) := by decide +kernel
theorem dX5_isHere_19 : decode cX5_isHere 19 = .ok (.istore_n 2, 1) := by decide +kernel
theorem dX5_isHere_20 : decode cX5_isHere 20 = .ok (.iload_n 2, 1) := by decide +kernel
theorem dX5_isHere_21 : decode cX5_isHere 21 = .ok (.aload_n 1, 1) := by decide +kernel
theorem dX5_isHere_22 : decode cX5_isHere 22 = .ok (.invokevirtual 114, 3) := by decide +kernel
theorem dX5_isHere_25 : decode cX5_isHere 25 = .ok (.if_icmp .ge 29, 3) := by decide +kernel
theorem dX5_isHere_28 : decode cX5_isHere 28 = .ok (.aload_n 0, 1) := by decide +kernel
theorem dX5_isHere_29 : decode cX5_isHere 29 = .ok (.aload_n 0, 1) := by decide +kernel
theorem dX5_isHere_30 : decode cX5_isHere 30 = .ok (.getfield 32, 3) := by decide +kernel
theorem dX5_isHere_33 : decode cX5_isHere 33 = .ok (.iload_n 2, 1) := by decide +kernel
theorem dX5_isHere_34 : decode cX5_isHere 34 = .ok (.iadd, 1) := by decide +kernel
theorem dX5_isHere_35 : decode cX5_isHere 35 = .ok (.invokevirtual 38, 3) := by decide +kernel
theorem dX5_isHere_38 : decode cX5_isHere 38 = .ok (.aload_n 1, 1) := by decide +kernel
theorem dX5_isHere_39 : decode cX5_isHere 39 = .ok (.iload_n 2, 1) := by decide +kernel
theorem dX5_isHere_40 : decode cX5_isHere 40 = .ok (.invokevirtual 118, 3) := by decide +kernel
theorem dX5_isHere_43 : decode cX5_isHere 43 = .ok (.if_icmp .eq 5, 3) := by decide +kernel
theorem dX5_isHere_46 : decode cX5_isHere 46 = .ok (.iconst 0, 1) := by decide +kernel
theorem dX5_isHere_47 : decode cX5_isHere 47 = .ok (.ireturn, 1) := by decide +kernel
theorem dX5_isHere_48 : decode cX5_isHere 48 = .ok (.iinc 2 1, 3) := by decide +kernel
theorem dX5_isHere_51 : decode cX5_isHere 51 = .ok (.goto (-31), 3) := by decide +kernel
theorem dX5_isHere_54 : decode cX5_isHere 54 = .ok (.iconst 1, 1) := by decide +kernel
theorem dX5_isHere_55 : decode cX5_isHere 55 = .ok (.ireturn, 1) := by decide +kernel
theorem dX5_numberHere_0 : decode cX5_numberHere 0 = .ok (.aload_n 0, 1) := by decide +kernel
theorem dX5_numberHere_1 : decode cX5_numberHere 1 = .ok (.aload_n 0, 1) := by decide +kernel
theorem dX5_numberHere_2 : decode cX5_numberHere 2 = .ok (.getfield 32, 3) := by decide +kernel
theorem dX5_numberHere_5 : decode cX5_numberHere 5 = .ok (.invokevirtual 38, 3) := by decide +kernel
theorem dX5_numberHere_8 : decode cX5_numberHere 8 = .ok (.invokestatic 81, 3) := by decide +kernel
theorem dX5_numberHere_11 : decode cX5_numberHere 11 = .ok (.ifCond .eq 16, 3) := by decide +kernel
theorem dX5_numberHere_14 : decode cX5_numberHere 14 = .ok (.aload_n 0, 1) := by decide +kernel
theorem dX5_numberHere_15 : decode cX5_numberHere 15 = .ok (.getfield 22, 3) := by decide +kernel
theorem dX5_numberHere_18 : decode cX5_numberHere 18 = .ok (.aload_n 0, 1) := by decide +kernel
theorem dX5_numberHere_19 : decode cX5_numberHere 19 = .ok (.getfield 32, 3) := by decide +kernel
theorem dX5_numberHere_22 : decode cX5_numberHere 22 = .ok (.isub, 1) := by decide +kernel
theorem dX5_numberHere_23 : decode cX5_numberHere 23 = .ok (.iconst 2, 1) := by decide +kernel
theorem dX5_numberHere_24 : decode cX5_numberHere 24 = .ok (.if_icmp .le 5, 3) := by decide +kernel
theorem dX5_numberHere_27 : decode cX5_numberHere 27 = .ok (.iconst (-1), 1) := by decide +kernel
theorem dX5_numberHere_28 : decode cX5_numberHere 28 = .ok (.ireturn, 1) := by decide +kernel
theorem dX5_numberHere_29 : decode cX5_numberHere 29 = .ok (.iconst 0, 1) := by decide +kernel
theorem dX5_numberHere_30 : decode cX5_numberHere 30 = .ok (.istore_n 1, 1) := by decide +kernel
theorem dX5_numberHere_31 : decode cX5_numberHere 31 = .ok (.aload_n 0, 1) := by decide +kernel
theorem dX5_numberHere_32 : decode cX5_numberHere 32 = .ok (.getfield 32, 3) := by decide +kernel
theorem dX5_numberHere_35 : decode cX5_numberHere 35 = .ok (.istore_n 2, 1) := by decide +kernel
theorem dX5_numberHere_36 : decode cX5_numberHere 36 = .ok (.iload_n 2, 1) := by decide +kernel
theorem dX5_numberHere_37 : decode cX5_numberHere 37 = .ok (.aload_n 0, 1) := by decide +kernel
theorem dX5_numberHere_38 : decode cX5_numberHere 38 = .ok (.getfield 22, 3) := by decide +kernel
theorem dX5_numberHere_41 : decode cX5_numberHere 41 = .ok (.if_icmp .ge 23, 3) := by decide +kernel
theorem dX5_numberHere_44 : decode cX5_numberHere 44 = .ok (.bipush 10, 2) := by decide +kernel
theorem dX5_numberHere_46 : decode cX5_numberHere 46 = .ok (.iload_n 1, 1) := by decide +kernel
theorem dX5_numberHere_47 : decode cX5_numberHere 47 = .ok (.imul, 1) := by decide +kernel
theorem dX5_numberHere_48 : decode cX5_numberHere 48 = .ok (.aload_n 0, 1) := by decide +kernel
theorem dX5_numberHere_49 : decode cX5_numberHere 49 = .ok (.iload_n 2, 1) := by decide +kernel
theorem dX5_numberHere_50 : decode cX5_numberHere 50 = .ok (.invokevirtual 38, 3) := by decide +kernel
theorem dX5_numberHere_53 : decode cX5_numberHere 53 = .ok (.iadd, 1) := by decide +kernel
theorem dX5_numberHere_54 : decode cX5_numberHere 54 = .ok (.bipush 48, 2) := by decide +kernel
theorem dX5_numberHere_56 : decode cX5_numberHere 56 = .ok (.isub, 1) := by decide +kernel
theorem dX5_numberHere_57 : decode cX5_numberHere 57 = .ok (.istore_n 1, 1) := by decide +kernel
theorem dX5_numberHere_58 : decode cX5_numberHere 58 = .ok (.iinc 2 1, 3) := by decide +kernel
theorem dX5_numberHere_61 : decode cX5_numberHere 61 = .ok (.goto (-25), 3) := by decide +kernel
theorem dX5_numberHere_64 : decode cX5_numberHere 64 = .ok (.iload_n 1, 1) := by decide +kernel
theorem dX5_numberHere_65 : decode cX5_numberHere 65 = .ok (.ireturn, 1) := by decide +kernel
theorem dX5_numbersBehind_0 : decode cX5_numbersBehind 0 = .ok (.iload_n 0, 1) := by decide +kernel
theorem dX5_numbersBehind_1 : decode cX5_numbersBehind 1 = .ok (.tableswitch 39 4 8 #[35, 39, 35, 37, 37], 35) := by decide +kernel
theorem dX5_numbersBehind_36 : decode cX5_numbersBehind 36 = .ok (.iconst 1, 1) := by decide +kernel
theorem dX5_numbersBehind_37 : decode cX5_numbersBehind 37 = .ok (.ireturn, 1) := by decide +kernel
theorem dX5_numbersBehind_38 : decode cX5_numbersBehind 38 = .ok (.iconst 0, 1) := by decide +kernel
theorem dX5_numbersBehind_39 : decode cX5_numbersBehind 39 = .ok (.ireturn, 1) := by decide +kernel
theorem dX5_numbersBehind_40 : decode cX5_numbersBehind 40 = .ok (.iconst 3, 1) := by decide +kernel
theorem dX5_numbersBehind_41 : decode cX5_numbersBehind 41 = .ok (.ireturn, 1) := by decide +kernel
theorem dX5_mostOf_0 : decode cX5_mostOf 0 = .ok (.iload_n 0, 1) := by decide +kernel
theorem dX5_mostOf_1 : decode cX5_mostOf 1 = .ok (.tableswitch 45 4 6 #[27, 33, 30], 27) := by decide +kernel
theorem dX5_mostOf_28 : decode cX5_mostOf 28 = .ok (.bipush 15, 2) := by decide +kernel
theorem dX5_mostOf_30 : decode cX5_mostOf 30 = .ok (.ireturn, 1) := by decide +kernel
theorem dX5_mostOf_31 : decode cX5_mostOf 31 = .ok (.bipush 99, 2) := by decide +kernel
theorem dX5_mostOf_33 : decode cX5_mostOf 33 = .ok (.ireturn, 1) := by decide +kernel
theorem dX5_mostOf_34 : decode cX5_mostOf 34 = .ok (.iload_n 1, 1) := by decide +kernel
theorem dX5_mostOf_35 : decode cX5_mostOf 35 = .ok (.ifCond .ne 8, 3) := by decide +kernel
theorem dX5_mostOf_38 : decode cX5_mostOf 38 = .ok (.bipush 99, 2) := by decide +kernel
theorem dX5_mostOf_40 : decode cX5_mostOf 40 = .ok (.goto 5, 3) := by decide +kernel
theorem dX5_mostOf_43 : decode cX5_mostOf 43 = .ok (.bipush 10, 2) := by decide +kernel
theorem dX5_mostOf_45 : decode cX5_mostOf 45 = .ok (.ireturn, 1) := by decide +kernel
theorem dX5_mostOf_46 : decode cX5_mostOf 46 = .ok (.iload_n 1, 1) := by decide +kernel
theorem dX5_mostOf_47 : decode cX5_mostOf 47 = .ok (.iconst 1, 1) := by decide +kernel
theorem dX5_mostOf_48 : decode cX5_mostOf 48 = .ok (.if_icmp .ne 8, 3) := by decide +kernel
theorem dX5_mostOf_51 : decode cX5_mostOf 51 = .ok (.bipush 99, 2) := by decide +kernel
theorem dX5_mostOf_53 : decode cX5_mostOf 53 = .ok (.goto 5, 3) := by decide +kernel
theorem dX5_mostOf_56 : decode cX5_mostOf 56 = .ok (.bipush 9, 2) := by decide +kernel
theorem dX5_mostOf_58 : decode cX5_mostOf 58 = .ok (.ireturn, 1) := by decide +kernel
theorem dX6_init_0 : decode cX6_init 0 = .ok (.aload_n 0, 1) := by decide +kernel
theorem dX6_init_1 : decode cX6_init 1 = .ok (.invokespecial 3, 3) := by decide +kernel
theorem dX6_init_4 : decode cX6_init 4 = .ok (.aload_n 0, 1) := by decide +kernel
theorem dX6_init_5 : decode cX6_init 5 = .ok (.bipush 8, 2) := by decide +kernel
theorem dX6_init_7 : decode cX6_init 7 = .ok (.anewarray 9, 3) := by decide +kernel
theorem dX6_init_10 : decode cX6_init 10 = .ok (.putfield 11, 3) := by decide +kernel
theorem dX6_init_13 : decode cX6_init 13 = .ok (.iconst 0, 1) := by decide +kernel
theorem dX6_init_14 : decode cX6_init 14 = .ok (.istore_n 1, 1) := by decide +kernel
theorem dX6_init_15 : decode cX6_init 15 = .ok (.iload_n 1, 1) := by decide +kernel
theorem dX6_init_16 : decode cX6_init 16 = .ok (.bipush 8, 2) := by decide +kernel
theorem dX6_init_18 : decode cX6_init 18 = .ok (.if_icmp .ge 22, 3) := by decide +kernel
theorem dX6_init_21 : decode cX6_init 21 = .ok (.aload_n 0, 1) := by decide +kernel
theorem dX6_init_22 : decode cX6_init 22 = .ok (.getfield 11, 3) := by decide +kernel
theorem dX6_init_25 : decode cX6_init 25 = .ok (.iload_n 1, 1) := by decide +kernel
theorem dX6_init_26 : decode cX6_init 26 = .ok (.new 9, 3) := by decide +kernel
theorem dX6_init_29 : decode cX6_init 29 = .ok (.dup, 1) := by decide +kernel
theorem dX6_init_30 : decode cX6_init 30 = .ok (.invokespecial 17, 3) := by decide +kernel
theorem dX6_init_33 : decode cX6_init 33 = .ok (.aastore, 1) := by decide +kernel
theorem dX6_init_34 : decode cX6_init 34 = .ok (.iinc 1 1, 3) := by decide +kernel
theorem dX6_init_37 : decode cX6_init 37 = .ok (.goto (-22), 3) := by decide +kernel
theorem dX6_init_40 : decode cX6_init 40 = .ok (.return_, 1) := by decide +kernel
theorem dX6_remember_0 : decode cX6_remember 0 = .ok (.aload_n 1, 1) := by decide +kernel
theorem dX6_remember_1 : decode cX6_remember 1 = .ok (.aload_n 0, 1) := by decide +kernel
theorem dX6_remember_2 : decode cX6_remember 2 = .ok (.getfield 11, 3) := by decide +kernel
theorem dX6_remember_5 : decode cX6_remember 5 = .ok (.aload_n 0, 1) := by decide +kernel
theorem dX6_remember_6 : decode cX6_remember 6 = .ok (.getfield 18, 3) := by decide +kernel
theorem dX6_remember_9 : decode cX6_remember 9 = .ok (.aaload, 1) := by decide +kernel
theorem dX6_remember_10 : decode cX6_remember 10 = .ok (.invokestatic 22, 3) := by decide +kernel
theorem dX6_remember_13 : decode cX6_remember 13 = .ok (.aload_n 0, 1) := by decide +kernel
theorem dX6_remember_14 : decode cX6_remember 14 = .ok (.aload_n 0, 1) := by decide +kernel
theorem dX6_remember_15 : decode cX6_remember 15 = .ok (.getfield 18, 3) := by decide +kernel
theorem dX6_remember_18 : decode cX6_remember 18 = .ok (.iconst 1, 1) := by decide +kernel
theorem dX6_remember_19 : decode cX6_remember 19 = .ok (.iadd, 1) := by decide +kernel
theorem dX6_remember_20 : decode cX6_remember 20 = .ok (.bipush 8, 2) := by decide +kernel
theorem dX6_remember_22 : decode cX6_remember 22 = .ok (.irem, 1) := by decide +kernel
theorem dX6_remember_23 : decode cX6_remember 23 = .ok (.putfield 18, 3) := by decide +kernel
theorem dX6_remember_26 : decode cX6_remember 26 = .ok (.aload_n 0, 1) := by decide +kernel
theorem dX6_remember_27 : decode cX6_remember 27 = .ok (.bipush 8, 2) := by decide +kernel
theorem dX6_remember_29 : decode cX6_remember 29 = .ok (.aload_n 0, 1) := by decide +kernel
theorem dX6_remember_30 : decode cX6_remember 30 = .ok (.getfield 26, 3) := by decide +kernel
theorem dX6_remember_33 : decode cX6_remember 33 = .ok (.iconst 1, 1) := by decide +kernel
theorem dX6_remember_34 : decode cX6_remember 34 = .ok (.iadd, 1) := by decide +kernel
theorem dX6_remember_35 : decode cX6_remember 35 = .ok (.invokestatic 29, 3) := by decide +kernel
theorem dX6_remember_38 : decode cX6_remember 38 = .ok (.putfield 26, 3) := by decide +kernel
theorem dX6_remember_41 : decode cX6_remember 41 = .ok (.return_, 1) := by decide +kernel
theorem dX6_restore_0 : decode cX6_restore 0 = .ok (.aload_n 0, 1) := by decide +kernel
theorem dX6_restore_1 : decode cX6_restore 1 = .ok (.getfield 26, 3) := by decide +kernel
theorem dX6_restore_4 : decode cX6_restore 4 = .ok (.ifCond .gt 5, 3) := by decide +kernel
theorem dX6_restore_7 : decode cX6_restore 7 = .ok (.iconst 0, 1) := by decide +kernel
theorem dX6_restore_8 : decode cX6_restore 8 = .ok (.ireturn, 1) := by decide +kernel
theorem dX6_restore_9 : decode cX6_restore 9 = .ok (.aload_n 0, 1) := by decide +kernel
theorem dX6_restore_10 : decode cX6_restore 10 = .ok (.aload_n 0, 1) := by decide +kernel
theorem dX6_restore_11 : decode cX6_restore 11 = .ok (.getfield 18, 3) := by decide +kernel
theorem dX6_restore_14 : decode cX6_restore 14 = .ok (.bipush 8, 2) := by decide +kernel
theorem dX6_restore_16 : decode cX6_restore 16 = .ok (.iadd, 1) := by decide +kernel
theorem dX6_restore_17 : decode cX6_restore 17 = .ok (.iconst 1, 1) := by decide +kernel
theorem dX6_restore_18 : decode cX6_restore 18 = .ok (.isub, 1) := by decide +kernel
theorem dX6_restore_19 : decode cX6_restore 19 = .ok (.bipush 8, 2) := by decide +kernel
theorem dX6_restore_21 : decode cX6_restore 21 = .ok (.irem, 1) := by decide +kernel
theorem dX6_restore_22 : decode cX6_restore 22 = .ok (.putfield 18, 3) := by decide +kernel
theorem dX6_restore_25 : decode cX6_restore 25 = .ok (.aload_n 0, 1) := by decide +kernel
theorem dX6_restore_26 : decode cX6_restore 26 = .ok (.dup, 1) := by decide +kernel
theorem dX6_restore_27 : decode cX6_restore 27 = .ok (.getfield 26, 3) := by decide +kernel
theorem dX6_restore_30 : decode cX6_restore 30 = .ok (.iconst 1, 1) := by decide +kernel
theorem dX6_restore_31 : decode cX6_restore 31 = .ok (.isub, 1) := by decide +kernel
theorem dX6_restore_32 : decode cX6_restore 32 = .ok (.putfield 26, 3) := by decide +kernel
theorem dX6_restore_35 : decode cX6_restore 35 = .ok (.aload_n 0, 1) := by decide +kernel
theorem dX6_restore_36 : decode cX6_restore 36 = .ok (.getfield 11, 3) := by decide +kernel
theorem dX6_restore_39 : decode cX6_restore 39 = .ok (.aload_n 0, 1) := by decide +kernel
theorem dX6_restore_40 : decode cX6_restore 40 = .ok (.getfield 18, 3) := by decide +kernel
theorem dX6_restore_43 : decode cX6_restore 43 = .ok (.aaload, 1) := by decide +kernel
theorem dX6_restore_44 : decode cX6_restore 44 = .ok (.aload_n 1, 1) := by decide +kernel
theorem dX6_restore_45 : decode cX6_restore 45 = .ok (.invokestatic 22, 3) := by decide +kernel
theorem dX6_restore_48 : decode cX6_restore 48 = .ok (.iconst 1, 1) := by decide +kernel
theorem dX6_restore_49 : decode cX6_restore 49 = .ok (.ireturn, 1) := by decide +kernel
