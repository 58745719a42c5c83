abbrev mJ0_charAt_5068e : gz_M := (yJ0_charAt_5068e, cJ0_charAt_5068e, 2, some .char)
theorem dJ0_charAt_5068e_0 : decode mJ0_charAt_5068e.2.1 0 = .ok (.aload_n 0, 1) := by decide +kernel
theorem dJ0_charAt_5068e_1 : decode mJ0_charAt_5068e.2.1 1 = .ok (.invokevirtual 492, 3) := by decide +kernel
theorem dJ0_charAt_5068e_4 : decode mJ0_charAt_5068e.2.1 4 = .ok (.ifCond .eq 12, 3) := by decide +kernel
theorem dJ0_charAt_5068e_7 : decode mJ0_charAt_5068e.2.1 7 = .ok (.aload_n 0, 1) := by decide +kernel
theorem dJ0_charAt_5068e_8 : decode mJ0_charAt_5068e.2.1 8 = .ok (.getfield 9, 3) := by decide +kernel
theorem dJ0_charAt_5068e_11 : decode mJ0_charAt_5068e.2.1 11 = .ok (.iload_n 1, 1) := by decide +kernel
theorem dJ0_charAt_5068e_12 : decode mJ0_charAt_5068e.2.1 12 = .ok (.invokestatic 495, 3) := by decide +kernel
theorem dJ0_charAt_5068e_15 : decode mJ0_charAt_5068e.2.1 15 = .ok (.ireturn, 1) := by decide +kernel
theorem dJ0_charAt_5068e_16 : decode mJ0_charAt_5068e.2.1 16 = .ok (.aload_n 0, 1) := by decide +kernel
theorem dJ0_charAt_5068e_17 : decode mJ0_charAt_5068e.2.1 17 = .ok (.getfield 9, 3) := by decide +kernel
theorem dJ0_charAt_5068e_20 : decode mJ0_charAt_5068e.2.1 20 = .ok (.iload_n 1, 1) := by decide +kernel
theorem dJ0_charAt_5068e_21 : decode mJ0_charAt_5068e.2.1 21 = .ok (.invokestatic 498, 3) := by decide +kernel
theorem dJ0_charAt_5068e_24 : decode mJ0_charAt_5068e.2.1 24 = .ok (.ireturn, 1) := by decide +kernel
abbrev mJ0_checkIndex_df160 : gz_M := (yJ0_checkIndex_df160, cJ0_checkIndex_df160, 2, none)
theorem dJ0_checkIndex_df160_0 : decode mJ0_checkIndex_df160.2.1 0 = .ok (.iload_n 0, 1) := by decide +kernel
theorem dJ0_checkIndex_df160_1 : decode mJ0_checkIndex_df160.2.1 1 = .ok (.iload_n 1, 1) := by decide +kernel
theorem dJ0_checkIndex_df160_2 : decode mJ0_checkIndex_df160.2.1 2 = .ok (.getstatic 1053, 3) := by decide +kernel
theorem dJ0_checkIndex_df160_5 : decode mJ0_checkIndex_df160.2.1 5 = .ok (.invokestatic 1059, 3) := by decide +kernel
theorem dJ0_checkIndex_df160_8 : decode mJ0_checkIndex_df160.2.1 8 = .ok (.pop, 1) := by decide +kernel
theorem dJ0_checkIndex_df160_9 : decode mJ0_checkIndex_df160.2.1 9 = .ok (.return_, 1) := by decide +kernel
abbrev mJ0_coder_7d493 : gz_M := (yJ0_coder_7d493, cJ0_coder_7d493, 1, some .byte)
theorem dJ0_coder_7d493_0 : decode mJ0_coder_7d493.2.1 0 = .ok (.getstatic 38, 3) := by decide +kernel
theorem dJ0_coder_7d493_3 : decode mJ0_coder_7d493.2.1 3 = .ok (.ifCond .eq 10, 3) := by decide +kernel
theorem dJ0_coder_7d493_6 : decode mJ0_coder_7d493.2.1 6 = .ok (.aload_n 0, 1) := by decide +kernel
theorem dJ0_coder_7d493_7 : decode mJ0_coder_7d493.2.1 7 = .ok (.getfield 15, 3) := by decide +kernel
theorem dJ0_coder_7d493_10 : decode mJ0_coder_7d493.2.1 10 = .ok (.goto 4, 3) := by decide +kernel
theorem dJ0_coder_7d493_13 : decode mJ0_coder_7d493.2.1 13 = .ok (.iconst 1, 1) := by decide +kernel
theorem dJ0_coder_7d493_14 : decode mJ0_coder_7d493.2.1 14 = .ok (.ireturn, 1) := by decide +kernel
abbrev mJ0_isLatin1_aae02 : gz_M := (yJ0_isLatin1_aae02, cJ0_isLatin1_aae02, 1, some .boolean)
theorem dJ0_isLatin1_aae02_0 : decode mJ0_isLatin1_aae02.2.1 0 = .ok (.getstatic 38, 3) := by decide +kernel
theorem dJ0_isLatin1_aae02_3 : decode mJ0_isLatin1_aae02.2.1 3 = .ok (.ifCond .eq 14, 3) := by decide +kernel
theorem dJ0_isLatin1_aae02_6 : decode mJ0_isLatin1_aae02.2.1 6 = .ok (.aload_n 0, 1) := by decide +kernel
theorem dJ0_isLatin1_aae02_7 : decode mJ0_isLatin1_aae02.2.1 7 = .ok (.getfield 15, 3) := by decide +kernel
theorem dJ0_isLatin1_aae02_10 : decode mJ0_isLatin1_aae02.2.1 10 = .ok (.ifCond .ne 7, 3) := by decide +kernel
theorem dJ0_isLatin1_aae02_13 : decode mJ0_isLatin1_aae02.2.1 13 = .ok (.iconst 1, 1) := by decide +kernel
theorem dJ0_isLatin1_aae02_14 : decode mJ0_isLatin1_aae02.2.1 14 = .ok (.goto 4, 3) := by decide +kernel
theorem dJ0_isLatin1_aae02_17 : decode mJ0_isLatin1_aae02.2.1 17 = .ok (.iconst 0, 1) := by decide +kernel
theorem dJ0_isLatin1_aae02_18 : decode mJ0_isLatin1_aae02.2.1 18 = .ok (.ireturn, 1) := by decide +kernel
abbrev mJ0_length_8abf5 : gz_M := (yJ0_length_8abf5, cJ0_length_8abf5, 1, some .int)
theorem dJ0_length_8abf5_0 : decode mJ0_length_8abf5.2.1 0 = .ok (.aload_n 0, 1) := by decide +kernel
theorem dJ0_length_8abf5_1 : decode mJ0_length_8abf5.2.1 1 = .ok (.getfield 9, 3) := by decide +kernel
theorem dJ0_length_8abf5_4 : decode mJ0_length_8abf5.2.1 4 = .ok (.arraylength, 1) := by decide +kernel
theorem dJ0_length_8abf5_5 : decode mJ0_length_8abf5.2.1 5 = .ok (.aload_n 0, 1) := by decide +kernel
theorem dJ0_length_8abf5_6 : decode mJ0_length_8abf5.2.1 6 = .ok (.invokevirtual 335, 3) := by decide +kernel
theorem dJ0_length_8abf5_9 : decode mJ0_length_8abf5.2.1 9 = .ok (.ishr, 1) := by decide +kernel
theorem dJ0_length_8abf5_10 : decode mJ0_length_8abf5.2.1 10 = .ok (.ireturn, 1) := by decide +kernel
abbrev mJ1_charAt_3b067 : gz_M := (yJ1_charAt_3b067, cJ1_charAt_3b067, 2, some .char)
theorem dJ1_charAt_3b067_0 : decode mJ1_charAt_3b067.2.1 0 = .ok (.iload_n 1, 1) := by decide +kernel
theorem dJ1_charAt_3b067_1 : decode mJ1_charAt_3b067.2.1 1 = .ok (.aload_n 0, 1) := by decide +kernel
theorem dJ1_charAt_3b067_2 : decode mJ1_charAt_3b067.2.1 2 = .ok (.arraylength, 1) := by decide +kernel
theorem dJ1_charAt_3b067_3 : decode mJ1_charAt_3b067.2.1 3 = .ok (.invokestatic 9, 3) := by decide +kernel
theorem dJ1_charAt_3b067_6 : decode mJ1_charAt_3b067.2.1 6 = .ok (.aload_n 0, 1) := by decide +kernel
theorem dJ1_charAt_3b067_7 : decode mJ1_charAt_3b067.2.1 7 = .ok (.iload_n 1, 1) := by decide +kernel
theorem dJ1_charAt_3b067_8 : decode mJ1_charAt_3b067.2.1 8 = .ok (.baload, 1) := by decide +kernel
theorem dJ1_charAt_3b067_9 : decode mJ1_charAt_3b067.2.1 9 = .ok (.sipush 255, 3) := by decide +kernel
theorem dJ1_charAt_3b067_12 : decode mJ1_charAt_3b067.2.1 12 = .ok (.iand, 1) := by decide +kernel
theorem dJ1_charAt_3b067_13 : decode mJ1_charAt_3b067.2.1 13 = .ok (.i2c, 1) := by decide +kernel
theorem dJ1_charAt_3b067_14 : decode mJ1_charAt_3b067.2.1 14 = .ok (.ireturn, 1) := by decide +kernel
abbrev mJ3_checkIndex_8e157 : gz_M := (yJ3_checkIndex_8e157, cJ3_checkIndex_8e157, 3, some .int)
theorem dJ3_checkIndex_8e157_0 : decode mJ3_checkIndex_8e157.2.1 0 = .ok (.iload_n 0, 1) := by decide +kernel
theorem dJ3_checkIndex_8e157_1 : decode mJ3_checkIndex_8e157.2.1 1 = .ok (.ifCond .lt 8, 3) := by decide +kernel
theorem dJ3_checkIndex_8e157_4 : decode mJ3_checkIndex_8e157.2.1 4 = .ok (.iload_n 0, 1) := by decide +kernel
theorem dJ3_checkIndex_8e157_5 : decode mJ3_checkIndex_8e157.2.1 5 = .ok (.iload_n 1, 1) := by decide +kernel
theorem dJ3_checkIndex_8e157_6 : decode mJ3_checkIndex_8e157.2.1 6 = .ok (.if_icmp .lt 10, 3) := by decide +kernel
theorem dJ3_checkIndex_8e157_9 : decode mJ3_checkIndex_8e157.2.1 9 = .ok (.aload_n 2, 1) := by decide +kernel
theorem dJ3_checkIndex_8e157_10 : decode mJ3_checkIndex_8e157.2.1 10 = .ok (.iload_n 0, 1) := by decide +kernel
theorem dJ3_checkIndex_8e157_11 : decode mJ3_checkIndex_8e157.2.1 11 = .ok (.iload_n 1, 1) := by decide +kernel
theorem dJ3_checkIndex_8e157_12 : decode mJ3_checkIndex_8e157.2.1 12 = .ok (.invokestatic 95, 3) := by decide +kernel
theorem dJ3_checkIndex_8e157_15 : decode mJ3_checkIndex_8e157.2.1 15 = .ok (.athrow, 1) := by decide +kernel
theorem dJ3_checkIndex_8e157_16 : decode mJ3_checkIndex_8e157.2.1 16 = .ok (.iload_n 0, 1) := by decide +kernel
theorem dJ3_checkIndex_8e157_17 : decode mJ3_checkIndex_8e157.2.1 17 = .ok (.ireturn, 1) := by decide +kernel
abbrev mJ6_bitCount_0f7a4 : gz_M := (yJ6_bitCount_0f7a4, cJ6_bitCount_0f7a4, 1, some .int)
theorem dJ6_bitCount_0f7a4_0 : decode mJ6_bitCount_0f7a4.2.1 0 = .ok (.iload_n 0, 1) := by decide +kernel
theorem dJ6_bitCount_0f7a4_1 : decode mJ6_bitCount_0f7a4.2.1 1 = .ok (.iload_n 0, 1) := by decide +kernel
theorem dJ6_bitCount_0f7a4_2 : decode mJ6_bitCount_0f7a4.2.1 2 = .ok (.iconst 1, 1) := by decide +kernel
theorem dJ6_bitCount_0f7a4_3 : decode mJ6_bitCount_0f7a4.2.1 3 = .ok (.iushr, 1) := by decide +kernel
theorem dJ6_bitCount_0f7a4_4 : decode mJ6_bitCount_0f7a4.2.1 4 = .ok (.ldc_w 265, 3) := by decide +kernel
theorem dJ6_bitCount_0f7a4_7 : decode mJ6_bitCount_0f7a4.2.1 7 = .ok (.iand, 1) := by decide +kernel
theorem dJ6_bitCount_0f7a4_8 : decode mJ6_bitCount_0f7a4.2.1 8 = .ok (.isub, 1) := by decide +kernel
theorem dJ6_bitCount_0f7a4_9 : decode mJ6_bitCount_0f7a4.2.1 9 = .ok (.istore_n 0, 1) := by decide +kernel
theorem dJ6_bitCount_0f7a4_10 : decode mJ6_bitCount_0f7a4.2.1 10 = .ok (.iload_n 0, 1) := by decide +kernel
theorem dJ6_bitCount_0f7a4_11 : decode mJ6_bitCount_0f7a4.2.1 11 = .ok (.ldc_w 266, 3) := by decide +kernel
theorem dJ6_bitCount_0f7a4_14 : decode mJ6_bitCount_0f7a4.2.1 14 = .ok (.iand, 1) := by decide +kernel
theorem dJ6_bitCount_0f7a4_15 : decode mJ6_bitCount_0f7a4.2.1 15 = .ok (.iload_n 0, 1) := by decide +kernel
theorem dJ6_bitCount_0f7a4_16 : decode mJ6_bitCount_0f7a4.2.1 16 = .ok (.iconst 2, 1) := by decide +kernel
theorem dJ6_bitCount_0f7a4_17 : decode mJ6_bitCount_0f7a4.2.1 17 = .ok (.iushr, 1) := by decide +kernel
theorem dJ6_bitCount_0f7a4_18 : decode mJ6_bitCount_0f7a4.2.1 18 = .ok (.ldc_w 266, 3) := by decide +kernel
theorem dJ6_bitCount_0f7a4_21 : decode mJ6_bitCount_0f7a4.2.1 21 = .ok (.iand, 1) := by decide +kernel
theorem dJ6_bitCount_0f7a4_22 : decode mJ6_bitCount_0f7a4.2.1 22 = .ok (.iadd, 1) := by decide +kernel
theorem dJ6_bitCount_0f7a4_23 : decode mJ6_bitCount_0f7a4.2.1 23 = .ok (.istore_n 0, 1) := by decide +kernel
theorem dJ6_bitCount_0f7a4_24 : decode mJ6_bitCount_0f7a4.2.1 24 = .ok (.iload_n 0, 1) := by decide +kernel
theorem dJ6_bitCount_0f7a4_25 : decode mJ6_bitCount_0f7a4.2.1 25 = .ok (.iload_n 0, 1) := by decide +kernel
theorem dJ6_bitCount_0f7a4_26 : decode mJ6_bitCount_0f7a4.2.1 26 = .ok (.iconst 4, 1) := by decide +kernel
theorem dJ6_bitCount_0f7a4_27 : decode mJ6_bitCount_0f7a4.2.1 27 = .ok (.iushr, 1) := by decide +kernel
theorem dJ6_bitCount_0f7a4_28 : decode mJ6_bitCount_0f7a4.2.1 28 = .ok (.iadd, 1) := by decide +kernel
theorem dJ6_bitCount_0f7a4_29 : decode mJ6_bitCount_0f7a4.2.1 29 = .ok (.ldc_w 267, 3) := by decide +kernel
theorem dJ6_bitCount_0f7a4_32 : decode mJ6_bitCount_0f7a4.2.1 32 = .ok (.iand, 1) := by decide +kernel
theorem dJ6_bitCount_0f7a4_33 : decode mJ6_bitCount_0f7a4.2.1 33 = .ok (.istore_n 0, 1) := by decide +kernel
theorem dJ6_bitCount_0f7a4_34 : decode mJ6_bitCount_0f7a4.2.1 34 = .ok (.iload_n 0, 1) := by decide +kernel
theorem dJ6_bitCount_0f7a4_35 : decode mJ6_bitCount_0f7a4.2.1 35 = .ok (.iload_n 0, 1) := by decide +kernel
theorem dJ6_bitCount_0f7a4_36 : decode mJ6_bitCount_0f7a4.2.1 36 = .ok (.bipush 8, 2) := by decide +kernel
theorem dJ6_bitCount_0f7a4_38 : decode mJ6_bitCount_0f7a4.2.1 38 = .ok (.iushr, 1) := by decide +kernel
theorem dJ6_bitCount_0f7a4_39 : decode mJ6_bitCount_0f7a4.2.1 39 = .ok (.iadd, 1) := by decide +kernel
theorem dJ6_bitCount_0f7a4_40 : decode mJ6_bitCount_0f7a4.2.1 40 = .ok (.istore_n 0, 1) := by decide +kernel
theorem dJ6_bitCount_0f7a4_41 : decode mJ6_bitCount_0f7a4.2.1 41 = .ok (.iload_n 0, 1) := by decide +kernel
theorem dJ6_bitCount_0f7a4_42 : decode mJ6_bitCount_0f7a4.2.1 42 = .ok (.iload_n 0, 1) := by decide +kernel
theorem dJ6_bitCount_0f7a4_43 : decode mJ6_bitCount_0f7a4.2.1 43 = .ok (.bipush 16, 2) := by decide +kernel
theorem dJ6_bitCount_0f7a4_45 : decode mJ6_bitCount_0f7a4.2.1 45 = .ok (.iushr, 1) := by decide +kernel
theorem dJ6_bitCount_0f7a4_46 : decode mJ6_bitCount_0f7a4.2.1 46 = .ok (.iadd, 1) := by decide +kernel
theorem dJ6_bitCount_0f7a4_47 : decode mJ6_bitCount_0f7a4.2.1 47 = .ok (.istore_n 0, 1) := by decide +kernel
theorem dJ6_bitCount_0f7a4_48 : decode mJ6_bitCount_0f7a4.2.1 48 = .ok (.iload_n 0, 1) := by decide +kernel
theorem dJ6_bitCount_0f7a4_49 : decode mJ6_bitCount_0f7a4.2.1 49 = .ok (.bipush 63, 2) := by decide +kernel
theorem dJ6_bitCount_0f7a4_51 : decode mJ6_bitCount_0f7a4.2.1 51 = .ok (.iand, 1) := by decide +kernel
theorem dJ6_bitCount_0f7a4_52 : decode mJ6_bitCount_0f7a4.2.1 52 = .ok (.ireturn, 1) := by decide +kernel
abbrev mJ7_fill_53178 : gz_M := (yJ7_fill_53178, cJ7_fill_53178, 4, none)
theorem dJ7_fill_53178_0 : decode mJ7_fill_53178.2.1 0 = .ok (.iconst 0, 1) := by decide +kernel
theorem dJ7_fill_53178_1 : decode mJ7_fill_53178.2.1 1 = .ok (.istore_n 2, 1) := by decide +kernel
theorem dJ7_fill_53178_2 : decode mJ7_fill_53178.2.1 2 = .ok (.aload_n 0, 1) := by decide +kernel
theorem dJ7_fill_53178_3 : decode mJ7_fill_53178.2.1 3 = .ok (.arraylength, 1) := by decide +kernel
theorem dJ7_fill_53178_4 : decode mJ7_fill_53178.2.1 4 = .ok (.istore_n 3, 1) := by decide +kernel
theorem dJ7_fill_53178_5 : decode mJ7_fill_53178.2.1 5 = .ok (.iload_n 2, 1) := by decide +kernel
theorem dJ7_fill_53178_6 : decode mJ7_fill_53178.2.1 6 = .ok (.iload_n 3, 1) := by decide +kernel
theorem dJ7_fill_53178_7 : decode mJ7_fill_53178.2.1 7 = .ok (.if_icmp .ge 13, 3) := by decide +kernel
theorem dJ7_fill_53178_10 : decode mJ7_fill_53178.2.1 10 = .ok (.aload_n 0, 1) := by decide +kernel
theorem dJ7_fill_53178_11 : decode mJ7_fill_53178.2.1 11 = .ok (.iload_n 2, 1) := by decide +kernel
theorem dJ7_fill_53178_12 : decode mJ7_fill_53178.2.1 12 = .ok (.iload_n 1, 1) := by decide +kernel
theorem dJ7_fill_53178_13 : decode mJ7_fill_53178.2.1 13 = .ok (.iastore, 1) := by decide +kernel
theorem dJ7_fill_53178_14 : decode mJ7_fill_53178.2.1 14 = .ok (.iinc 2 1, 3) := by decide +kernel
theorem dJ7_fill_53178_17 : decode mJ7_fill_53178.2.1 17 = .ok (.goto (-12), 3) := by decide +kernel
theorem dJ7_fill_53178_20 : decode mJ7_fill_53178.2.1 20 = .ok (.return_, 1) := by decide +kernel
abbrev mJ9_floorMod_7cf53 : gz_M := (yJ9_floorMod_7cf53, cJ9_floorMod_7cf53, 3, some .int)
theorem dJ9_floorMod_7cf53_0 : decode mJ9_floorMod_7cf53.2.1 0 = .ok (.iload_n 0, 1) := by decide +kernel
theorem dJ9_floorMod_7cf53_1 : decode mJ9_floorMod_7cf53.2.1 1 = .ok (.iload_n 1, 1) := by decide +kernel
theorem dJ9_floorMod_7cf53_2 : decode mJ9_floorMod_7cf53.2.1 2 = .ok (.irem, 1) := by decide +kernel
theorem dJ9_floorMod_7cf53_3 : decode mJ9_floorMod_7cf53.2.1 3 = .ok (.istore_n 2, 1) := by decide +kernel
theorem dJ9_floorMod_7cf53_4 : decode mJ9_floorMod_7cf53.2.1 4 = .ok (.iload_n 0, 1) := by decide +kernel
theorem dJ9_floorMod_7cf53_5 : decode mJ9_floorMod_7cf53.2.1 5 = .ok (.iload_n 1, 1) := by decide +kernel
theorem dJ9_floorMod_7cf53_6 : decode mJ9_floorMod_7cf53.2.1 6 = .ok (.ixor, 1) := by decide +kernel
theorem dJ9_floorMod_7cf53_7 : decode mJ9_floorMod_7cf53.2.1 7 = .ok (.ifCond .ge 11, 3) := by decide +kernel
theorem dJ9_floorMod_7cf53_10 : decode mJ9_floorMod_7cf53.2.1 10 = .ok (.iload_n 2, 1) := by decide +kernel
theorem dJ9_floorMod_7cf53_11 : decode mJ9_floorMod_7cf53.2.1 11 = .ok (.ifCond .eq 7, 3) := by decide +kernel
theorem dJ9_floorMod_7cf53_14 : decode mJ9_floorMod_7cf53.2.1 14 = .ok (.iload_n 2, 1) := by decide +kernel
theorem dJ9_floorMod_7cf53_15 : decode mJ9_floorMod_7cf53.2.1 15 = .ok (.iload_n 1, 1) := by decide +kernel
theorem dJ9_floorMod_7cf53_16 : decode mJ9_floorMod_7cf53.2.1 16 = .ok (.iadd, 1) := by decide +kernel
theorem dJ9_floorMod_7cf53_17 : decode mJ9_floorMod_7cf53.2.1 17 = .ok (.ireturn, 1) := by decide +kernel
theorem dJ9_floorMod_7cf53_18 : decode mJ9_floorMod_7cf53.2.1 18 = .ok (.iload_n 2, 1) := by decide +kernel
theorem dJ9_floorMod_7cf53_19 : decode mJ9_floorMod_7cf53.2.1 19 = .ok (.ireturn, 1) := by decide +kernel
abbrev mJ9_max_7cf53 : gz_M := (yJ9_max_7cf53, cJ9_max_7cf53, 2, some .int)
theorem dJ9_max_7cf53_0 : decode mJ9_max_7cf53.2.1 0 = .ok (.iload_n 0, 1) := by decide +kernel
theorem dJ9_max_7cf53_1 : decode mJ9_max_7cf53.2.1 1 = .ok (.iload_n 1, 1) := by decide +kernel
theorem dJ9_max_7cf53_2 : decode mJ9_max_7cf53.2.1 2 = .ok (.if_icmp .lt 7, 3) := by decide +kernel
theorem dJ9_max_7cf53_5 : decode mJ9_max_7cf53.2.1 5 = .ok (.iload_n 0, 1) := by decide +kernel
theorem dJ9_max_7cf53_6 : decode mJ9_max_7cf53.2.1 6 = .ok (.goto 4, 3) := by decide +kernel
theorem dJ9_max_7cf53_9 : decode mJ9_max_7cf53.2.1 9 = .ok (.iload_n 1, 1) := by decide +kernel
theorem dJ9_max_7cf53_10 : decode mJ9_max_7cf53.2.1 10 = .ok (.ireturn, 1) := by decide +kernel
abbrev mJ9_max_f86c9 : gz_M := (yJ9_max_f86c9, cJ9_max_f86c9, 4, some .long)
theorem dJ9_max_f86c9_0 : decode mJ9_max_f86c9.2.1 0 = .ok (.lload_n 0, 1) := by decide +kernel
theorem dJ9_max_f86c9_1 : decode mJ9_max_f86c9.2.1 1 = .ok (.lload_n 2, 1) := by decide +kernel
theorem dJ9_max_f86c9_2 : decode mJ9_max_f86c9.2.1 2 = .ok (.lcmp, 1) := by decide +kernel
theorem dJ9_max_f86c9_3 : decode mJ9_max_f86c9.2.1 3 = .ok (.ifCond .lt 7, 3) := by decide +kernel
theorem dJ9_max_f86c9_6 : decode mJ9_max_f86c9.2.1 6 = .ok (.lload_n 0, 1) := by decide +kernel
theorem dJ9_max_f86c9_7 : decode mJ9_max_f86c9.2.1 7 = .ok (.goto 4, 3) := by decide +kernel
theorem dJ9_max_f86c9_10 : decode mJ9_max_f86c9.2.1 10 = .ok (.lload_n 2, 1) := by decide +kernel
theorem dJ9_max_f86c9_11 : decode mJ9_max_f86c9.2.1 11 = .ok (.lreturn, 1) := by decide +kernel
abbrev mJ9_min_7cf53 : gz_M := (yJ9_min_7cf53, cJ9_min_7cf53, 2, some .int)
theorem dJ9_min_7cf53_0 : decode mJ9_min_7cf53.2.1 0 = .ok (.iload_n 0, 1) := by decide +kernel
theorem dJ9_min_7cf53_1 : decode mJ9_min_7cf53.2.1 1 = .ok (.iload_n 1, 1) := by decide +kernel
theorem dJ9_min_7cf53_2 : decode mJ9_min_7cf53.2.1 2 = .ok (.if_icmp .gt 7, 3) := by decide +kernel
theorem dJ9_min_7cf53_5 : decode mJ9_min_7cf53.2.1 5 = .ok (.iload_n 0, 1) := by decide +kernel
theorem dJ9_min_7cf53_6 : decode mJ9_min_7cf53.2.1 6 = .ok (.goto 4, 3) := by decide +kernel
theorem dJ9_min_7cf53_9 : decode mJ9_min_7cf53.2.1 9 = .ok (.iload_n 1, 1) := by decide +kernel
theorem dJ9_min_7cf53_10 : decode mJ9_min_7cf53.2.1 10 = .ok (.ireturn, 1) := by decide +kernel
abbrev mJ9_min_f86c9 : gz_M := (yJ9_min_f86c9, cJ9_min_f86c9, 4, some .long)
theorem dJ9_min_f86c9_0 : decode mJ9_min_f86c9.2.1 0 = .ok (.lload_n 0, 1) := by decide +kernel
theorem dJ9_min_f86c9_1 : decode mJ9_min_f86c9.2.1 1 = .ok (.lload_n 2, 1) := by decide +kernel
theorem dJ9_min_f86c9_2 : decode mJ9_min_f86c9.2.1 2 = .ok (.lcmp, 1) := by decide +kernel
theorem dJ9_min_f86c9_3 : decode mJ9_min_f86c9.2.1 3 = .ok (.ifCond .gt 7, 3) := by decide +kernel
theorem dJ9_min_f86c9_6 : decode mJ9_min_f86c9.2.1 6 = .ok (.lload_n 0, 1) := by decide +kernel
theorem dJ9_min_f86c9_7 : decode mJ9_min_f86c9.2.1 7 = .ok (.goto 4, 3) := by decide +kernel
theorem dJ9_min_f86c9_10 : decode mJ9_min_f86c9.2.1 10 = .ok (.lload_n 2, 1) := by decide +kernel
theorem dJ9_min_f86c9_11 : decode mJ9_min_f86c9.2.1 11 = .ok (.lreturn, 1) := by decide +kernel
abbrev mX0_doByHand : gz_M := (yX0_doByHand, cX0_doByHand, 3, none)
theorem dX0_doByHand_0 : decode mX0_doByHand.2.1 0 = .ok (.aload_n 0, 1) := by decide +kernel
theorem dX0_doByHand_1 : decode mX0_doByHand.2.1 1 = .ok (.iload_n 1, 1) := by decide +kernel
theorem dX0_doByHand_2 : decode mX0_doByHand.2.1 2 = .ok (.iconst 0, 1) := by decide +kernel
theorem dX0_doByHand_3 : decode mX0_doByHand.2.1 3 = .ok (.invokevirtual 17, 3) := by decide +kernel
theorem dX0_doByHand_6 : decode mX0_doByHand.2.1 6 = .ok (.tableswitch 75 1 3 #[26, 45, 61], 26) := by decide +kernel
theorem dX0_doByHand_32 : decode mX0_doByHand.2.1 32 = .ok (.aload_n 2, 1) := by decide +kernel
theorem dX0_doByHand_33 : decode mX0_doByHand.2.1 33 = .ok (.aload_n 0, 1) := by decide +kernel
theorem dX0_doByHand_34 : decode mX0_doByHand.2.1 34 = .ok (.iload_n 1, 1) := by decide +kernel
theorem dX0_doByHand_35 : decode mX0_doByHand.2.1 35 = .ok (.iconst 1, 1) := by decide +kernel
theorem dX0_doByHand_36 : decode mX0_doByHand.2.1 36 = .ok (.invokevirtual 17, 3) := by decide +kernel
theorem dX0_doByHand_39 : decode mX0_doByHand.2.1 39 = .ok (.aload_n 0, 1) := by decide +kernel
theorem dX0_doByHand_40 : decode mX0_doByHand.2.1 40 = .ok (.iload_n 1, 1) := by decide +kernel
theorem dX0_doByHand_41 : decode mX0_doByHand.2.1 41 = .ok (.iconst 2, 1) := by decide +kernel
theorem dX0_doByHand_42 : decode mX0_doByHand.2.1 42 = .ok (.invokevirtual 17, 3) := by decide +kernel
theorem dX0_doByHand_45 : decode mX0_doByHand.2.1 45 = .ok (.invokevirtual 38, 3) := by decide +kernel
theorem dX0_doByHand_48 : decode mX0_doByHand.2.1 48 = .ok (.goto 33, 3) := by decide +kernel
theorem dX0_doByHand_51 : decode mX0_doByHand.2.1 51 = .ok (.aload_n 2, 1) := by decide +kernel
theorem dX0_doByHand_52 : decode mX0_doByHand.2.1 52 = .ok (.getfield 42, 3) := by decide +kernel
theorem dX0_doByHand_55 : decode mX0_doByHand.2.1 55 = .ok (.bipush 46, 2) := by decide +kernel
theorem dX0_doByHand_57 : decode mX0_doByHand.2.1 57 = .ok (.aload_n 0, 1) := by decide +kernel
theorem dX0_doByHand_58 : decode mX0_doByHand.2.1 58 = .ok (.iload_n 1, 1) := by decide +kernel
theorem dX0_doByHand_59 : decode mX0_doByHand.2.1 59 = .ok (.iconst 1, 1) := by decide +kernel
theorem dX0_doByHand_60 : decode mX0_doByHand.2.1 60 = .ok (.invokevirtual 17, 3) := by decide +kernel
theorem dX0_doByHand_63 : decode mX0_doByHand.2.1 63 = .ok (.iastore, 1) := by decide +kernel
theorem dX0_doByHand_64 : decode mX0_doByHand.2.1 64 = .ok (.goto 17, 3) := by decide +kernel
theorem dX0_doByHand_67 : decode mX0_doByHand.2.1 67 = .ok (.aload_n 2, 1) := by decide +kernel
theorem dX0_doByHand_68 : decode mX0_doByHand.2.1 68 = .ok (.aload_n 0, 1) := by decide +kernel
theorem dX0_doByHand_69 : decode mX0_doByHand.2.1 69 = .ok (.iload_n 1, 1) := by decide +kernel
theorem dX0_doByHand_70 : decode mX0_doByHand.2.1 70 = .ok (.iconst 1, 1) := by decide +kernel
theorem dX0_doByHand_71 : decode mX0_doByHand.2.1 71 = .ok (.invokevirtual 17, 3) := by decide +kernel
theorem dX0_doByHand_74 : decode mX0_doByHand.2.1 74 = .ok (.invokevirtual 45, 3) := by decide +kernel
theorem dX0_doByHand_77 : decode mX0_doByHand.2.1 77 = .ok (.pop, 1) := by decide +kernel
theorem dX0_doByHand_78 : decode mX0_doByHand.2.1 78 = .ok (.goto 3, 3) := by decide +kernel
theorem dX0_doByHand_81 : decode mX0_doByHand.2.1 81 = .ok (.return_, 1) := by decide +kernel
abbrev mX0_isHour : gz_M := (yX0_isHour, cX0_isHour, 2, some .boolean)
theorem dX0_isHour_0 : decode mX0_isHour.2.1 0 = .ok (.aload_n 0, 1) := by decide +kernel
theorem dX0_isHour_1 : decode mX0_isHour.2.1 1 = .ok (.iload_n 1, 1) := by decide +kernel
theorem dX0_isHour_2 : decode mX0_isHour.2.1 2 = .ok (.iconst 0, 1) := by decide +kernel
theorem dX0_isHour_3 : decode mX0_isHour.2.1 3 = .ok (.invokevirtual 17, 3) := by decide +kernel
theorem dX0_isHour_6 : decode mX0_isHour.2.1 6 = .ok (.ifCond .ne 7, 3) := by decide +kernel
theorem dX0_isHour_9 : decode mX0_isHour.2.1 9 = .ok (.iconst 1, 1) := by decide +kernel
theorem dX0_isHour_10 : decode mX0_isHour.2.1 10 = .ok (.goto 4, 3) := by decide +kernel
theorem dX0_isHour_13 : decode mX0_isHour.2.1 13 = .ok (.iconst 0, 1) := by decide +kernel
theorem dX0_isHour_14 : decode mX0_isHour.2.1 14 = .ok (.ireturn, 1) := by decide +kernel
abbrev mX0_mayBe : gz_M := (yX0_mayBe, cX0_mayBe, 3, some .boolean)
theorem dX0_mayBe_0 : decode mX0_mayBe.2.1 0 = .ok (.aload_n 0, 1) := by decide +kernel
theorem dX0_mayBe_1 : decode mX0_mayBe.2.1 1 = .ok (.iload_n 1, 1) := by decide +kernel
theorem dX0_mayBe_2 : decode mX0_mayBe.2.1 2 = .ok (.iconst 0, 1) := by decide +kernel
theorem dX0_mayBe_3 : decode mX0_mayBe.2.1 3 = .ok (.invokevirtual 17, 3) := by decide +kernel
theorem dX0_mayBe_6 : decode mX0_mayBe.2.1 6 = .ok (.tableswitch 59 0 2 #[26, 31, 48], 26) := by decide +kernel
theorem dX0_mayBe_32 : decode mX0_mayBe.2.1 32 = .ok (.aload_n 2, 1) := by decide +kernel
theorem dX0_mayBe_33 : decode mX0_mayBe.2.1 33 = .ok (.invokevirtual 21, 3) := by decide +kernel
theorem dX0_mayBe_36 : decode mX0_mayBe.2.1 36 = .ok (.ireturn, 1) := by decide +kernel
theorem dX0_mayBe_37 : decode mX0_mayBe.2.1 37 = .ok (.aload_n 2, 1) := by decide +kernel
theorem dX0_mayBe_38 : decode mX0_mayBe.2.1 38 = .ok (.aload_n 0, 1) := by decide +kernel
theorem dX0_mayBe_39 : decode mX0_mayBe.2.1 39 = .ok (.iload_n 1, 1) := by decide +kernel
theorem dX0_mayBe_40 : decode mX0_mayBe.2.1 40 = .ok (.iconst 1, 1) := by decide +kernel
theorem dX0_mayBe_41 : decode mX0_mayBe.2.1 41 = .ok (.invokevirtual 17, 3) := by decide +kernel
theorem dX0_mayBe_44 : decode mX0_mayBe.2.1 44 = .ok (.aload_n 0, 1) := by decide +kernel
theorem dX0_mayBe_45 : decode mX0_mayBe.2.1 45 = .ok (.iload_n 1, 1) := by decide +kernel
theorem dX0_mayBe_46 : decode mX0_mayBe.2.1 46 = .ok (.iconst 2, 1) := by decide +kernel
theorem dX0_mayBe_47 : decode mX0_mayBe.2.1 47 = .ok (.invokevirtual 17, 3) := by decide +kernel
theorem dX0_mayBe_50 : decode mX0_mayBe.2.1 50 = .ok (.invokevirtual 27, 3) := by decide +kernel
theorem dX0_mayBe_53 : decode mX0_mayBe.2.1 53 = .ok (.ireturn, 1) := by decide +kernel
theorem dX0_mayBe_54 : decode mX0_mayBe.2.1 54 = .ok (.aload_n 2, 1) := by decide +kernel
theorem dX0_mayBe_55 : decode mX0_mayBe.2.1 55 = .ok (.aload_n 0, 1) := by decide +kernel
theorem dX0_mayBe_56 : decode mX0_mayBe.2.1 56 = .ok (.iload_n 1, 1) := by decide +kernel
theorem dX0_mayBe_57 : decode mX0_mayBe.2.1 57 = .ok (.iconst 1, 1) := by decide +kernel
theorem dX0_mayBe_58 : decode mX0_mayBe.2.1 58 = .ok (.invokevirtual 17, 3) := by decide +kernel
theorem dX0_mayBe_61 : decode mX0_mayBe.2.1 61 = .ok (.invokevirtual 31, 3) := by decide +kernel
theorem dX0_mayBe_64 : decode mX0_mayBe.2.1 64 = .ok (.ireturn, 1) := by decide +kernel
theorem dX0_mayBe_65 : decode mX0_mayBe.2.1 65 = .ok (.aload_n 2, 1) := by decide +kernel
theorem dX0_mayBe_66 : decode mX0_mayBe.2.1 66 = .ok (.aload_n 0, 1) := by decide +kernel
theorem dX0_mayBe_67 : decode mX0_mayBe.2.1 67 = .ok (.iload_n 1, 1) := by decide +kernel
theorem dX0_mayBe_68 : decode mX0_mayBe.2.1 68 = .ok (.iconst 1, 1) := by decide +kernel
theorem dX0_mayBe_69 : decode mX0_mayBe.2.1 69 = .ok (.invokevirtual 17, 3) := by decide +kernel
theorem dX0_mayBe_72 : decode mX0_mayBe.2.1 72 = .ok (.invokevirtual 35, 3) := by decide +kernel
theorem dX0_mayBe_75 : decode mX0_mayBe.2.1 75 = .ok (.ireturn, 1) := by decide +kernel
abbrev mX0_part : gz_M := (yX0_part, cX0_part, 3, some .int)
theorem dX0_part_0 : decode mX0_part.2.1 0 = .ok (.aload_n 0, 1) := by decide +kernel
theorem dX0_part_1 : decode mX0_part.2.1 1 = .ok (.getfield 7, 3) := by decide +kernel
theorem dX0_part_4 : decode mX0_part.2.1 4 = .ok (.iload_n 1, 1) := by decide +kernel
theorem dX0_part_5 : decode mX0_part.2.1 5 = .ok (.iconst 3, 1) := by decide +kernel
theorem dX0_part_6 : decode mX0_part.2.1 6 = .ok (.imul, 1) := by decide +kernel
theorem dX0_part_7 : decode mX0_part.2.1 7 = .ok (.iload_n 2, 1) := by decide +kernel
theorem dX0_part_8 : decode mX0_part.2.1 8 = .ok (.iadd, 1) := by decide +kernel
theorem dX0_part_9 : decode mX0_part.2.1 9 = .ok (.iaload, 1) := by decide +kernel
theorem dX0_part_10 : decode mX0_part.2.1 10 = .ok (.ireturn, 1) := by decide +kernel
abbrev mX3_joined : gz_M := (yX3_joined, cX3_joined, 5, some .int)
theorem dX3_joined_0 : decode mX3_joined.2.1 0 = .ok (.iload_n 0, 1) := by decide +kernel
theorem dX3_joined_1 : decode mX3_joined.2.1 1 = .ok (.tableswitch 140 (-18) (-11) #[132, 118, 104, 90, 74, 65, 56, 47], 47) := by decide +kernel
theorem dX3_joined_48 : decode mX3_joined.2.1 48 = .ok (.iload_n 1, 1) := by decide +kernel
theorem dX3_joined_49 : decode mX3_joined.2.1 49 = .ok (.i2l, 1) := by decide +kernel
theorem dX3_joined_50 : decode mX3_joined.2.1 50 = .ok (.iload_n 2, 1) := by decide +kernel
theorem dX3_joined_51 : decode mX3_joined.2.1 51 = .ok (.i2l, 1) := by decide +kernel
theorem dX3_joined_52 : decode mX3_joined.2.1 52 = .ok (.ladd, 1) := by decide +kernel
theorem dX3_joined_53 : decode mX3_joined.2.1 53 = .ok (.lstore_n 3, 1) := by decide +kernel
theorem dX3_joined_54 : decode mX3_joined.2.1 54 = .ok (.goto 92, 3) := by decide +kernel
theorem dX3_joined_57 : decode mX3_joined.2.1 57 = .ok (.iload_n 1, 1) := by decide +kernel
theorem dX3_joined_58 : decode mX3_joined.2.1 58 = .ok (.i2l, 1) := by decide +kernel
theorem dX3_joined_59 : decode mX3_joined.2.1 59 = .ok (.iload_n 2, 1) := by decide +kernel
theorem dX3_joined_60 : decode mX3_joined.2.1 60 = .ok (.i2l, 1) := by decide +kernel
theorem dX3_joined_61 : decode mX3_joined.2.1 61 = .ok (.lsub, 1) := by decide +kernel
theorem dX3_joined_62 : decode mX3_joined.2.1 62 = .ok (.lstore_n 3, 1) := by decide +kernel
theorem dX3_joined_63 : decode mX3_joined.2.1 63 = .ok (.goto 83, 3) := by decide +kernel
theorem dX3_joined_66 : decode mX3_joined.2.1 66 = .ok (.iload_n 1, 1) := by decide +kernel
theorem dX3_joined_67 : decode mX3_joined.2.1 67 = .ok (.i2l, 1) := by decide +kernel
theorem dX3_joined_68 : decode mX3_joined.2.1 68 = .ok (.iload_n 2, 1) := by decide +kernel
theorem dX3_joined_69 : decode mX3_joined.2.1 69 = .ok (.i2l, 1) := by decide +kernel
theorem dX3_joined_70 : decode mX3_joined.2.1 70 = .ok (.lmul, 1) := by decide +kernel
theorem dX3_joined_71 : decode mX3_joined.2.1 71 = .ok (.lstore_n 3, 1) := by decide +kernel
theorem dX3_joined_72 : decode mX3_joined.2.1 72 = .ok (.goto 74, 3) := by decide +kernel
theorem dX3_joined_75 : decode mX3_joined.2.1 75 = .ok (.iload_n 2, 1) := by decide +kernel
theorem dX3_joined_76 : decode mX3_joined.2.1 76 = .ok (.ifCond .ne 7, 3) := by decide +kernel
theorem dX3_joined_79 : decode mX3_joined.2.1 79 = .ok (.lconst 0, 1) := by decide +kernel
theorem dX3_joined_80 : decode mX3_joined.2.1 80 = .ok (.goto 7, 3) := by decide +kernel
theorem dX3_joined_83 : decode mX3_joined.2.1 83 = .ok (.iload_n 1, 1) := by decide +kernel
theorem dX3_joined_84 : decode mX3_joined.2.1 84 = .ok (.iload_n 2, 1) := by decide +kernel
theorem dX3_joined_85 : decode mX3_joined.2.1 85 = .ok (.idiv, 1) := by decide +kernel
theorem dX3_joined_86 : decode mX3_joined.2.1 86 = .ok (.i2l, 1) := by decide +kernel
theorem dX3_joined_87 : decode mX3_joined.2.1 87 = .ok (.lstore_n 3, 1) := by decide +kernel
theorem dX3_joined_88 : decode mX3_joined.2.1 88 = .ok (.goto 58, 3) := by decide +kernel
theorem dX3_joined_91 : decode mX3_joined.2.1 91 = .ok (.iload_n 1, 1) := by decide +kernel
theorem dX3_joined_92 : decode mX3_joined.2.1 92 = .ok (.iload_n 2, 1) := by decide +kernel
theorem dX3_joined_93 : decode mX3_joined.2.1 93 = .ok (.if_icmp .ne 7, 3) := by decide +kernel
theorem dX3_joined_96 : decode mX3_joined.2.1 96 = .ok (.lconst 1, 1) := by decide +kernel
theorem dX3_joined_97 : decode mX3_joined.2.1 97 = .ok (.goto 4, 3) := by decide +kernel
theorem dX3_joined_100 : decode mX3_joined.2.1 100 = .ok (.lconst 0, 1) := by decide +kernel
theorem dX3_joined_101 : decode mX3_joined.2.1 101 = .ok (.lstore_n 3, 1) := by decide +kernel
theorem dX3_joined_102 : decode mX3_joined.2.1 102 = .ok (.goto 44, 3) := by decide +kernel
theorem dX3_joined_105 : decode mX3_joined.2.1 105 = .ok (.iload_n 1, 1) := by decide +kernel
theorem dX3_joined_106 : decode mX3_joined.2.1 106 = .ok (.iload_n 2, 1) := by decide +kernel
theorem dX3_joined_107 : decode mX3_joined.2.1 107 = .ok (.if_icmp .ge 7, 3) := by decide +kernel
theorem dX3_joined_110 : decode mX3_joined.2.1 110 = .ok (.lconst 1, 1) := by decide +kernel
theorem dX3_joined_111 : decode mX3_joined.2.1 111 = .ok (.goto 4, 3) := by decide +kernel
theorem dX3_joined_114 : decode mX3_joined.2.1 114 = .ok (.lconst 0, 1) := by decide +kernel
theorem dX3_joined_115 : decode mX3_joined.2.1 115 = .ok (.lstore_n 3, 1) := by decide +kernel
theorem dX3_joined_116 : decode mX3_joined.2.1 116 = .ok (.goto 30, 3) := by decide +kernel
theorem dX3_joined_119 : decode mX3_joined.2.1 119 = .ok (.iload_n 1, 1) := by decide +kernel
theorem dX3_joined_120 : decode mX3_joined.2.1 120 = .ok (.iload_n 2, 1) := by decide +kernel
theorem dX3_joined_121 : decode mX3_joined.2.1 121 = .ok (.if_icmp .le 7, 3) := by decide +kernel
theorem dX3_joined_124 : decode mX3_joined.2.1 124 = .ok (.lconst 1, 1) := by decide +kernel
theorem dX3_joined_125 : decode mX3_joined.2.1 125 = .ok (.goto 4, 3) := by decide +kernel
theorem dX3_joined_128 : decode mX3_joined.2.1 128 = .ok (.lconst 0, 1) := by decide +kernel
theorem dX3_joined_129 : decode mX3_joined.2.1 129 = .ok (.lstore_n 3, 1) := by decide +kernel
theorem dX3_joined_130 : decode mX3_joined.2.1 130 = .ok (.goto 16, 3) := by decide +kernel
theorem dX3_joined_133 : decode mX3_joined.2.1 133 = .ok (.iload_n 1, 1) := by decide +kernel
theorem dX3_joined_134 : decode mX3_joined.2.1 134 = .ok (.iload_n 2, 1) := by decide +kernel
theorem dX3_joined_135 : decode mX3_joined.2.1 135 = .ok (.iand, 1) := by decide +kernel
theorem dX3_joined_136 : decode mX3_joined.2.1 136 = .ok (.i2l, 1) := by decide +kernel
theorem dX3_joined_137 : decode mX3_joined.2.1 137 = .ok (.lstore_n 3, 1) := by decide +kernel
theorem dX3_joined_138 : decode mX3_joined.2.1 138 = .ok (.goto 8, 3) := by decide +kernel
theorem dX3_joined_141 : decode mX3_joined.2.1 141 = .ok (.iload_n 1, 1) := by decide +kernel
theorem dX3_joined_142 : decode mX3_joined.2.1 142 = .ok (.iload_n 2, 1) := by decide +kernel
theorem dX3_joined_143 : decode mX3_joined.2.1 143 = .ok (.ior, 1) := by decide +kernel
theorem dX3_joined_144 : decode mX3_joined.2.1 144 = .ok (.i2l, 1) := by decide +kernel
theorem dX3_joined_145 : decode mX3_joined.2.1 145 = .ok (.lstore_n 3, 1) := by decide +kernel
theorem dX3_joined_146 : decode mX3_joined.2.1 146 = .ok (.lload_n 3, 1) := by decide +kernel
theorem dX3_joined_147 : decode mX3_joined.2.1 147 = .ok (.ldc2_w 23, 3) := by decide +kernel
theorem dX3_joined_150 : decode mX3_joined.2.1 150 = .ok (.lcmp, 1) := by decide +kernel
theorem dX3_joined_151 : decode mX3_joined.2.1 151 = .ok (.ifCond .le 6, 3) := by decide +kernel
theorem dX3_joined_154 : decode mX3_joined.2.1 154 = .ok (.ldc 25, 2) := by decide +kernel
theorem dX3_joined_156 : decode mX3_joined.2.1 156 = .ok (.ireturn, 1) := by decide +kernel
theorem dX3_joined_157 : decode mX3_joined.2.1 157 = .ok (.lload_n 3, 1) := by decide +kernel
theorem dX3_joined_158 : decode mX3_joined.2.1 158 = .ok (.ldc2_w 26, 3) := by decide +kernel
theorem dX3_joined_161 : decode mX3_joined.2.1 161 = .ok (.lcmp, 1) := by decide +kernel
theorem dX3_joined_162 : decode mX3_joined.2.1 162 = .ok (.ifCond .ge 8, 3) := by decide +kernel
theorem dX3_joined_165 : decode mX3_joined.2.1 165 = .ok (.ldc 28, 2) := by decide +kernel
theorem dX3_joined_167 : decode mX3_joined.2.1 167 = .ok (.goto 5, 3) := by decide +kernel
theorem dX3_joined_170 : decode mX3_joined.2.1 170 = .ok (.lload_n 3, 1) := by decide +kernel
theorem dX3_joined_171 : decode mX3_joined.2.1 171 = .ok (.l2i, 1) := by decide +kernel
theorem dX3_joined_172 : decode mX3_joined.2.1 172 = .ok (.ireturn, 1) := by decide +kernel
abbrev mX3_letterOf : gz_M := (yX3_letterOf, cX3_letterOf, 2, some .int)
theorem dX3_letterOf_0 : decode mX3_letterOf.2.1 0 = .ok (.iconst 0, 1) := by decide +kernel
theorem dX3_letterOf_1 : decode mX3_letterOf.2.1 1 = .ok (.istore_n 1, 1) := by decide +kernel
theorem dX3_letterOf_2 : decode mX3_letterOf.2.1 2 = .ok (.iload_n 1, 1) := by decide +kernel
theorem dX3_letterOf_3 : decode mX3_letterOf.2.1 3 = .ok (.bipush 6, 2) := by decide +kernel
theorem dX3_letterOf_5 : decode mX3_letterOf.2.1 5 = .ok (.if_icmp .ge 20, 3) := by decide +kernel
theorem dX3_letterOf_8 : decode mX3_letterOf.2.1 8 = .ok (.getstatic 15, 3) := by decide +kernel
theorem dX3_letterOf_11 : decode mX3_letterOf.2.1 11 = .ok (.iload_n 1, 1) := by decide +kernel
theorem dX3_letterOf_12 : decode mX3_letterOf.2.1 12 = .ok (.caload, 1) := by decide +kernel
theorem dX3_letterOf_13 : decode mX3_letterOf.2.1 13 = .ok (.iload_n 0, 1) := by decide +kernel
theorem dX3_letterOf_14 : decode mX3_letterOf.2.1 14 = .ok (.if_icmp .ne 5, 3) := by decide +kernel
theorem dX3_letterOf_17 : decode mX3_letterOf.2.1 17 = .ok (.iload_n 1, 1) := by decide +kernel
theorem dX3_letterOf_18 : decode mX3_letterOf.2.1 18 = .ok (.ireturn, 1) := by decide +kernel
theorem dX3_letterOf_19 : decode mX3_letterOf.2.1 19 = .ok (.iinc 1 1, 3) := by decide +kernel
theorem dX3_letterOf_22 : decode mX3_letterOf.2.1 22 = .ok (.goto (-20), 3) := by decide +kernel
theorem dX3_letterOf_25 : decode mX3_letterOf.2.1 25 = .ok (.iconst (-1), 1) := by decide +kernel
theorem dX3_letterOf_26 : decode mX3_letterOf.2.1 26 = .ok (.ireturn, 1) := by decide +kernel
abbrev mX3_worth : gz_M := (yX3_worth, cX3_worth, 7, some .int)
theorem dX3_worth_0 : decode mX3_worth.2.1 0 = .ok (.iconst 0, 1) := by decide +kernel
theorem dX3_worth_1 : decode mX3_worth.2.1 1 = .ok (.istore_n 3, 1) := by decide +kernel
theorem dX3_worth_2 : decode mX3_worth.2.1 2 = .ok (.iconst 0, 1) := by decide +kernel
theorem dX3_worth_3 : decode mX3_worth.2.1 3 = .ok (.istore 4, 2) := by decide +kernel
theorem dX3_worth_5 : decode mX3_worth.2.1 5 = .ok (.iconst 0, 1) := by decide +kernel
theorem dX3_worth_6 : decode mX3_worth.2.1 6 = .ok (.istore 5, 2) := by decide +kernel
theorem dX3_worth_8 : decode mX3_worth.2.1 8 = .ok (.iload 5, 2) := by decide +kernel
theorem dX3_worth_10 : decode mX3_worth.2.1 10 = .ok (.aload_n 0, 1) := by decide +kernel
theorem dX3_worth_11 : decode mX3_worth.2.1 11 = .ok (.getfield 9, 3) := by decide +kernel
theorem dX3_worth_14 : decode mX3_worth.2.1 14 = .ok (.arraylength, 1) := by decide +kernel
theorem dX3_worth_15 : decode mX3_worth.2.1 15 = .ok (.if_icmp .ge 176, 3) := by decide +kernel
theorem dX3_worth_18 : decode mX3_worth.2.1 18 = .ok (.aload_n 0, 1) := by decide +kernel
theorem dX3_worth_19 : decode mX3_worth.2.1 19 = .ok (.getfield 9, 3) := by decide +kernel
theorem dX3_worth_22 : decode mX3_worth.2.1 22 = .ok (.iload 5, 2) := by decide +kernel
theorem dX3_worth_24 : decode mX3_worth.2.1 24 = .ok (.iaload, 1) := by decide +kernel
theorem dX3_worth_25 : decode mX3_worth.2.1 25 = .ok (.istore 6, 2) := by decide +kernel
theorem dX3_worth_27 : decode mX3_worth.2.1 27 = .ok (.iload 4, 2) := by decide +kernel
theorem dX3_worth_29 : decode mX3_worth.2.1 29 = .ok (.ifCond .eq 20, 3) := by decide +kernel
theorem dX3_worth_32 : decode mX3_worth.2.1 32 = .ok (.iload 6, 2) := by decide +kernel
theorem dX3_worth_34 : decode mX3_worth.2.1 34 = .ok (.bipush (-22), 2) := by decide +kernel
theorem dX3_worth_36 : decode mX3_worth.2.1 36 = .ok (.if_icmp .eq 7, 3) := by decide +kernel
theorem dX3_worth_39 : decode mX3_worth.2.1 39 = .ok (.iconst 1, 1) := by decide +kernel
theorem dX3_worth_40 : decode mX3_worth.2.1 40 = .ok (.goto 4, 3) := by decide +kernel
theorem dX3_worth_43 : decode mX3_worth.2.1 43 = .ok (.iconst 0, 1) := by decide +kernel
theorem dX3_worth_44 : decode mX3_worth.2.1 44 = .ok (.istore 4, 2) := by decide +kernel
theorem dX3_worth_46 : decode mX3_worth.2.1 46 = .ok (.goto 139, 3) := by decide +kernel
theorem dX3_worth_49 : decode mX3_worth.2.1 49 = .ok (.iload 6, 2) := by decide +kernel
theorem dX3_worth_51 : decode mX3_worth.2.1 51 = .ok (.bipush (-7), 2) := by decide +kernel
theorem dX3_worth_53 : decode mX3_worth.2.1 53 = .ok (.if_icmp .le 36, 3) := by decide +kernel
theorem dX3_worth_56 : decode mX3_worth.2.1 56 = .ok (.iload_n 3, 1) := by decide +kernel
theorem dX3_worth_57 : decode mX3_worth.2.1 57 = .ok (.aload_n 2, 1) := by decide +kernel
theorem dX3_worth_58 : decode mX3_worth.2.1 58 = .ok (.arraylength, 1) := by decide +kernel
theorem dX3_worth_59 : decode mX3_worth.2.1 59 = .ok (.if_icmp .lt 5, 3) := by decide +kernel
theorem dX3_worth_62 : decode mX3_worth.2.1 62 = .ok (.iconst 0, 1) := by decide +kernel
theorem dX3_worth_63 : decode mX3_worth.2.1 63 = .ok (.ireturn, 1) := by decide +kernel
theorem dX3_worth_64 : decode mX3_worth.2.1 64 = .ok (.aload_n 2, 1) := by decide +kernel
theorem dX3_worth_65 : decode mX3_worth.2.1 65 = .ok (.iload_n 3, 1) := by decide +kernel
theorem dX3_worth_66 : decode mX3_worth.2.1 66 = .ok (.iload 6, 2) := by decide +kernel
theorem dX3_worth_68 : decode mX3_worth.2.1 68 = .ok (.ifCond .lt 8, 3) := by decide +kernel
theorem dX3_worth_71 : decode mX3_worth.2.1 71 = .ok (.iload 6, 2) := by decide +kernel
theorem dX3_worth_73 : decode mX3_worth.2.1 73 = .ok (.goto 9, 3) := by decide +kernel
theorem dX3_worth_76 : decode mX3_worth.2.1 76 = .ok (.aload_n 1, 1) := by decide +kernel
theorem dX3_worth_77 : decode mX3_worth.2.1 77 = .ok (.iconst (-1), 1) := by decide +kernel
theorem dX3_worth_78 : decode mX3_worth.2.1 78 = .ok (.iload 6, 2) := by decide +kernel
theorem dX3_worth_80 : decode mX3_worth.2.1 80 = .ok (.isub, 1) := by decide +kernel
theorem dX3_worth_81 : decode mX3_worth.2.1 81 = .ok (.iaload, 1) := by decide +kernel
theorem dX3_worth_82 : decode mX3_worth.2.1 82 = .ok (.iastore, 1) := by decide +kernel
theorem dX3_worth_83 : decode mX3_worth.2.1 83 = .ok (.iinc 3 1, 3) := by decide +kernel
theorem dX3_worth_86 : decode mX3_worth.2.1 86 = .ok (.goto 99, 3) := by decide +kernel
theorem dX3_worth_89 : decode mX3_worth.2.1 89 = .ok (.iload_n 3, 1) := by decide +kernel
theorem dX3_worth_90 : decode mX3_worth.2.1 90 = .ok (.iconst 1, 1) := by decide +kernel
theorem dX3_worth_91 : decode mX3_worth.2.1 91 = .ok (.if_icmp .ge 5, 3) := by decide +kernel
theorem dX3_worth_94 : decode mX3_worth.2.1 94 = .ok (.iconst 0, 1) := by decide +kernel
theorem dX3_worth_95 : decode mX3_worth.2.1 95 = .ok (.ireturn, 1) := by decide +kernel
theorem dX3_worth_96 : decode mX3_worth.2.1 96 = .ok (.iload 6, 2) := by decide +kernel
theorem dX3_worth_98 : decode mX3_worth.2.1 98 = .ok (.bipush (-22), 2) := by decide +kernel
theorem dX3_worth_100 : decode mX3_worth.2.1 100 = .ok (.if_icmp .ne 9, 3) := by decide +kernel
theorem dX3_worth_103 : decode mX3_worth.2.1 103 = .ok (.aload_n 2, 1) := by decide +kernel
theorem dX3_worth_104 : decode mX3_worth.2.1 104 = .ok (.iload_n 3, 1) := by decide +kernel
theorem dX3_worth_105 : decode mX3_worth.2.1 105 = .ok (.iconst 1, 1) := by decide +kernel
theorem dX3_worth_106 : decode mX3_worth.2.1 106 = .ok (.isub, 1) := by decide +kernel
theorem dX3_worth_107 : decode mX3_worth.2.1 107 = .ok (.iaload, 1) := by decide +kernel
theorem dX3_worth_108 : decode mX3_worth.2.1 108 = .ok (.ireturn, 1) := by decide +kernel
theorem dX3_worth_109 : decode mX3_worth.2.1 109 = .ok (.iload 6, 2) := by decide +kernel
theorem dX3_worth_111 : decode mX3_worth.2.1 111 = .ok (.bipush (-21), 2) := by decide +kernel
theorem dX3_worth_113 : decode mX3_worth.2.1 113 = .ok (.if_icmp .ne 22, 3) := by decide +kernel
theorem dX3_worth_116 : decode mX3_worth.2.1 116 = .ok (.iinc 3 (-1), 3) := by decide +kernel
theorem dX3_worth_119 : decode mX3_worth.2.1 119 = .ok (.aload_n 2, 1) := by decide +kernel
theorem dX3_worth_120 : decode mX3_worth.2.1 120 = .ok (.iload_n 3, 1) := by decide +kernel
theorem dX3_worth_121 : decode mX3_worth.2.1 121 = .ok (.iaload, 1) := by decide +kernel
theorem dX3_worth_122 : decode mX3_worth.2.1 122 = .ok (.ifCond .ne 7, 3) := by decide +kernel
theorem dX3_worth_125 : decode mX3_worth.2.1 125 = .ok (.iconst 1, 1) := by decide +kernel
theorem dX3_worth_126 : decode mX3_worth.2.1 126 = .ok (.goto 4, 3) := by decide +kernel
theorem dX3_worth_129 : decode mX3_worth.2.1 129 = .ok (.iconst 0, 1) := by decide +kernel
theorem dX3_worth_130 : decode mX3_worth.2.1 130 = .ok (.istore 4, 2) := by decide +kernel
theorem dX3_worth_132 : decode mX3_worth.2.1 132 = .ok (.goto 53, 3) := by decide +kernel
theorem dX3_worth_135 : decode mX3_worth.2.1 135 = .ok (.iload 6, 2) := by decide +kernel
theorem dX3_worth_137 : decode mX3_worth.2.1 137 = .ok (.bipush (-20), 2) := by decide +kernel
theorem dX3_worth_139 : decode mX3_worth.2.1 139 = .ok (.if_icmp .ne 18, 3) := by decide +kernel
theorem dX3_worth_142 : decode mX3_worth.2.1 142 = .ok (.aload_n 2, 1) := by decide +kernel
theorem dX3_worth_143 : decode mX3_worth.2.1 143 = .ok (.iload_n 3, 1) := by decide +kernel
theorem dX3_worth_144 : decode mX3_worth.2.1 144 = .ok (.iconst 1, 1) := by decide +kernel
theorem dX3_worth_145 : decode mX3_worth.2.1 145 = .ok (.isub, 1) := by decide +kernel
theorem dX3_worth_146 : decode mX3_worth.2.1 146 = .ok (.iconst 1, 1) := by decide +kernel
theorem dX3_worth_147 : decode mX3_worth.2.1 147 = .ok (.aload_n 2, 1) := by decide +kernel
theorem dX3_worth_148 : decode mX3_worth.2.1 148 = .ok (.iload_n 3, 1) := by decide +kernel
theorem dX3_worth_149 : decode mX3_worth.2.1 149 = .ok (.iconst 1, 1) := by decide +kernel
theorem dX3_worth_150 : decode mX3_worth.2.1 150 = .ok (.isub, 1) := by decide +kernel
theorem dX3_worth_151 : decode mX3_worth.2.1 151 = .ok (.iaload, 1) := by decide +kernel
theorem dX3_worth_152 : decode mX3_worth.2.1 152 = .ok (.isub, 1) := by decide +kernel
theorem dX3_worth_153 : decode mX3_worth.2.1 153 = .ok (.iastore, 1) := by decide +kernel
theorem dX3_worth_154 : decode mX3_worth.2.1 154 = .ok (.goto 31, 3) := by decide +kernel
theorem dX3_worth_157 : decode mX3_worth.2.1 157 = .ok (.iload_n 3, 1) := by decide +kernel
theorem dX3_worth_158 : decode mX3_worth.2.1 158 = .ok (.iconst 2, 1) := by decide +kernel
theorem dX3_worth_159 : decode mX3_worth.2.1 159 = .ok (.if_icmp .ge 5, 3) := by decide +kernel
theorem dX3_worth_162 : decode mX3_worth.2.1 162 = .ok (.iconst 0, 1) := by decide +kernel
theorem dX3_worth_163 : decode mX3_worth.2.1 163 = .ok (.ireturn, 1) := by decide +kernel
theorem dX3_worth_164 : decode mX3_worth.2.1 164 = .ok (.iinc 3 (-1), 3) := by decide +kernel
theorem dX3_worth_167 : decode mX3_worth.2.1 167 = .ok (.aload_n 2, 1) := by decide +kernel
theorem dX3_worth_168 : decode mX3_worth.2.1 168 = .ok (.iload_n 3, 1) := by decide +kernel
theorem dX3_worth_169 : decode mX3_worth.2.1 169 = .ok (.iconst 1, 1) := by decide +kernel
theorem dX3_worth_170 : decode mX3_worth.2.1 170 = .ok (.isub, 1) := by decide +kernel
theorem dX3_worth_171 : decode mX3_worth.2.1 171 = .ok (.iload 6, 2) := by decide +kernel
theorem dX3_worth_173 : decode mX3_worth.2.1 173 = .ok (.aload_n 2, 1) := by decide +kernel
theorem dX3_worth_174 : decode mX3_worth.2.1 174 = .ok (.iload_n 3, 1) := by decide +kernel
theorem dX3_worth_175 : decode mX3_worth.2.1 175 = .ok (.iconst 1, 1) := by decide +kernel
theorem dX3_worth_176 : decode mX3_worth.2.1 176 = .ok (.isub, 1) := by decide +kernel
theorem dX3_worth_177 : decode mX3_worth.2.1 177 = .ok (.iaload, 1) := by decide +kernel
theorem dX3_worth_178 : decode mX3_worth.2.1 178 = .ok (.aload_n 2, 1) := by decide +kernel
theorem dX3_worth_179 : decode mX3_worth.2.1 179 = .ok (.iload_n 3, 1) := by decide +kernel
theorem dX3_worth_180 : decode mX3_worth.2.1 180 = .ok (.iaload, 1) := by decide +kernel
theorem dX3_worth_181 : decode mX3_worth.2.1 181 = .ok (.invokestatic 19, 3) := by decide +kernel
theorem dX3_worth_184 : decode mX3_worth.2.1 184 = .ok (.iastore, 1) := by decide +kernel
theorem dX3_worth_185 : decode mX3_worth.2.1 185 = .ok (.iinc 5 1, 3) := by decide +kernel
theorem dX3_worth_188 : decode mX3_worth.2.1 188 = .ok (.goto (-180), 3) := by decide +kernel
theorem dX3_worth_191 : decode mX3_worth.2.1 191 = .ok (.iconst 0, 1) := by decide +kernel
theorem dX3_worth_192 : decode mX3_worth.2.1 192 = .ok (.ireturn, 1) := by decide +kernel
abbrev mX5_bringBack : gz_M := (yX5_bringBack, cX5_bringBack, 2, some .boolean)
theorem dX5_bringBack_0 : decode mX5_bringBack.2.1 0 = .ok (.aload_n 0, 1) := by decide +kernel
theorem dX5_bringBack_1 : decode mX5_bringBack.2.1 1 = .ok (.getfield 28, 3) := by decide +kernel
theorem dX5_bringBack_4 : decode mX5_bringBack.2.1 4 = .ok (.ifCond .ne 5, 3) := by decide +kernel
theorem dX5_bringBack_7 : decode mX5_bringBack.2.1 7 = .ok (.iconst 0, 1) := by decide +kernel
theorem dX5_bringBack_8 : decode mX5_bringBack.2.1 8 = .ok (.ireturn, 1) := by decide +kernel
theorem dX5_bringBack_9 : decode mX5_bringBack.2.1 9 = .ok (.aload_n 0, 1) := by decide +kernel
theorem dX5_bringBack_10 : decode mX5_bringBack.2.1 10 = .ok (.getfield 18, 3) := by decide +kernel
theorem dX5_bringBack_13 : decode mX5_bringBack.2.1 13 = .ok (.iconst 0, 1) := by decide +kernel
theorem dX5_bringBack_14 : decode mX5_bringBack.2.1 14 = .ok (.aload_n 1, 1) := by decide +kernel
theorem dX5_bringBack_15 : decode mX5_bringBack.2.1 15 = .ok (.getfield 32, 3) := by decide +kernel
theorem dX5_bringBack_18 : decode mX5_bringBack.2.1 18 = .ok (.iconst 0, 1) := by decide +kernel
theorem dX5_bringBack_19 : decode mX5_bringBack.2.1 19 = .ok (.bipush 50, 2) := by decide +kernel
theorem dX5_bringBack_21 : decode mX5_bringBack.2.1 21 = .ok (.invokestatic 38, 3) := by decide +kernel
theorem dX5_bringBack_24 : decode mX5_bringBack.2.1 24 = .ok (.aload_n 0, 1) := by decide +kernel
theorem dX5_bringBack_25 : decode mX5_bringBack.2.1 25 = .ok (.getfield 21, 3) := by decide +kernel
theorem dX5_bringBack_28 : decode mX5_bringBack.2.1 28 = .ok (.iconst 0, 1) := by decide +kernel
theorem dX5_bringBack_29 : decode mX5_bringBack.2.1 29 = .ok (.aload_n 0, 1) := by decide +kernel
theorem dX5_bringBack_30 : decode mX5_bringBack.2.1 30 = .ok (.getfield 15, 3) := by decide +kernel
theorem dX5_bringBack_33 : decode mX5_bringBack.2.1 33 = .ok (.iconst 0, 1) := by decide +kernel
theorem dX5_bringBack_34 : decode mX5_bringBack.2.1 34 = .ok (.bipush 100, 2) := by decide +kernel
theorem dX5_bringBack_36 : decode mX5_bringBack.2.1 36 = .ok (.invokestatic 38, 3) := by decide +kernel
theorem dX5_bringBack_39 : decode mX5_bringBack.2.1 39 = .ok (.aload_n 0, 1) := by decide +kernel
theorem dX5_bringBack_40 : decode mX5_bringBack.2.1 40 = .ok (.iconst 0, 1) := by decide +kernel
theorem dX5_bringBack_41 : decode mX5_bringBack.2.1 41 = .ok (.putfield 24, 3) := by decide +kernel
theorem dX5_bringBack_44 : decode mX5_bringBack.2.1 44 = .ok (.iconst 1, 1) := by decide +kernel
theorem dX5_bringBack_45 : decode mX5_bringBack.2.1 45 = .ok (.ireturn, 1) := by decide +kernel
abbrev mX5_forget : gz_M := (yX5_forget, cX5_forget, 1, none)
theorem dX5_forget_0 : decode mX5_forget.2.1 0 = .ok (.aload_n 0, 1) := by decide +kernel
theorem dX5_forget_1 : decode mX5_forget.2.1 1 = .ok (.iconst 0, 1) := by decide +kernel
theorem dX5_forget_2 : decode mX5_forget.2.1 2 = .ok (.putfield 24, 3) := by decide +kernel
theorem dX5_forget_5 : decode mX5_forget.2.1 5 = .ok (.aload_n 0, 1) := by decide +kernel
theorem dX5_forget_6 : decode mX5_forget.2.1 6 = .ok (.iconst 0, 1) := by decide +kernel
theorem dX5_forget_7 : decode mX5_forget.2.1 7 = .ok (.putfield 28, 3) := by decide +kernel
theorem dX5_forget_10 : decode mX5_forget.2.1 10 = .ok (.return_, 1) := by decide +kernel
abbrev mX5_keep : gz_M := (yX5_keep, cX5_keep, 2, none)
theorem dX5_keep_0 : decode mX5_keep.2.1 0 = .ok (.aload_n 1, 1) := by decide +kernel
theorem dX5_keep_1 : decode mX5_keep.2.1 1 = .ok (.getfield 32, 3) := by decide +kernel
theorem dX5_keep_4 : decode mX5_keep.2.1 4 = .ok (.iconst 0, 1) := by decide +kernel
theorem dX5_keep_5 : decode mX5_keep.2.1 5 = .ok (.aload_n 0, 1) := by decide +kernel
theorem dX5_keep_6 : decode mX5_keep.2.1 6 = .ok (.getfield 11, 3) := by decide +kernel
theorem dX5_keep_9 : decode mX5_keep.2.1 9 = .ok (.aload_n 0, 1) := by decide +kernel
theorem dX5_keep_10 : decode mX5_keep.2.1 10 = .ok (.getfield 35, 3) := by decide +kernel
theorem dX5_keep_13 : decode mX5_keep.2.1 13 = .ok (.bipush 50, 2) := by decide +kernel
theorem dX5_keep_15 : decode mX5_keep.2.1 15 = .ok (.imul, 1) := by decide +kernel
theorem dX5_keep_16 : decode mX5_keep.2.1 16 = .ok (.bipush 50, 2) := by decide +kernel
theorem dX5_keep_18 : decode mX5_keep.2.1 18 = .ok (.invokestatic 38, 3) := by decide +kernel
theorem dX5_keep_21 : decode mX5_keep.2.1 21 = .ok (.aload_n 0, 1) := by decide +kernel
theorem dX5_keep_22 : decode mX5_keep.2.1 22 = .ok (.aload_n 0, 1) := by decide +kernel
theorem dX5_keep_23 : decode mX5_keep.2.1 23 = .ok (.getfield 35, 3) := by decide +kernel
theorem dX5_keep_26 : decode mX5_keep.2.1 26 = .ok (.iconst 1, 1) := by decide +kernel
theorem dX5_keep_27 : decode mX5_keep.2.1 27 = .ok (.iadd, 1) := by decide +kernel
theorem dX5_keep_28 : decode mX5_keep.2.1 28 = .ok (.bipush 40, 2) := by decide +kernel
theorem dX5_keep_30 : decode mX5_keep.2.1 30 = .ok (.irem, 1) := by decide +kernel
theorem dX5_keep_31 : decode mX5_keep.2.1 31 = .ok (.putfield 35, 3) := by decide +kernel
theorem dX5_keep_34 : decode mX5_keep.2.1 34 = .ok (.aload_n 0, 1) := by decide +kernel
theorem dX5_keep_35 : decode mX5_keep.2.1 35 = .ok (.bipush 40, 2) := by decide +kernel
theorem dX5_keep_37 : decode mX5_keep.2.1 37 = .ok (.aload_n 0, 1) := by decide +kernel
theorem dX5_keep_38 : decode mX5_keep.2.1 38 = .ok (.getfield 24, 3) := by decide +kernel
theorem dX5_keep_41 : decode mX5_keep.2.1 41 = .ok (.iconst 1, 1) := by decide +kernel
theorem dX5_keep_42 : decode mX5_keep.2.1 42 = .ok (.iadd, 1) := by decide +kernel
theorem dX5_keep_43 : decode mX5_keep.2.1 43 = .ok (.invokestatic 44, 3) := by decide +kernel
theorem dX5_keep_46 : decode mX5_keep.2.1 46 = .ok (.putfield 24, 3) := by decide +kernel
theorem dX5_keep_49 : decode mX5_keep.2.1 49 = .ok (.return_, 1) := by decide +kernel
abbrev mX5_keepImage : gz_M := (yX5_keepImage, cX5_keepImage, 2, none)
theorem dX5_keepImage_0 : decode mX5_keepImage.2.1 0 = .ok (.aload_n 1, 1) := by decide +kernel
theorem dX5_keepImage_1 : decode mX5_keepImage.2.1 1 = .ok (.getfield 32, 3) := by decide +kernel
theorem dX5_keepImage_4 : decode mX5_keepImage.2.1 4 = .ok (.iconst 0, 1) := by decide +kernel
theorem dX5_keepImage_5 : decode mX5_keepImage.2.1 5 = .ok (.aload_n 0, 1) := by decide +kernel
theorem dX5_keepImage_6 : decode mX5_keepImage.2.1 6 = .ok (.getfield 18, 3) := by decide +kernel
theorem dX5_keepImage_9 : decode mX5_keepImage.2.1 9 = .ok (.iconst 0, 1) := by decide +kernel
theorem dX5_keepImage_10 : decode mX5_keepImage.2.1 10 = .ok (.bipush 50, 2) := by decide +kernel
theorem dX5_keepImage_12 : decode mX5_keepImage.2.1 12 = .ok (.invokestatic 38, 3) := by decide +kernel
theorem dX5_keepImage_15 : decode mX5_keepImage.2.1 15 = .ok (.aload_n 0, 1) := by decide +kernel
theorem dX5_keepImage_16 : decode mX5_keepImage.2.1 16 = .ok (.getfield 15, 3) := by decide +kernel
theorem dX5_keepImage_19 : decode mX5_keepImage.2.1 19 = .ok (.iconst 0, 1) := by decide +kernel
theorem dX5_keepImage_20 : decode mX5_keepImage.2.1 20 = .ok (.aload_n 0, 1) := by decide +kernel
theorem dX5_keepImage_21 : decode mX5_keepImage.2.1 21 = .ok (.getfield 21, 3) := by decide +kernel
theorem dX5_keepImage_24 : decode mX5_keepImage.2.1 24 = .ok (.iconst 0, 1) := by decide +kernel
theorem dX5_keepImage_25 : decode mX5_keepImage.2.1 25 = .ok (.bipush 100, 2) := by decide +kernel
theorem dX5_keepImage_27 : decode mX5_keepImage.2.1 27 = .ok (.invokestatic 38, 3) := by decide +kernel
theorem dX5_keepImage_30 : decode mX5_keepImage.2.1 30 = .ok (.aload_n 0, 1) := by decide +kernel
theorem dX5_keepImage_31 : decode mX5_keepImage.2.1 31 = .ok (.iconst 1, 1) := by decide +kernel
theorem dX5_keepImage_32 : decode mX5_keepImage.2.1 32 = .ok (.putfield 28, 3) := by decide +kernel
theorem dX5_keepImage_35 : decode mX5_keepImage.2.1 35 = .ok (.return_, 1) := by decide +kernel
abbrev mX5_logLength : gz_M := (yX5_logLength, cX5_logLength, 1, some .int)
theorem dX5_logLength_0 : decode mX5_logLength.2.1 0 = .ok (.bipush 60, 2) := by decide +kernel
theorem dX5_logLength_2 : decode mX5_logLength.2.1 2 = .ok (.aload_n 0, 1) := by decide +kernel
theorem dX5_logLength_3 : decode mX5_logLength.2.1 3 = .ok (.getfield 32, 3) := by decide +kernel
theorem dX5_logLength_6 : decode mX5_logLength.2.1 6 = .ok (.bipush 49, 2) := by decide +kernel
theorem dX5_logLength_8 : decode mX5_logLength.2.1 8 = .ok (.iaload, 1) := by decide +kernel
theorem dX5_logLength_9 : decode mX5_logLength.2.1 9 = .ok (.invokestatic 44, 3) := by decide +kernel
theorem dX5_logLength_12 : decode mX5_logLength.2.1 12 = .ok (.ireturn, 1) := by decide +kernel
abbrev mX5_note : gz_M := (yX5_note, cX5_note, 5, none)
theorem dX5_note_0 : decode mX5_note.2.1 0 = .ok (.aload_n 0, 1) := by decide +kernel
theorem dX5_note_1 : decode mX5_note.2.1 1 = .ok (.getfield 15, 3) := by decide +kernel
theorem dX5_note_4 : decode mX5_note.2.1 4 = .ok (.iload_n 1, 1) := by decide +kernel
theorem dX5_note_5 : decode mX5_note.2.1 5 = .ok (.iconst 1, 1) := by decide +kernel
theorem dX5_note_6 : decode mX5_note.2.1 6 = .ok (.isub, 1) := by decide +kernel
theorem dX5_note_7 : decode mX5_note.2.1 7 = .ok (.bipush 100, 2) := by decide +kernel
theorem dX5_note_9 : decode mX5_note.2.1 9 = .ok (.invokestatic 50, 3) := by decide +kernel
theorem dX5_note_12 : decode mX5_note.2.1 12 = .ok (.iload_n 2, 1) := by decide +kernel
theorem dX5_note_13 : decode mX5_note.2.1 13 = .ok (.bipush 8, 2) := by decide +kernel
theorem dX5_note_15 : decode mX5_note.2.1 15 = .ok (.ishl, 1) := by decide +kernel
theorem dX5_note_16 : decode mX5_note.2.1 16 = .ok (.iload_n 3, 1) := by decide +kernel
theorem dX5_note_17 : decode mX5_note.2.1 17 = .ok (.iconst 4, 1) := by decide +kernel
theorem dX5_note_18 : decode mX5_note.2.1 18 = .ok (.ishl, 1) := by decide +kernel
theorem dX5_note_19 : decode mX5_note.2.1 19 = .ok (.ior, 1) := by decide +kernel
theorem dX5_note_20 : decode mX5_note.2.1 20 = .ok (.iload 4, 2) := by decide +kernel
theorem dX5_note_22 : decode mX5_note.2.1 22 = .ok (.ior, 1) := by decide +kernel
theorem dX5_note_23 : decode mX5_note.2.1 23 = .ok (.iastore, 1) := by decide +kernel
theorem dX5_note_24 : decode mX5_note.2.1 24 = .ok (.return_, 1) := by decide +kernel
abbrev mX5_noted : gz_M := (yX5_noted, cX5_noted, 4, some .int)
theorem dX5_noted_0 : decode mX5_noted.2.1 0 = .ok (.aload_n 0, 1) := by decide +kernel
theorem dX5_noted_1 : decode mX5_noted.2.1 1 = .ok (.getfield 15, 3) := by decide +kernel
theorem dX5_noted_4 : decode mX5_noted.2.1 4 = .ok (.iload_n 1, 1) := by decide +kernel
theorem dX5_noted_5 : decode mX5_noted.2.1 5 = .ok (.bipush 100, 2) := by decide +kernel
theorem dX5_noted_7 : decode mX5_noted.2.1 7 = .ok (.invokestatic 50, 3) := by decide +kernel
theorem dX5_noted_10 : decode mX5_noted.2.1 10 = .ok (.iaload, 1) := by decide +kernel
theorem dX5_noted_11 : decode mX5_noted.2.1 11 = .ok (.istore_n 3, 1) := by decide +kernel
theorem dX5_noted_12 : decode mX5_noted.2.1 12 = .ok (.iload_n 2, 1) := by decide +kernel
theorem dX5_noted_13 : decode mX5_noted.2.1 13 = .ok (.lookupswitch 39 #[(0, 27), (1, 32)], 27) := by decide +kernel
theorem dX5_noted_40 : decode mX5_noted.2.1 40 = .ok (.iload_n 3, 1) := by decide +kernel
theorem dX5_noted_41 : decode mX5_noted.2.1 41 = .ok (.bipush 8, 2) := by decide +kernel
theorem dX5_noted_43 : decode mX5_noted.2.1 43 = .ok (.ishr, 1) := by decide +kernel
theorem dX5_noted_44 : decode mX5_noted.2.1 44 = .ok (.ireturn, 1) := by decide +kernel
theorem dX5_noted_45 : decode mX5_noted.2.1 45 = .ok (.iload_n 3, 1) := by decide +kernel
theorem dX5_noted_46 : decode mX5_noted.2.1 46 = .ok (.iconst 4, 1) := by decide +kernel
theorem dX5_noted_47 : decode mX5_noted.2.1 47 = .ok (.ishr, 1) := by decide +kernel
theorem dX5_noted_48 : decode mX5_noted.2.1 48 = .ok (.bipush 15, 2) := by decide +kernel
theorem dX5_noted_50 : decode mX5_noted.2.1 50 = .ok (.iand, 1) := by decide +kernel
theorem dX5_noted_51 : decode mX5_noted.2.1 51 = .ok (.ireturn, 1) := by decide +kernel
theorem dX5_noted_52 : decode mX5_noted.2.1 52 = .ok (.iload_n 3, 1) := by decide +kernel
theorem dX5_noted_53 : decode mX5_noted.2.1 53 = .ok (.bipush 15, 2) := by decide +kernel
theorem dX5_noted_55 : decode mX5_noted.2.1 55 = .ok (.iand, 1) := by decide +kernel
theorem dX5_noted_56 : decode mX5_noted.2.1 56 = .ok (.ireturn, 1) := by decide +kernel
abbrev mX5_takeBack : gz_M := (yX5_takeBack, cX5_takeBack, 2, some .boolean)
theorem dX5_takeBack_0 : decode mX5_takeBack.2.1 0 = .ok (.aload_n 0, 1) := by decide +kernel
theorem dX5_takeBack_1 : decode mX5_takeBack.2.1 1 = .ok (.getfield 24, 3) := by decide +kernel
theorem dX5_takeBack_4 : decode mX5_takeBack.2.1 4 = .ok (.iconst 1, 1) := by decide +kernel
theorem dX5_takeBack_5 : decode mX5_takeBack.2.1 5 = .ok (.if_icmp .ge 5, 3) := by decide +kernel
theorem dX5_takeBack_8 : decode mX5_takeBack.2.1 8 = .ok (.iconst 0, 1) := by decide +kernel
theorem dX5_takeBack_9 : decode mX5_takeBack.2.1 9 = .ok (.ireturn, 1) := by decide +kernel
theorem dX5_takeBack_10 : decode mX5_takeBack.2.1 10 = .ok (.aload_n 0, 1) := by decide +kernel
theorem dX5_takeBack_11 : decode mX5_takeBack.2.1 11 = .ok (.dup, 1) := by decide +kernel
theorem dX5_takeBack_12 : decode mX5_takeBack.2.1 12 = .ok (.getfield 24, 3) := by decide +kernel
theorem dX5_takeBack_15 : decode mX5_takeBack.2.1 15 = .ok (.iconst 1, 1) := by decide +kernel
theorem dX5_takeBack_16 : decode mX5_takeBack.2.1 16 = .ok (.isub, 1) := by decide +kernel
theorem dX5_takeBack_17 : decode mX5_takeBack.2.1 17 = .ok (.putfield 24, 3) := by decide +kernel
theorem dX5_takeBack_20 : decode mX5_takeBack.2.1 20 = .ok (.aload_n 0, 1) := by decide +kernel
theorem dX5_takeBack_21 : decode mX5_takeBack.2.1 21 = .ok (.aload_n 0, 1) := by decide +kernel
theorem dX5_takeBack_22 : decode mX5_takeBack.2.1 22 = .ok (.getfield 35, 3) := by decide +kernel
theorem dX5_takeBack_25 : decode mX5_takeBack.2.1 25 = .ok (.bipush 40, 2) := by decide +kernel
theorem dX5_takeBack_27 : decode mX5_takeBack.2.1 27 = .ok (.iadd, 1) := by decide +kernel
theorem dX5_takeBack_28 : decode mX5_takeBack.2.1 28 = .ok (.iconst 1, 1) := by decide +kernel
theorem dX5_takeBack_29 : decode mX5_takeBack.2.1 29 = .ok (.isub, 1) := by decide +kernel
theorem dX5_takeBack_30 : decode mX5_takeBack.2.1 30 = .ok (.bipush 40, 2) := by decide +kernel
theorem dX5_takeBack_32 : decode mX5_takeBack.2.1 32 = .ok (.irem, 1) := by decide +kernel
theorem dX5_takeBack_33 : decode mX5_takeBack.2.1 33 = .ok (.putfield 35, 3) := by decide +kernel
theorem dX5_takeBack_36 : decode mX5_takeBack.2.1 36 = .ok (.aload_n 0, 1) := by decide +kernel
theorem dX5_takeBack_37 : decode mX5_takeBack.2.1 37 = .ok (.getfield 11, 3) := by decide +kernel
theorem dX5_takeBack_40 : decode mX5_takeBack.2.1 40 = .ok (.aload_n 0, 1) := by decide +kernel
theorem dX5_takeBack_41 : decode mX5_takeBack.2.1 41 = .ok (.getfield 35, 3) := by decide +kernel
theorem dX5_takeBack_44 : decode mX5_takeBack.2.1 44 = .ok (.bipush 50, 2) := by decide +kernel
theorem dX5_takeBack_46 : decode mX5_takeBack.2.1 46 = .ok (.imul, 1) := by decide +kernel
theorem dX5_takeBack_47 : decode mX5_takeBack.2.1 47 = .ok (.aload_n 1, 1) := by decide +kernel
theorem dX5_takeBack_48 : decode mX5_takeBack.2.1 48 = .ok (.getfield 32, 3) := by decide +kernel
theorem dX5_takeBack_51 : decode mX5_takeBack.2.1 51 = .ok (.iconst 0, 1) := by decide +kernel
theorem dX5_takeBack_52 : decode mX5_takeBack.2.1 52 = .ok (.bipush 50, 2) := by decide +kernel
theorem dX5_takeBack_54 : decode mX5_takeBack.2.1 54 = .ok (.invokestatic 38, 3) := by decide +kernel
theorem dX5_takeBack_57 : decode mX5_takeBack.2.1 57 = .ok (.iconst 1, 1) := by decide +kernel
theorem dX5_takeBack_58 : decode mX5_takeBack.2.1 58 = .ok (.ireturn, 1) := by decide +kernel
abbrev mX6_begin : gz_M := (yX6_begin, cX6_begin, 3, none)
theorem dX6_begin_0 : decode mX6_begin.2.1 0 = .ok (.aload_n 0, 1) := by decide +kernel
theorem dX6_begin_1 : decode mX6_begin.2.1 1 = .ok (.getfield 11, 3) := by decide +kernel
theorem dX6_begin_4 : decode mX6_begin.2.1 4 = .ok (.bipush 30, 2) := by decide +kernel
theorem dX6_begin_6 : decode mX6_begin.2.1 6 = .ok (.iload_n 1, 1) := by decide +kernel
theorem dX6_begin_7 : decode mX6_begin.2.1 7 = .ok (.iadd, 1) := by decide +kernel
theorem dX6_begin_8 : decode mX6_begin.2.1 8 = .ok (.aload_n 0, 1) := by decide +kernel
theorem dX6_begin_9 : decode mX6_begin.2.1 9 = .ok (.getfield 11, 3) := by decide +kernel
theorem dX6_begin_12 : decode mX6_begin.2.1 12 = .ok (.bipush 54, 2) := by decide +kernel
theorem dX6_begin_14 : decode mX6_begin.2.1 14 = .ok (.iload_n 1, 1) := by decide +kernel
theorem dX6_begin_15 : decode mX6_begin.2.1 15 = .ok (.iadd, 1) := by decide +kernel
theorem dX6_begin_16 : decode mX6_begin.2.1 16 = .ok (.iaload, 1) := by decide +kernel
theorem dX6_begin_17 : decode mX6_begin.2.1 17 = .ok (.iastore, 1) := by decide +kernel
theorem dX6_begin_18 : decode mX6_begin.2.1 18 = .ok (.aload_n 0, 1) := by decide +kernel
theorem dX6_begin_19 : decode mX6_begin.2.1 19 = .ok (.getfield 11, 3) := by decide +kernel
theorem dX6_begin_22 : decode mX6_begin.2.1 22 = .ok (.bipush 34, 2) := by decide +kernel
theorem dX6_begin_24 : decode mX6_begin.2.1 24 = .ok (.iload_n 1, 1) := by decide +kernel
theorem dX6_begin_25 : decode mX6_begin.2.1 25 = .ok (.iadd, 1) := by decide +kernel
theorem dX6_begin_26 : decode mX6_begin.2.1 26 = .ok (.iload_n 2, 1) := by decide +kernel
theorem dX6_begin_27 : decode mX6_begin.2.1 27 = .ok (.iastore, 1) := by decide +kernel
theorem dX6_begin_28 : decode mX6_begin.2.1 28 = .ok (.aload_n 0, 1) := by decide +kernel
theorem dX6_begin_29 : decode mX6_begin.2.1 29 = .ok (.getfield 11, 3) := by decide +kernel
theorem dX6_begin_32 : decode mX6_begin.2.1 32 = .ok (.bipush 38, 2) := by decide +kernel
theorem dX6_begin_34 : decode mX6_begin.2.1 34 = .ok (.iload_n 1, 1) := by decide +kernel
theorem dX6_begin_35 : decode mX6_begin.2.1 35 = .ok (.iadd, 1) := by decide +kernel
theorem dX6_begin_36 : decode mX6_begin.2.1 36 = .ok (.iconst 0, 1) := by decide +kernel
theorem dX6_begin_37 : decode mX6_begin.2.1 37 = .ok (.iastore, 1) := by decide +kernel
theorem dX6_begin_38 : decode mX6_begin.2.1 38 = .ok (.aload_n 0, 1) := by decide +kernel
theorem dX6_begin_39 : decode mX6_begin.2.1 39 = .ok (.getfield 11, 3) := by decide +kernel
theorem dX6_begin_42 : decode mX6_begin.2.1 42 = .ok (.bipush 42, 2) := by decide +kernel
theorem dX6_begin_44 : decode mX6_begin.2.1 44 = .ok (.iload_n 1, 1) := by decide +kernel
theorem dX6_begin_45 : decode mX6_begin.2.1 45 = .ok (.iadd, 1) := by decide +kernel
theorem dX6_begin_46 : decode mX6_begin.2.1 46 = .ok (.iconst 0, 1) := by decide +kernel
theorem dX6_begin_47 : decode mX6_begin.2.1 47 = .ok (.iastore, 1) := by decide +kernel
theorem dX6_begin_48 : decode mX6_begin.2.1 48 = .ok (.return_, 1) := by decide +kernel
abbrev mX6_beside : gz_M := (yX6_beside, cX6_beside, 4, some .int)
theorem dX6_beside_0 : decode mX6_beside.2.1 0 = .ok (.aload_n 0, 1) := by decide +kernel
theorem dX6_beside_1 : decode mX6_beside.2.1 1 = .ok (.getfield 11, 3) := by decide +kernel
theorem dX6_beside_4 : decode mX6_beside.2.1 4 = .ok (.bipush 58, 2) := by decide +kernel
theorem dX6_beside_6 : decode mX6_beside.2.1 6 = .ok (.iaload, 1) := by decide +kernel
theorem dX6_beside_7 : decode mX6_beside.2.1 7 = .ok (.istore_n 3, 1) := by decide +kernel
theorem dX6_beside_8 : decode mX6_beside.2.1 8 = .ok (.iload_n 2, 1) := by decide +kernel
theorem dX6_beside_9 : decode mX6_beside.2.1 9 = .ok (.tableswitch 83 0 2 #[27, 40, 60], 27) := by decide +kernel
theorem dX6_beside_36 : decode mX6_beside.2.1 36 = .ok (.iload_n 1, 1) := by decide +kernel
theorem dX6_beside_37 : decode mX6_beside.2.1 37 = .ok (.iload_n 3, 1) := by decide +kernel
theorem dX6_beside_38 : decode mX6_beside.2.1 38 = .ok (.if_icmp .lt 9, 3) := by decide +kernel
theorem dX6_beside_41 : decode mX6_beside.2.1 41 = .ok (.iload_n 1, 1) := by decide +kernel
theorem dX6_beside_42 : decode mX6_beside.2.1 42 = .ok (.iload_n 3, 1) := by decide +kernel
theorem dX6_beside_43 : decode mX6_beside.2.1 43 = .ok (.isub, 1) := by decide +kernel
theorem dX6_beside_44 : decode mX6_beside.2.1 44 = .ok (.goto 4, 3) := by decide +kernel
theorem dX6_beside_47 : decode mX6_beside.2.1 47 = .ok (.iconst (-1), 1) := by decide +kernel
theorem dX6_beside_48 : decode mX6_beside.2.1 48 = .ok (.ireturn, 1) := by decide +kernel
theorem dX6_beside_49 : decode mX6_beside.2.1 49 = .ok (.iload_n 3, 1) := by decide +kernel
theorem dX6_beside_50 : decode mX6_beside.2.1 50 = .ok (.ifCond .le 17, 3) := by decide +kernel
theorem dX6_beside_53 : decode mX6_beside.2.1 53 = .ok (.iload_n 1, 1) := by decide +kernel
theorem dX6_beside_54 : decode mX6_beside.2.1 54 = .ok (.iconst 1, 1) := by decide +kernel
theorem dX6_beside_55 : decode mX6_beside.2.1 55 = .ok (.iadd, 1) := by decide +kernel
theorem dX6_beside_56 : decode mX6_beside.2.1 56 = .ok (.iload_n 3, 1) := by decide +kernel
theorem dX6_beside_57 : decode mX6_beside.2.1 57 = .ok (.irem, 1) := by decide +kernel
theorem dX6_beside_58 : decode mX6_beside.2.1 58 = .ok (.ifCond .eq 9, 3) := by decide +kernel
theorem dX6_beside_61 : decode mX6_beside.2.1 61 = .ok (.iload_n 1, 1) := by decide +kernel
theorem dX6_beside_62 : decode mX6_beside.2.1 62 = .ok (.iconst 1, 1) := by decide +kernel
theorem dX6_beside_63 : decode mX6_beside.2.1 63 = .ok (.iadd, 1) := by decide +kernel
theorem dX6_beside_64 : decode mX6_beside.2.1 64 = .ok (.goto 4, 3) := by decide +kernel
theorem dX6_beside_67 : decode mX6_beside.2.1 67 = .ok (.iconst (-1), 1) := by decide +kernel
theorem dX6_beside_68 : decode mX6_beside.2.1 68 = .ok (.ireturn, 1) := by decide +kernel
theorem dX6_beside_69 : decode mX6_beside.2.1 69 = .ok (.iload_n 1, 1) := by decide +kernel
theorem dX6_beside_70 : decode mX6_beside.2.1 70 = .ok (.iload_n 3, 1) := by decide +kernel
theorem dX6_beside_71 : decode mX6_beside.2.1 71 = .ok (.iadd, 1) := by decide +kernel
theorem dX6_beside_72 : decode mX6_beside.2.1 72 = .ok (.iload_n 3, 1) := by decide +kernel
theorem dX6_beside_73 : decode mX6_beside.2.1 73 = .ok (.aload_n 0, 1) := by decide +kernel
theorem dX6_beside_74 : decode mX6_beside.2.1 74 = .ok (.getfield 11, 3) := by decide +kernel
theorem dX6_beside_77 : decode mX6_beside.2.1 77 = .ok (.bipush 59, 2) := by decide +kernel
theorem dX6_beside_79 : decode mX6_beside.2.1 79 = .ok (.iaload, 1) := by decide +kernel
theorem dX6_beside_80 : decode mX6_beside.2.1 80 = .ok (.imul, 1) := by decide +kernel
theorem dX6_beside_81 : decode mX6_beside.2.1 81 = .ok (.if_icmp .ge 9, 3) := by decide +kernel
theorem dX6_beside_84 : decode mX6_beside.2.1 84 = .ok (.iload_n 1, 1) := by decide +kernel
theorem dX6_beside_85 : decode mX6_beside.2.1 85 = .ok (.iload_n 3, 1) := by decide +kernel
theorem dX6_beside_86 : decode mX6_beside.2.1 86 = .ok (.iadd, 1) := by decide +kernel
theorem dX6_beside_87 : decode mX6_beside.2.1 87 = .ok (.goto 4, 3) := by decide +kernel
theorem dX6_beside_90 : decode mX6_beside.2.1 90 = .ok (.iconst (-1), 1) := by decide +kernel
theorem dX6_beside_91 : decode mX6_beside.2.1 91 = .ok (.ireturn, 1) := by decide +kernel
theorem dX6_beside_92 : decode mX6_beside.2.1 92 = .ok (.iload_n 3, 1) := by decide +kernel
theorem dX6_beside_93 : decode mX6_beside.2.1 93 = .ok (.ifCond .le 15, 3) := by decide +kernel
theorem dX6_beside_96 : decode mX6_beside.2.1 96 = .ok (.iload_n 1, 1) := by decide +kernel
theorem dX6_beside_97 : decode mX6_beside.2.1 97 = .ok (.iload_n 3, 1) := by decide +kernel
theorem dX6_beside_98 : decode mX6_beside.2.1 98 = .ok (.irem, 1) := by decide +kernel
theorem dX6_beside_99 : decode mX6_beside.2.1 99 = .ok (.ifCond .eq 9, 3) := by decide +kernel
theorem dX6_beside_102 : decode mX6_beside.2.1 102 = .ok (.iload_n 1, 1) := by decide +kernel
theorem dX6_beside_103 : decode mX6_beside.2.1 103 = .ok (.iconst 1, 1) := by decide +kernel
theorem dX6_beside_104 : decode mX6_beside.2.1 104 = .ok (.isub, 1) := by decide +kernel
theorem dX6_beside_105 : decode mX6_beside.2.1 105 = .ok (.goto 4, 3) := by decide +kernel
theorem dX6_beside_108 : decode mX6_beside.2.1 108 = .ok (.iconst (-1), 1) := by decide +kernel
theorem dX6_beside_109 : decode mX6_beside.2.1 109 = .ok (.ireturn, 1) := by decide +kernel
abbrev mX6_busyCells : gz_M := (yX6_busyCells, cX6_busyCells, 3, some .int)
theorem dX6_busyCells_0 : decode mX6_busyCells.2.1 0 = .ok (.iconst 0, 1) := by decide +kernel
theorem dX6_busyCells_1 : decode mX6_busyCells.2.1 1 = .ok (.istore_n 1, 1) := by decide +kernel
theorem dX6_busyCells_2 : decode mX6_busyCells.2.1 2 = .ok (.iconst 0, 1) := by decide +kernel
theorem dX6_busyCells_3 : decode mX6_busyCells.2.1 3 = .ok (.istore_n 2, 1) := by decide +kernel
theorem dX6_busyCells_4 : decode mX6_busyCells.2.1 4 = .ok (.iload_n 2, 1) := by decide +kernel
theorem dX6_busyCells_5 : decode mX6_busyCells.2.1 5 = .ok (.aload_n 0, 1) := by decide +kernel
theorem dX6_busyCells_6 : decode mX6_busyCells.2.1 6 = .ok (.getfield 11, 3) := by decide +kernel
theorem dX6_busyCells_9 : decode mX6_busyCells.2.1 9 = .ok (.bipush 60, 2) := by decide +kernel
theorem dX6_busyCells_11 : decode mX6_busyCells.2.1 11 = .ok (.iaload, 1) := by decide +kernel
theorem dX6_busyCells_12 : decode mX6_busyCells.2.1 12 = .ok (.if_icmp .ge 31, 3) := by decide +kernel
theorem dX6_busyCells_15 : decode mX6_busyCells.2.1 15 = .ok (.aload_n 0, 1) := by decide +kernel
theorem dX6_busyCells_16 : decode mX6_busyCells.2.1 16 = .ok (.iload_n 2, 1) := by decide +kernel
theorem dX6_busyCells_17 : decode mX6_busyCells.2.1 17 = .ok (.invokevirtual 33, 3) := by decide +kernel
theorem dX6_busyCells_20 : decode mX6_busyCells.2.1 20 = .ok (.ifCond .eq 17, 3) := by decide +kernel
theorem dX6_busyCells_23 : decode mX6_busyCells.2.1 23 = .ok (.iload_n 1, 1) := by decide +kernel
theorem dX6_busyCells_24 : decode mX6_busyCells.2.1 24 = .ok (.iconst 1, 1) := by decide +kernel
theorem dX6_busyCells_25 : decode mX6_busyCells.2.1 25 = .ok (.aload_n 0, 1) := by decide +kernel
theorem dX6_busyCells_26 : decode mX6_busyCells.2.1 26 = .ok (.getfield 11, 3) := by decide +kernel
theorem dX6_busyCells_29 : decode mX6_busyCells.2.1 29 = .ok (.bipush 30, 2) := by decide +kernel
theorem dX6_busyCells_31 : decode mX6_busyCells.2.1 31 = .ok (.iload_n 2, 1) := by decide +kernel
theorem dX6_busyCells_32 : decode mX6_busyCells.2.1 32 = .ok (.iadd, 1) := by decide +kernel
theorem dX6_busyCells_33 : decode mX6_busyCells.2.1 33 = .ok (.iaload, 1) := by decide +kernel
theorem dX6_busyCells_34 : decode mX6_busyCells.2.1 34 = .ok (.ishl, 1) := by decide +kernel
theorem dX6_busyCells_35 : decode mX6_busyCells.2.1 35 = .ok (.ior, 1) := by decide +kernel
theorem dX6_busyCells_36 : decode mX6_busyCells.2.1 36 = .ok (.istore_n 1, 1) := by decide +kernel
theorem dX6_busyCells_37 : decode mX6_busyCells.2.1 37 = .ok (.iinc 2 1, 3) := by decide +kernel
theorem dX6_busyCells_40 : decode mX6_busyCells.2.1 40 = .ok (.goto (-36), 3) := by decide +kernel
theorem dX6_busyCells_43 : decode mX6_busyCells.2.1 43 = .ok (.iload_n 1, 1) := by decide +kernel
theorem dX6_busyCells_44 : decode mX6_busyCells.2.1 44 = .ok (.ireturn, 1) := by decide +kernel
abbrev mX6_cells : gz_M := (yX6_cells, cX6_cells, 1, some .int)
theorem dX6_cells_0 : decode mX6_cells.2.1 0 = .ok (.aload_n 0, 1) := by decide +kernel
theorem dX6_cells_1 : decode mX6_cells.2.1 1 = .ok (.getfield 11, 3) := by decide +kernel
theorem dX6_cells_4 : decode mX6_cells.2.1 4 = .ok (.bipush 58, 2) := by decide +kernel
theorem dX6_cells_6 : decode mX6_cells.2.1 6 = .ok (.iaload, 1) := by decide +kernel
theorem dX6_cells_7 : decode mX6_cells.2.1 7 = .ok (.aload_n 0, 1) := by decide +kernel
theorem dX6_cells_8 : decode mX6_cells.2.1 8 = .ok (.getfield 11, 3) := by decide +kernel
theorem dX6_cells_11 : decode mX6_cells.2.1 11 = .ok (.bipush 59, 2) := by decide +kernel
theorem dX6_cells_13 : decode mX6_cells.2.1 13 = .ok (.iaload, 1) := by decide +kernel
theorem dX6_cells_14 : decode mX6_cells.2.1 14 = .ok (.imul, 1) := by decide +kernel
theorem dX6_cells_15 : decode mX6_cells.2.1 15 = .ok (.ireturn, 1) := by decide +kernel
abbrev mX6_copy : gz_M := (yX6_copy, cX6_copy, 2, none)
theorem dX6_copy_0 : decode mX6_copy.2.1 0 = .ok (.aload_n 1, 1) := by decide +kernel
theorem dX6_copy_1 : decode mX6_copy.2.1 1 = .ok (.getfield 11, 3) := by decide +kernel
theorem dX6_copy_4 : decode mX6_copy.2.1 4 = .ok (.iconst 0, 1) := by decide +kernel
theorem dX6_copy_5 : decode mX6_copy.2.1 5 = .ok (.aload_n 0, 1) := by decide +kernel
theorem dX6_copy_6 : decode mX6_copy.2.1 6 = .ok (.getfield 11, 3) := by decide +kernel
theorem dX6_copy_9 : decode mX6_copy.2.1 9 = .ok (.iconst 0, 1) := by decide +kernel
theorem dX6_copy_10 : decode mX6_copy.2.1 10 = .ok (.bipush 61, 2) := by decide +kernel
theorem dX6_copy_12 : decode mX6_copy.2.1 12 = .ok (.invokestatic 15, 3) := by decide +kernel
theorem dX6_copy_15 : decode mX6_copy.2.1 15 = .ok (.return_, 1) := by decide +kernel
abbrev mX6_crowd : gz_M := (yX6_crowd, cX6_crowd, 3, some .int)
theorem dX6_crowd_0 : decode mX6_crowd.2.1 0 = .ok (.iconst 0, 1) := by decide +kernel
theorem dX6_crowd_1 : decode mX6_crowd.2.1 1 = .ok (.istore_n 1, 1) := by decide +kernel
theorem dX6_crowd_2 : decode mX6_crowd.2.1 2 = .ok (.iconst 0, 1) := by decide +kernel
theorem dX6_crowd_3 : decode mX6_crowd.2.1 3 = .ok (.istore_n 2, 1) := by decide +kernel
theorem dX6_crowd_4 : decode mX6_crowd.2.1 4 = .ok (.iload_n 2, 1) := by decide +kernel
theorem dX6_crowd_5 : decode mX6_crowd.2.1 5 = .ok (.aload_n 0, 1) := by decide +kernel
theorem dX6_crowd_6 : decode mX6_crowd.2.1 6 = .ok (.getfield 11, 3) := by decide +kernel
theorem dX6_crowd_9 : decode mX6_crowd.2.1 9 = .ok (.bipush 60, 2) := by decide +kernel
theorem dX6_crowd_11 : decode mX6_crowd.2.1 11 = .ok (.iaload, 1) := by decide +kernel
theorem dX6_crowd_12 : decode mX6_crowd.2.1 12 = .ok (.if_icmp .ge 35, 3) := by decide +kernel
theorem dX6_crowd_15 : decode mX6_crowd.2.1 15 = .ok (.aload_n 0, 1) := by decide +kernel
theorem dX6_crowd_16 : decode mX6_crowd.2.1 16 = .ok (.iload_n 2, 1) := by decide +kernel
theorem dX6_crowd_17 : decode mX6_crowd.2.1 17 = .ok (.invokevirtual 33, 3) := by decide +kernel
theorem dX6_crowd_20 : decode mX6_crowd.2.1 20 = .ok (.ifCond .eq 21, 3) := by decide +kernel
theorem dX6_crowd_23 : decode mX6_crowd.2.1 23 = .ok (.iload_n 1, 1) := by decide +kernel
theorem dX6_crowd_24 : decode mX6_crowd.2.1 24 = .ok (.aload_n 0, 1) := by decide +kernel
theorem dX6_crowd_25 : decode mX6_crowd.2.1 25 = .ok (.aload_n 0, 1) := by decide +kernel
theorem dX6_crowd_26 : decode mX6_crowd.2.1 26 = .ok (.getfield 11, 3) := by decide +kernel
theorem dX6_crowd_29 : decode mX6_crowd.2.1 29 = .ok (.bipush 30, 2) := by decide +kernel
theorem dX6_crowd_31 : decode mX6_crowd.2.1 31 = .ok (.iload_n 2, 1) := by decide +kernel
theorem dX6_crowd_32 : decode mX6_crowd.2.1 32 = .ok (.iadd, 1) := by decide +kernel
theorem dX6_crowd_33 : decode mX6_crowd.2.1 33 = .ok (.iaload, 1) := by decide +kernel
theorem dX6_crowd_34 : decode mX6_crowd.2.1 34 = .ok (.invokevirtual 53, 3) := by decide +kernel
theorem dX6_crowd_37 : decode mX6_crowd.2.1 37 = .ok (.invokestatic 63, 3) := by decide +kernel
theorem dX6_crowd_40 : decode mX6_crowd.2.1 40 = .ok (.istore_n 1, 1) := by decide +kernel
theorem dX6_crowd_41 : decode mX6_crowd.2.1 41 = .ok (.iinc 2 1, 3) := by decide +kernel
theorem dX6_crowd_44 : decode mX6_crowd.2.1 44 = .ok (.goto (-40), 3) := by decide +kernel
theorem dX6_crowd_47 : decode mX6_crowd.2.1 47 = .ok (.iload_n 1, 1) := by decide +kernel
theorem dX6_crowd_48 : decode mX6_crowd.2.1 48 = .ok (.ireturn, 1) := by decide +kernel
abbrev mX6_dryCells : gz_M := (yX6_dryCells, cX6_dryCells, 3, some .int)
theorem dX6_dryCells_0 : decode mX6_dryCells.2.1 0 = .ok (.iconst 0, 1) := by decide +kernel
theorem dX6_dryCells_1 : decode mX6_dryCells.2.1 1 = .ok (.istore_n 1, 1) := by decide +kernel
theorem dX6_dryCells_2 : decode mX6_dryCells.2.1 2 = .ok (.iconst 0, 1) := by decide +kernel
theorem dX6_dryCells_3 : decode mX6_dryCells.2.1 3 = .ok (.istore_n 2, 1) := by decide +kernel
theorem dX6_dryCells_4 : decode mX6_dryCells.2.1 4 = .ok (.iload_n 2, 1) := by decide +kernel
theorem dX6_dryCells_5 : decode mX6_dryCells.2.1 5 = .ok (.aload_n 0, 1) := by decide +kernel
theorem dX6_dryCells_6 : decode mX6_dryCells.2.1 6 = .ok (.invokevirtual 21, 3) := by decide +kernel
theorem dX6_dryCells_9 : decode mX6_dryCells.2.1 9 = .ok (.if_icmp .ge 32, 3) := by decide +kernel
theorem dX6_dryCells_12 : decode mX6_dryCells.2.1 12 = .ok (.aload_n 0, 1) := by decide +kernel
theorem dX6_dryCells_13 : decode mX6_dryCells.2.1 13 = .ok (.iload_n 2, 1) := by decide +kernel
theorem dX6_dryCells_14 : decode mX6_dryCells.2.1 14 = .ok (.invokevirtual 49, 3) := by decide +kernel
theorem dX6_dryCells_17 : decode mX6_dryCells.2.1 17 = .ok (.iconst 1, 1) := by decide +kernel
theorem dX6_dryCells_18 : decode mX6_dryCells.2.1 18 = .ok (.if_icmp .eq 17, 3) := by decide +kernel
theorem dX6_dryCells_21 : decode mX6_dryCells.2.1 21 = .ok (.aload_n 0, 1) := by decide +kernel
theorem dX6_dryCells_22 : decode mX6_dryCells.2.1 22 = .ok (.iload_n 2, 1) := by decide +kernel
theorem dX6_dryCells_23 : decode mX6_dryCells.2.1 23 = .ok (.invokevirtual 39, 3) := by decide +kernel
theorem dX6_dryCells_26 : decode mX6_dryCells.2.1 26 = .ok (.ifCond .ne 9, 3) := by decide +kernel
theorem dX6_dryCells_29 : decode mX6_dryCells.2.1 29 = .ok (.iload_n 1, 1) := by decide +kernel
theorem dX6_dryCells_30 : decode mX6_dryCells.2.1 30 = .ok (.iconst 1, 1) := by decide +kernel
theorem dX6_dryCells_31 : decode mX6_dryCells.2.1 31 = .ok (.iload_n 2, 1) := by decide +kernel
theorem dX6_dryCells_32 : decode mX6_dryCells.2.1 32 = .ok (.ishl, 1) := by decide +kernel
theorem dX6_dryCells_33 : decode mX6_dryCells.2.1 33 = .ok (.ior, 1) := by decide +kernel
theorem dX6_dryCells_34 : decode mX6_dryCells.2.1 34 = .ok (.istore_n 1, 1) := by decide +kernel
theorem dX6_dryCells_35 : decode mX6_dryCells.2.1 35 = .ok (.iinc 2 1, 3) := by decide +kernel
theorem dX6_dryCells_38 : decode mX6_dryCells.2.1 38 = .ok (.goto (-34), 3) := by decide +kernel
theorem dX6_dryCells_41 : decode mX6_dryCells.2.1 41 = .ok (.iload_n 1, 1) := by decide +kernel
theorem dX6_dryCells_42 : decode mX6_dryCells.2.1 42 = .ok (.ireturn, 1) := by decide +kernel
abbrev mX6_dryParts : gz_M := (yX6_dryParts, cX6_dryParts, 4, some .int)
theorem dX6_dryParts_0 : decode mX6_dryParts.2.1 0 = .ok (.aload_n 0, 1) := by decide +kernel
theorem dX6_dryParts_1 : decode mX6_dryParts.2.1 1 = .ok (.invokevirtual 75, 3) := by decide +kernel
theorem dX6_dryParts_4 : decode mX6_dryParts.2.1 4 = .ok (.istore_n 1, 1) := by decide +kernel
theorem dX6_dryParts_5 : decode mX6_dryParts.2.1 5 = .ok (.iconst 0, 1) := by decide +kernel
theorem dX6_dryParts_6 : decode mX6_dryParts.2.1 6 = .ok (.istore_n 2, 1) := by decide +kernel
theorem dX6_dryParts_7 : decode mX6_dryParts.2.1 7 = .ok (.iconst 0, 1) := by decide +kernel
theorem dX6_dryParts_8 : decode mX6_dryParts.2.1 8 = .ok (.istore_n 3, 1) := by decide +kernel
theorem dX6_dryParts_9 : decode mX6_dryParts.2.1 9 = .ok (.iload_n 3, 1) := by decide +kernel
theorem dX6_dryParts_10 : decode mX6_dryParts.2.1 10 = .ok (.aload_n 0, 1) := by decide +kernel
theorem dX6_dryParts_11 : decode mX6_dryParts.2.1 11 = .ok (.invokevirtual 21, 3) := by decide +kernel
theorem dX6_dryParts_14 : decode mX6_dryParts.2.1 14 = .ok (.if_icmp .ge 33, 3) := by decide +kernel
theorem dX6_dryParts_17 : decode mX6_dryParts.2.1 17 = .ok (.iload_n 1, 1) := by decide +kernel
theorem dX6_dryParts_18 : decode mX6_dryParts.2.1 18 = .ok (.iload_n 3, 1) := by decide +kernel
theorem dX6_dryParts_19 : decode mX6_dryParts.2.1 19 = .ok (.ishr, 1) := by decide +kernel
theorem dX6_dryParts_20 : decode mX6_dryParts.2.1 20 = .ok (.iconst 1, 1) := by decide +kernel
theorem dX6_dryParts_21 : decode mX6_dryParts.2.1 21 = .ok (.iand, 1) := by decide +kernel
theorem dX6_dryParts_22 : decode mX6_dryParts.2.1 22 = .ok (.ifCond .eq 19, 3) := by decide +kernel
theorem dX6_dryParts_25 : decode mX6_dryParts.2.1 25 = .ok (.iload_n 1, 1) := by decide +kernel
theorem dX6_dryParts_26 : decode mX6_dryParts.2.1 26 = .ok (.aload_n 0, 1) := by decide +kernel
theorem dX6_dryParts_27 : decode mX6_dryParts.2.1 27 = .ok (.iconst 1, 1) := by decide +kernel
theorem dX6_dryParts_28 : decode mX6_dryParts.2.1 28 = .ok (.iload_n 3, 1) := by decide +kernel
theorem dX6_dryParts_29 : decode mX6_dryParts.2.1 29 = .ok (.ishl, 1) := by decide +kernel
theorem dX6_dryParts_30 : decode mX6_dryParts.2.1 30 = .ok (.iload_n 1, 1) := by decide +kernel
theorem dX6_dryParts_31 : decode mX6_dryParts.2.1 31 = .ok (.invokevirtual 78, 3) := by decide +kernel
theorem dX6_dryParts_34 : decode mX6_dryParts.2.1 34 = .ok (.iconst (-1), 1) := by decide +kernel
theorem dX6_dryParts_35 : decode mX6_dryParts.2.1 35 = .ok (.ixor, 1) := by decide +kernel
theorem dX6_dryParts_36 : decode mX6_dryParts.2.1 36 = .ok (.iand, 1) := by decide +kernel
theorem dX6_dryParts_37 : decode mX6_dryParts.2.1 37 = .ok (.istore_n 1, 1) := by decide +kernel
theorem dX6_dryParts_38 : decode mX6_dryParts.2.1 38 = .ok (.iinc 2 1, 3) := by decide +kernel
theorem dX6_dryParts_41 : decode mX6_dryParts.2.1 41 = .ok (.iinc 3 1, 3) := by decide +kernel
theorem dX6_dryParts_44 : decode mX6_dryParts.2.1 44 = .ok (.goto (-35), 3) := by decide +kernel
theorem dX6_dryParts_47 : decode mX6_dryParts.2.1 47 = .ok (.iload_n 2, 1) := by decide +kernel
theorem dX6_dryParts_48 : decode mX6_dryParts.2.1 48 = .ok (.ireturn, 1) := by decide +kernel
abbrev mX6_faced : gz_M := (yX6_faced, cX6_faced, 4, some .int)
theorem dX6_faced_0 : decode mX6_faced.2.1 0 = .ok (.iconst 0, 1) := by decide +kernel
theorem dX6_faced_1 : decode mX6_faced.2.1 1 = .ok (.istore_n 1, 1) := by decide +kernel
theorem dX6_faced_2 : decode mX6_faced.2.1 2 = .ok (.iconst 0, 1) := by decide +kernel
theorem dX6_faced_3 : decode mX6_faced.2.1 3 = .ok (.istore_n 2, 1) := by decide +kernel
theorem dX6_faced_4 : decode mX6_faced.2.1 4 = .ok (.iload_n 2, 1) := by decide +kernel
theorem dX6_faced_5 : decode mX6_faced.2.1 5 = .ok (.aload_n 0, 1) := by decide +kernel
theorem dX6_faced_6 : decode mX6_faced.2.1 6 = .ok (.getfield 11, 3) := by decide +kernel
theorem dX6_faced_9 : decode mX6_faced.2.1 9 = .ok (.bipush 60, 2) := by decide +kernel
theorem dX6_faced_11 : decode mX6_faced.2.1 11 = .ok (.iaload, 1) := by decide +kernel
theorem dX6_faced_12 : decode mX6_faced.2.1 12 = .ok (.if_icmp .ge 67, 3) := by decide +kernel
theorem dX6_faced_15 : decode mX6_faced.2.1 15 = .ok (.iload_n 2, 1) := by decide +kernel
theorem dX6_faced_16 : decode mX6_faced.2.1 16 = .ok (.iconst 1, 1) := by decide +kernel
theorem dX6_faced_17 : decode mX6_faced.2.1 17 = .ok (.iadd, 1) := by decide +kernel
theorem dX6_faced_18 : decode mX6_faced.2.1 18 = .ok (.istore_n 3, 1) := by decide +kernel
theorem dX6_faced_19 : decode mX6_faced.2.1 19 = .ok (.iload_n 3, 1) := by decide +kernel
theorem dX6_faced_20 : decode mX6_faced.2.1 20 = .ok (.aload_n 0, 1) := by decide +kernel
theorem dX6_faced_21 : decode mX6_faced.2.1 21 = .ok (.getfield 11, 3) := by decide +kernel
theorem dX6_faced_24 : decode mX6_faced.2.1 24 = .ok (.bipush 60, 2) := by decide +kernel
theorem dX6_faced_26 : decode mX6_faced.2.1 26 = .ok (.iaload, 1) := by decide +kernel
theorem dX6_faced_27 : decode mX6_faced.2.1 27 = .ok (.if_icmp .ge 46, 3) := by decide +kernel
theorem dX6_faced_30 : decode mX6_faced.2.1 30 = .ok (.aload_n 0, 1) := by decide +kernel
theorem dX6_faced_31 : decode mX6_faced.2.1 31 = .ok (.iload_n 2, 1) := by decide +kernel
theorem dX6_faced_32 : decode mX6_faced.2.1 32 = .ok (.invokevirtual 33, 3) := by decide +kernel
theorem dX6_faced_35 : decode mX6_faced.2.1 35 = .ok (.ifCond .eq 32, 3) := by decide +kernel
theorem dX6_faced_38 : decode mX6_faced.2.1 38 = .ok (.aload_n 0, 1) := by decide +kernel
theorem dX6_faced_39 : decode mX6_faced.2.1 39 = .ok (.iload_n 3, 1) := by decide +kernel
theorem dX6_faced_40 : decode mX6_faced.2.1 40 = .ok (.invokevirtual 33, 3) := by decide +kernel
theorem dX6_faced_43 : decode mX6_faced.2.1 43 = .ok (.ifCond .eq 24, 3) := by decide +kernel
theorem dX6_faced_46 : decode mX6_faced.2.1 46 = .ok (.aload_n 0, 1) := by decide +kernel
theorem dX6_faced_47 : decode mX6_faced.2.1 47 = .ok (.iload_n 2, 1) := by decide +kernel
theorem dX6_faced_48 : decode mX6_faced.2.1 48 = .ok (.iload_n 3, 1) := by decide +kernel
theorem dX6_faced_49 : decode mX6_faced.2.1 49 = .ok (.invokevirtual 69, 3) := by decide +kernel
theorem dX6_faced_52 : decode mX6_faced.2.1 52 = .ok (.ifCond .eq 15, 3) := by decide +kernel
theorem dX6_faced_55 : decode mX6_faced.2.1 55 = .ok (.aload_n 0, 1) := by decide +kernel
theorem dX6_faced_56 : decode mX6_faced.2.1 56 = .ok (.iload_n 3, 1) := by decide +kernel
theorem dX6_faced_57 : decode mX6_faced.2.1 57 = .ok (.iload_n 2, 1) := by decide +kernel
theorem dX6_faced_58 : decode mX6_faced.2.1 58 = .ok (.invokevirtual 69, 3) := by decide +kernel
theorem dX6_faced_61 : decode mX6_faced.2.1 61 = .ok (.ifCond .eq 6, 3) := by decide +kernel
theorem dX6_faced_64 : decode mX6_faced.2.1 64 = .ok (.iinc 1 1, 3) := by decide +kernel
theorem dX6_faced_67 : decode mX6_faced.2.1 67 = .ok (.iinc 3 1, 3) := by decide +kernel
theorem dX6_faced_70 : decode mX6_faced.2.1 70 = .ok (.goto (-51), 3) := by decide +kernel
theorem dX6_faced_73 : decode mX6_faced.2.1 73 = .ok (.iinc 2 1, 3) := by decide +kernel
theorem dX6_faced_76 : decode mX6_faced.2.1 76 = .ok (.goto (-72), 3) := by decide +kernel
theorem dX6_faced_79 : decode mX6_faced.2.1 79 = .ok (.iload_n 1, 1) := by decide +kernel
theorem dX6_faced_80 : decode mX6_faced.2.1 80 = .ok (.ireturn, 1) := by decide +kernel
abbrev mX6_fewestSteps : gz_M := (yX6_fewestSteps, cX6_fewestSteps, 6, some .int)
theorem dX6_fewestSteps_0 : decode mX6_fewestSteps.2.1 0 = .ok (.aload_n 0, 1) := by decide +kernel
theorem dX6_fewestSteps_1 : decode mX6_fewestSteps.2.1 1 = .ok (.invokevirtual 75, 3) := by decide +kernel
theorem dX6_fewestSteps_4 : decode mX6_fewestSteps.2.1 4 = .ok (.istore_n 3, 1) := by decide +kernel
theorem dX6_fewestSteps_5 : decode mX6_fewestSteps.2.1 5 = .ok (.iload_n 3, 1) := by decide +kernel
theorem dX6_fewestSteps_6 : decode mX6_fewestSteps.2.1 6 = .ok (.iload_n 1, 1) := by decide +kernel
theorem dX6_fewestSteps_7 : decode mX6_fewestSteps.2.1 7 = .ok (.ishr, 1) := by decide +kernel
theorem dX6_fewestSteps_8 : decode mX6_fewestSteps.2.1 8 = .ok (.iconst 1, 1) := by decide +kernel
theorem dX6_fewestSteps_9 : decode mX6_fewestSteps.2.1 9 = .ok (.iand, 1) := by decide +kernel
theorem dX6_fewestSteps_10 : decode mX6_fewestSteps.2.1 10 = .ok (.ifCond .ne 5, 3) := by decide +kernel
theorem dX6_fewestSteps_13 : decode mX6_fewestSteps.2.1 13 = .ok (.iconst (-1), 1) := by decide +kernel
theorem dX6_fewestSteps_14 : decode mX6_fewestSteps.2.1 14 = .ok (.ireturn, 1) := by decide +kernel
theorem dX6_fewestSteps_15 : decode mX6_fewestSteps.2.1 15 = .ok (.iconst 1, 1) := by decide +kernel
theorem dX6_fewestSteps_16 : decode mX6_fewestSteps.2.1 16 = .ok (.iload_n 1, 1) := by decide +kernel
theorem dX6_fewestSteps_17 : decode mX6_fewestSteps.2.1 17 = .ok (.ishl, 1) := by decide +kernel
theorem dX6_fewestSteps_18 : decode mX6_fewestSteps.2.1 18 = .ok (.istore 4, 2) := by decide +kernel
theorem dX6_fewestSteps_20 : decode mX6_fewestSteps.2.1 20 = .ok (.iconst 0, 1) := by decide +kernel
theorem dX6_fewestSteps_21 : decode mX6_fewestSteps.2.1 21 = .ok (.istore 5, 2) := by decide +kernel
theorem dX6_fewestSteps_23 : decode mX6_fewestSteps.2.1 23 = .ok (.iload 5, 2) := by decide +kernel
theorem dX6_fewestSteps_25 : decode mX6_fewestSteps.2.1 25 = .ok (.bipush 30, 2) := by decide +kernel
theorem dX6_fewestSteps_27 : decode mX6_fewestSteps.2.1 27 = .ok (.if_icmp .ge 30, 3) := by decide +kernel
theorem dX6_fewestSteps_30 : decode mX6_fewestSteps.2.1 30 = .ok (.iload 4, 2) := by decide +kernel
theorem dX6_fewestSteps_32 : decode mX6_fewestSteps.2.1 32 = .ok (.iload_n 2, 1) := by decide +kernel
theorem dX6_fewestSteps_33 : decode mX6_fewestSteps.2.1 33 = .ok (.ishr, 1) := by decide +kernel
theorem dX6_fewestSteps_34 : decode mX6_fewestSteps.2.1 34 = .ok (.iconst 1, 1) := by decide +kernel
theorem dX6_fewestSteps_35 : decode mX6_fewestSteps.2.1 35 = .ok (.iand, 1) := by decide +kernel
theorem dX6_fewestSteps_36 : decode mX6_fewestSteps.2.1 36 = .ok (.ifCond .eq 6, 3) := by decide +kernel
theorem dX6_fewestSteps_39 : decode mX6_fewestSteps.2.1 39 = .ok (.iload 5, 2) := by decide +kernel
theorem dX6_fewestSteps_41 : decode mX6_fewestSteps.2.1 41 = .ok (.ireturn, 1) := by decide +kernel
theorem dX6_fewestSteps_42 : decode mX6_fewestSteps.2.1 42 = .ok (.aload_n 0, 1) := by decide +kernel
theorem dX6_fewestSteps_43 : decode mX6_fewestSteps.2.1 43 = .ok (.iload 4, 2) := by decide +kernel
theorem dX6_fewestSteps_45 : decode mX6_fewestSteps.2.1 45 = .ok (.iload_n 3, 1) := by decide +kernel
theorem dX6_fewestSteps_46 : decode mX6_fewestSteps.2.1 46 = .ok (.invokevirtual 81, 3) := by decide +kernel
theorem dX6_fewestSteps_49 : decode mX6_fewestSteps.2.1 49 = .ok (.istore 4, 2) := by decide +kernel
theorem dX6_fewestSteps_51 : decode mX6_fewestSteps.2.1 51 = .ok (.iinc 5 1, 3) := by decide +kernel
theorem dX6_fewestSteps_54 : decode mX6_fewestSteps.2.1 54 = .ok (.goto (-31), 3) := by decide +kernel
theorem dX6_fewestSteps_57 : decode mX6_fewestSteps.2.1 57 = .ok (.iconst (-1), 1) := by decide +kernel
theorem dX6_fewestSteps_58 : decode mX6_fewestSteps.2.1 58 = .ok (.ireturn, 1) := by decide +kernel
abbrev mX6_goerWithMost : gz_M := (yX6_goerWithMost, cX6_goerWithMost, 4, some .int)
theorem dX6_goerWithMost_0 : decode mX6_goerWithMost.2.1 0 = .ok (.iconst 0, 1) := by decide +kernel
theorem dX6_goerWithMost_1 : decode mX6_goerWithMost.2.1 1 = .ok (.istore_n 2, 1) := by decide +kernel
theorem dX6_goerWithMost_2 : decode mX6_goerWithMost.2.1 2 = .ok (.iconst 1, 1) := by decide +kernel
theorem dX6_goerWithMost_3 : decode mX6_goerWithMost.2.1 3 = .ok (.istore_n 3, 1) := by decide +kernel
theorem dX6_goerWithMost_4 : decode mX6_goerWithMost.2.1 4 = .ok (.iload_n 3, 1) := by decide +kernel
theorem dX6_goerWithMost_5 : decode mX6_goerWithMost.2.1 5 = .ok (.aload_n 0, 1) := by decide +kernel
theorem dX6_goerWithMost_6 : decode mX6_goerWithMost.2.1 6 = .ok (.getfield 11, 3) := by decide +kernel
theorem dX6_goerWithMost_9 : decode mX6_goerWithMost.2.1 9 = .ok (.bipush 60, 2) := by decide +kernel
theorem dX6_goerWithMost_11 : decode mX6_goerWithMost.2.1 11 = .ok (.iaload, 1) := by decide +kernel
theorem dX6_goerWithMost_12 : decode mX6_goerWithMost.2.1 12 = .ok (.if_icmp .ge 30, 3) := by decide +kernel
theorem dX6_goerWithMost_15 : decode mX6_goerWithMost.2.1 15 = .ok (.aload_n 0, 1) := by decide +kernel
theorem dX6_goerWithMost_16 : decode mX6_goerWithMost.2.1 16 = .ok (.getfield 11, 3) := by decide +kernel
theorem dX6_goerWithMost_19 : decode mX6_goerWithMost.2.1 19 = .ok (.iload_n 1, 1) := by decide +kernel
theorem dX6_goerWithMost_20 : decode mX6_goerWithMost.2.1 20 = .ok (.iload_n 3, 1) := by decide +kernel
theorem dX6_goerWithMost_21 : decode mX6_goerWithMost.2.1 21 = .ok (.iadd, 1) := by decide +kernel
theorem dX6_goerWithMost_22 : decode mX6_goerWithMost.2.1 22 = .ok (.iaload, 1) := by decide +kernel
theorem dX6_goerWithMost_23 : decode mX6_goerWithMost.2.1 23 = .ok (.aload_n 0, 1) := by decide +kernel
theorem dX6_goerWithMost_24 : decode mX6_goerWithMost.2.1 24 = .ok (.getfield 11, 3) := by decide +kernel
theorem dX6_goerWithMost_27 : decode mX6_goerWithMost.2.1 27 = .ok (.iload_n 1, 1) := by decide +kernel
theorem dX6_goerWithMost_28 : decode mX6_goerWithMost.2.1 28 = .ok (.iload_n 2, 1) := by decide +kernel
theorem dX6_goerWithMost_29 : decode mX6_goerWithMost.2.1 29 = .ok (.iadd, 1) := by decide +kernel
theorem dX6_goerWithMost_30 : decode mX6_goerWithMost.2.1 30 = .ok (.iaload, 1) := by decide +kernel
theorem dX6_goerWithMost_31 : decode mX6_goerWithMost.2.1 31 = .ok (.if_icmp .le 5, 3) := by decide +kernel
theorem dX6_goerWithMost_34 : decode mX6_goerWithMost.2.1 34 = .ok (.iload_n 3, 1) := by decide +kernel
theorem dX6_goerWithMost_35 : decode mX6_goerWithMost.2.1 35 = .ok (.istore_n 2, 1) := by decide +kernel
theorem dX6_goerWithMost_36 : decode mX6_goerWithMost.2.1 36 = .ok (.iinc 3 1, 3) := by decide +kernel
theorem dX6_goerWithMost_39 : decode mX6_goerWithMost.2.1 39 = .ok (.goto (-35), 3) := by decide +kernel
theorem dX6_goerWithMost_42 : decode mX6_goerWithMost.2.1 42 = .ok (.iload_n 2, 1) := by decide +kernel
theorem dX6_goerWithMost_43 : decode mX6_goerWithMost.2.1 43 = .ok (.ireturn, 1) := by decide +kernel
abbrev mX6_goersWith : gz_M := (yX6_goersWith, cX6_goersWith, 4, some .int)
theorem dX6_goersWith_0 : decode mX6_goersWith.2.1 0 = .ok (.iconst 0, 1) := by decide +kernel
theorem dX6_goersWith_1 : decode mX6_goersWith.2.1 1 = .ok (.istore_n 2, 1) := by decide +kernel
theorem dX6_goersWith_2 : decode mX6_goersWith.2.1 2 = .ok (.iconst 0, 1) := by decide +kernel
theorem dX6_goersWith_3 : decode mX6_goersWith.2.1 3 = .ok (.istore_n 3, 1) := by decide +kernel
theorem dX6_goersWith_4 : decode mX6_goersWith.2.1 4 = .ok (.iload_n 3, 1) := by decide +kernel
theorem dX6_goersWith_5 : decode mX6_goersWith.2.1 5 = .ok (.aload_n 0, 1) := by decide +kernel
theorem dX6_goersWith_6 : decode mX6_goersWith.2.1 6 = .ok (.getfield 11, 3) := by decide +kernel
theorem dX6_goersWith_9 : decode mX6_goersWith.2.1 9 = .ok (.bipush 60, 2) := by decide +kernel
theorem dX6_goersWith_11 : decode mX6_goersWith.2.1 11 = .ok (.iaload, 1) := by decide +kernel
theorem dX6_goersWith_12 : decode mX6_goersWith.2.1 12 = .ok (.if_icmp .ge 28, 3) := by decide +kernel
theorem dX6_goersWith_15 : decode mX6_goersWith.2.1 15 = .ok (.aload_n 0, 1) := by decide +kernel
theorem dX6_goersWith_16 : decode mX6_goersWith.2.1 16 = .ok (.getfield 11, 3) := by decide +kernel
theorem dX6_goersWith_19 : decode mX6_goersWith.2.1 19 = .ok (.bipush 42, 2) := by decide +kernel
theorem dX6_goersWith_21 : decode mX6_goersWith.2.1 21 = .ok (.iload_n 3, 1) := by decide +kernel
theorem dX6_goersWith_22 : decode mX6_goersWith.2.1 22 = .ok (.iadd, 1) := by decide +kernel
theorem dX6_goersWith_23 : decode mX6_goersWith.2.1 23 = .ok (.iaload, 1) := by decide +kernel
theorem dX6_goersWith_24 : decode mX6_goersWith.2.1 24 = .ok (.iload_n 1, 1) := by decide +kernel
theorem dX6_goersWith_25 : decode mX6_goersWith.2.1 25 = .ok (.if_icmp .ne 9, 3) := by decide +kernel
theorem dX6_goersWith_28 : decode mX6_goersWith.2.1 28 = .ok (.iload_n 2, 1) := by decide +kernel
theorem dX6_goersWith_29 : decode mX6_goersWith.2.1 29 = .ok (.iconst 1, 1) := by decide +kernel
theorem dX6_goersWith_30 : decode mX6_goersWith.2.1 30 = .ok (.iload_n 3, 1) := by decide +kernel
theorem dX6_goersWith_31 : decode mX6_goersWith.2.1 31 = .ok (.ishl, 1) := by decide +kernel
theorem dX6_goersWith_32 : decode mX6_goersWith.2.1 32 = .ok (.ior, 1) := by decide +kernel
theorem dX6_goersWith_33 : decode mX6_goersWith.2.1 33 = .ok (.istore_n 2, 1) := by decide +kernel
theorem dX6_goersWith_34 : decode mX6_goersWith.2.1 34 = .ok (.iinc 3 1, 3) := by decide +kernel
theorem dX6_goersWith_37 : decode mX6_goersWith.2.1 37 = .ok (.goto (-33), 3) := by decide +kernel
theorem dX6_goersWith_40 : decode mX6_goersWith.2.1 40 = .ok (.iload_n 2, 1) := by decide +kernel
theorem dX6_goersWith_41 : decode mX6_goersWith.2.1 41 = .ok (.ireturn, 1) := by decide +kernel
abbrev mX6_goes : gz_M := (yX6_goes, cX6_goes, 2, some .boolean)
theorem dX6_goes_0 : decode mX6_goes.2.1 0 = .ok (.aload_n 0, 1) := by decide +kernel
theorem dX6_goes_1 : decode mX6_goes.2.1 1 = .ok (.getfield 11, 3) := by decide +kernel
theorem dX6_goes_4 : decode mX6_goes.2.1 4 = .ok (.bipush 42, 2) := by decide +kernel
theorem dX6_goes_6 : decode mX6_goes.2.1 6 = .ok (.iload_n 1, 1) := by decide +kernel
theorem dX6_goes_7 : decode mX6_goes.2.1 7 = .ok (.iadd, 1) := by decide +kernel
theorem dX6_goes_8 : decode mX6_goes.2.1 8 = .ok (.iaload, 1) := by decide +kernel
theorem dX6_goes_9 : decode mX6_goes.2.1 9 = .ok (.ifCond .ne 7, 3) := by decide +kernel
theorem dX6_goes_12 : decode mX6_goes.2.1 12 = .ok (.iconst 1, 1) := by decide +kernel
theorem dX6_goes_13 : decode mX6_goes.2.1 13 = .ok (.goto 4, 3) := by decide +kernel
theorem dX6_goes_16 : decode mX6_goes.2.1 16 = .ok (.iconst 0, 1) := by decide +kernel
theorem dX6_goes_17 : decode mX6_goes.2.1 17 = .ok (.ireturn, 1) := by decide +kernel
abbrev mX6_goesOn : gz_M := (yX6_goesOn, cX6_goesOn, 3, some .boolean)
theorem dX6_goesOn_0 : decode mX6_goesOn.2.1 0 = .ok (.aload_n 0, 1) := by decide +kernel
theorem dX6_goesOn_1 : decode mX6_goesOn.2.1 1 = .ok (.getfield 11, 3) := by decide +kernel
theorem dX6_goesOn_4 : decode mX6_goesOn.2.1 4 = .ok (.bipush 42, 2) := by decide +kernel
theorem dX6_goesOn_6 : decode mX6_goesOn.2.1 6 = .ok (.iload_n 1, 1) := by decide +kernel
theorem dX6_goesOn_7 : decode mX6_goesOn.2.1 7 = .ok (.iadd, 1) := by decide +kernel
theorem dX6_goesOn_8 : decode mX6_goesOn.2.1 8 = .ok (.iaload, 1) := by decide +kernel
theorem dX6_goesOn_9 : decode mX6_goesOn.2.1 9 = .ok (.ifCond .ne 20, 3) := by decide +kernel
theorem dX6_goesOn_12 : decode mX6_goesOn.2.1 12 = .ok (.aload_n 0, 1) := by decide +kernel
theorem dX6_goesOn_13 : decode mX6_goesOn.2.1 13 = .ok (.getfield 11, 3) := by decide +kernel
theorem dX6_goesOn_16 : decode mX6_goesOn.2.1 16 = .ok (.bipush 30, 2) := by decide +kernel
theorem dX6_goesOn_18 : decode mX6_goesOn.2.1 18 = .ok (.iload_n 1, 1) := by decide +kernel
theorem dX6_goesOn_19 : decode mX6_goesOn.2.1 19 = .ok (.iadd, 1) := by decide +kernel
theorem dX6_goesOn_20 : decode mX6_goesOn.2.1 20 = .ok (.iaload, 1) := by decide +kernel
theorem dX6_goesOn_21 : decode mX6_goesOn.2.1 21 = .ok (.iload_n 2, 1) := by decide +kernel
theorem dX6_goesOn_22 : decode mX6_goesOn.2.1 22 = .ok (.if_icmp .ne 7, 3) := by decide +kernel
theorem dX6_goesOn_25 : decode mX6_goesOn.2.1 25 = .ok (.iconst 1, 1) := by decide +kernel
theorem dX6_goesOn_26 : decode mX6_goesOn.2.1 26 = .ok (.goto 4, 3) := by decide +kernel
theorem dX6_goesOn_29 : decode mX6_goesOn.2.1 29 = .ok (.iconst 0, 1) := by decide +kernel
theorem dX6_goesOn_30 : decode mX6_goesOn.2.1 30 = .ok (.ireturn, 1) := by decide +kernel
abbrev mX6_goingOn : gz_M := (yX6_goingOn, cX6_goingOn, 4, some .int)
theorem dX6_goingOn_0 : decode mX6_goingOn.2.1 0 = .ok (.iconst 0, 1) := by decide +kernel
theorem dX6_goingOn_1 : decode mX6_goingOn.2.1 1 = .ok (.istore_n 2, 1) := by decide +kernel
theorem dX6_goingOn_2 : decode mX6_goingOn.2.1 2 = .ok (.iconst 0, 1) := by decide +kernel
theorem dX6_goingOn_3 : decode mX6_goingOn.2.1 3 = .ok (.istore_n 3, 1) := by decide +kernel
theorem dX6_goingOn_4 : decode mX6_goingOn.2.1 4 = .ok (.iload_n 3, 1) := by decide +kernel
theorem dX6_goingOn_5 : decode mX6_goingOn.2.1 5 = .ok (.aload_n 0, 1) := by decide +kernel
theorem dX6_goingOn_6 : decode mX6_goingOn.2.1 6 = .ok (.getfield 11, 3) := by decide +kernel
theorem dX6_goingOn_9 : decode mX6_goingOn.2.1 9 = .ok (.bipush 60, 2) := by decide +kernel
theorem dX6_goingOn_11 : decode mX6_goingOn.2.1 11 = .ok (.iaload, 1) := by decide +kernel
theorem dX6_goingOn_12 : decode mX6_goingOn.2.1 12 = .ok (.if_icmp .ge 21, 3) := by decide +kernel
theorem dX6_goingOn_15 : decode mX6_goingOn.2.1 15 = .ok (.aload_n 0, 1) := by decide +kernel
theorem dX6_goingOn_16 : decode mX6_goingOn.2.1 16 = .ok (.iload_n 3, 1) := by decide +kernel
theorem dX6_goingOn_17 : decode mX6_goingOn.2.1 17 = .ok (.iload_n 1, 1) := by decide +kernel
theorem dX6_goingOn_18 : decode mX6_goingOn.2.1 18 = .ok (.invokevirtual 36, 3) := by decide +kernel
theorem dX6_goingOn_21 : decode mX6_goingOn.2.1 21 = .ok (.ifCond .eq 6, 3) := by decide +kernel
theorem dX6_goingOn_24 : decode mX6_goingOn.2.1 24 = .ok (.iinc 2 1, 3) := by decide +kernel
theorem dX6_goingOn_27 : decode mX6_goingOn.2.1 27 = .ok (.iinc 3 1, 3) := by decide +kernel
theorem dX6_goingOn_30 : decode mX6_goingOn.2.1 30 = .ok (.goto (-26), 3) := by decide +kernel
theorem dX6_goingOn_33 : decode mX6_goingOn.2.1 33 = .ok (.iload_n 2, 1) := by decide +kernel
theorem dX6_goingOn_34 : decode mX6_goingOn.2.1 34 = .ok (.ireturn, 1) := by decide +kernel
abbrev mX6_hasCell : gz_M := (yX6_hasCell, cX6_hasCell, 2, some .boolean)
theorem dX6_hasCell_0 : decode mX6_hasCell.2.1 0 = .ok (.iload_n 1, 1) := by decide +kernel
theorem dX6_hasCell_1 : decode mX6_hasCell.2.1 1 = .ok (.ifCond .lt 15, 3) := by decide +kernel
theorem dX6_hasCell_4 : decode mX6_hasCell.2.1 4 = .ok (.iload_n 1, 1) := by decide +kernel
theorem dX6_hasCell_5 : decode mX6_hasCell.2.1 5 = .ok (.aload_n 0, 1) := by decide +kernel
theorem dX6_hasCell_6 : decode mX6_hasCell.2.1 6 = .ok (.invokevirtual 21, 3) := by decide +kernel
theorem dX6_hasCell_9 : decode mX6_hasCell.2.1 9 = .ok (.if_icmp .ge 7, 3) := by decide +kernel
theorem dX6_hasCell_12 : decode mX6_hasCell.2.1 12 = .ok (.iconst 1, 1) := by decide +kernel
theorem dX6_hasCell_13 : decode mX6_hasCell.2.1 13 = .ok (.goto 4, 3) := by decide +kernel
theorem dX6_hasCell_16 : decode mX6_hasCell.2.1 16 = .ok (.iconst 0, 1) := by decide +kernel
theorem dX6_hasCell_17 : decode mX6_hasCell.2.1 17 = .ok (.ireturn, 1) := by decide +kernel
abbrev mX6_hasGoer : gz_M := (yX6_hasGoer, cX6_hasGoer, 2, some .boolean)
theorem dX6_hasGoer_0 : decode mX6_hasGoer.2.1 0 = .ok (.iload_n 1, 1) := by decide +kernel
theorem dX6_hasGoer_1 : decode mX6_hasGoer.2.1 1 = .ok (.ifCond .lt 18, 3) := by decide +kernel
theorem dX6_hasGoer_4 : decode mX6_hasGoer.2.1 4 = .ok (.iload_n 1, 1) := by decide +kernel
theorem dX6_hasGoer_5 : decode mX6_hasGoer.2.1 5 = .ok (.aload_n 0, 1) := by decide +kernel
theorem dX6_hasGoer_6 : decode mX6_hasGoer.2.1 6 = .ok (.getfield 11, 3) := by decide +kernel
theorem dX6_hasGoer_9 : decode mX6_hasGoer.2.1 9 = .ok (.bipush 60, 2) := by decide +kernel
theorem dX6_hasGoer_11 : decode mX6_hasGoer.2.1 11 = .ok (.iaload, 1) := by decide +kernel
theorem dX6_hasGoer_12 : decode mX6_hasGoer.2.1 12 = .ok (.if_icmp .ge 7, 3) := by decide +kernel
theorem dX6_hasGoer_15 : decode mX6_hasGoer.2.1 15 = .ok (.iconst 1, 1) := by decide +kernel
theorem dX6_hasGoer_16 : decode mX6_hasGoer.2.1 16 = .ok (.goto 4, 3) := by decide +kernel
theorem dX6_hasGoer_19 : decode mX6_hasGoer.2.1 19 = .ok (.iconst 0, 1) := by decide +kernel
theorem dX6_hasGoer_20 : decode mX6_hasGoer.2.1 20 = .ok (.ireturn, 1) := by decide +kernel
abbrev mX6_hasGoingPair : gz_M := (yX6_hasGoingPair, cX6_hasGoingPair, 3, some .boolean)
theorem dX6_hasGoingPair_0 : decode mX6_hasGoingPair.2.1 0 = .ok (.aload_n 0, 1) := by decide +kernel
theorem dX6_hasGoingPair_1 : decode mX6_hasGoingPair.2.1 1 = .ok (.iload_n 1, 1) := by decide +kernel
theorem dX6_hasGoingPair_2 : decode mX6_hasGoingPair.2.1 2 = .ok (.iload_n 2, 1) := by decide +kernel
theorem dX6_hasGoingPair_3 : decode mX6_hasGoingPair.2.1 3 = .ok (.invokevirtual 29, 3) := by decide +kernel
theorem dX6_hasGoingPair_6 : decode mX6_hasGoingPair.2.1 6 = .ok (.ifCond .eq 23, 3) := by decide +kernel
theorem dX6_hasGoingPair_9 : decode mX6_hasGoingPair.2.1 9 = .ok (.aload_n 0, 1) := by decide +kernel
theorem dX6_hasGoingPair_10 : decode mX6_hasGoingPair.2.1 10 = .ok (.iload_n 1, 1) := by decide +kernel
theorem dX6_hasGoingPair_11 : decode mX6_hasGoingPair.2.1 11 = .ok (.invokevirtual 33, 3) := by decide +kernel
theorem dX6_hasGoingPair_14 : decode mX6_hasGoingPair.2.1 14 = .ok (.ifCond .eq 15, 3) := by decide +kernel
theorem dX6_hasGoingPair_17 : decode mX6_hasGoingPair.2.1 17 = .ok (.aload_n 0, 1) := by decide +kernel
theorem dX6_hasGoingPair_18 : decode mX6_hasGoingPair.2.1 18 = .ok (.iload_n 2, 1) := by decide +kernel
theorem dX6_hasGoingPair_19 : decode mX6_hasGoingPair.2.1 19 = .ok (.invokevirtual 33, 3) := by decide +kernel
theorem dX6_hasGoingPair_22 : decode mX6_hasGoingPair.2.1 22 = .ok (.ifCond .eq 7, 3) := by decide +kernel
theorem dX6_hasGoingPair_25 : decode mX6_hasGoingPair.2.1 25 = .ok (.iconst 1, 1) := by decide +kernel
theorem dX6_hasGoingPair_26 : decode mX6_hasGoingPair.2.1 26 = .ok (.goto 4, 3) := by decide +kernel
theorem dX6_hasGoingPair_29 : decode mX6_hasGoingPair.2.1 29 = .ok (.iconst 0, 1) := by decide +kernel
theorem dX6_hasGoingPair_30 : decode mX6_hasGoingPair.2.1 30 = .ok (.ireturn, 1) := by decide +kernel
abbrev mX6_hasPair : gz_M := (yX6_hasPair, cX6_hasPair, 3, some .boolean)
theorem dX6_hasPair_0 : decode mX6_hasPair.2.1 0 = .ok (.aload_n 0, 1) := by decide +kernel
theorem dX6_hasPair_1 : decode mX6_hasPair.2.1 1 = .ok (.iload_n 1, 1) := by decide +kernel
theorem dX6_hasPair_2 : decode mX6_hasPair.2.1 2 = .ok (.invokevirtual 25, 3) := by decide +kernel
theorem dX6_hasPair_5 : decode mX6_hasPair.2.1 5 = .ok (.ifCond .eq 20, 3) := by decide +kernel
theorem dX6_hasPair_8 : decode mX6_hasPair.2.1 8 = .ok (.aload_n 0, 1) := by decide +kernel
theorem dX6_hasPair_9 : decode mX6_hasPair.2.1 9 = .ok (.iload_n 2, 1) := by decide +kernel
theorem dX6_hasPair_10 : decode mX6_hasPair.2.1 10 = .ok (.invokevirtual 25, 3) := by decide +kernel
theorem dX6_hasPair_13 : decode mX6_hasPair.2.1 13 = .ok (.ifCond .eq 12, 3) := by decide +kernel
theorem dX6_hasPair_16 : decode mX6_hasPair.2.1 16 = .ok (.iload_n 1, 1) := by decide +kernel
theorem dX6_hasPair_17 : decode mX6_hasPair.2.1 17 = .ok (.iload_n 2, 1) := by decide +kernel
theorem dX6_hasPair_18 : decode mX6_hasPair.2.1 18 = .ok (.if_icmp .eq 7, 3) := by decide +kernel
theorem dX6_hasPair_21 : decode mX6_hasPair.2.1 21 = .ok (.iconst 1, 1) := by decide +kernel
theorem dX6_hasPair_22 : decode mX6_hasPair.2.1 22 = .ok (.goto 4, 3) := by decide +kernel
theorem dX6_hasPair_25 : decode mX6_hasPair.2.1 25 = .ok (.iconst 0, 1) := by decide +kernel
theorem dX6_hasPair_26 : decode mX6_hasPair.2.1 26 = .ok (.ireturn, 1) := by decide +kernel
abbrev mX6_hasShore : gz_M := (yX6_hasShore, cX6_hasShore, 1, some .boolean)
theorem dX6_hasShore_0 : decode mX6_hasShore.2.1 0 = .ok (.aload_n 0, 1) := by decide +kernel
theorem dX6_hasShore_1 : decode mX6_hasShore.2.1 1 = .ok (.getfield 11, 3) := by decide +kernel
theorem dX6_hasShore_4 : decode mX6_hasShore.2.1 4 = .ok (.bipush 60, 2) := by decide +kernel
theorem dX6_hasShore_6 : decode mX6_hasShore.2.1 6 = .ok (.iaload, 1) := by decide +kernel
theorem dX6_hasShore_7 : decode mX6_hasShore.2.1 7 = .ok (.ifCond .le 7, 3) := by decide +kernel
theorem dX6_hasShore_10 : decode mX6_hasShore.2.1 10 = .ok (.iconst 1, 1) := by decide +kernel
theorem dX6_hasShore_11 : decode mX6_hasShore.2.1 11 = .ok (.goto 4, 3) := by decide +kernel
theorem dX6_hasShore_14 : decode mX6_hasShore.2.1 14 = .ok (.iconst 0, 1) := by decide +kernel
theorem dX6_hasShore_15 : decode mX6_hasShore.2.1 15 = .ok (.ireturn, 1) := by decide +kernel
abbrev mX6_isLook : gz_M := (yX6_isLook, cX6_isLook, 1, some .boolean)
theorem dX6_isLook_0 : decode mX6_isLook.2.1 0 = .ok (.iload_n 0, 1) := by decide +kernel
theorem dX6_isLook_1 : decode mX6_isLook.2.1 1 = .ok (.ifCond .lt 12, 3) := by decide +kernel
theorem dX6_isLook_4 : decode mX6_isLook.2.1 4 = .ok (.iload_n 0, 1) := by decide +kernel
theorem dX6_isLook_5 : decode mX6_isLook.2.1 5 = .ok (.iconst 4, 1) := by decide +kernel
theorem dX6_isLook_6 : decode mX6_isLook.2.1 6 = .ok (.if_icmp .ge 7, 3) := by decide +kernel
theorem dX6_isLook_9 : decode mX6_isLook.2.1 9 = .ok (.iconst 1, 1) := by decide +kernel
theorem dX6_isLook_10 : decode mX6_isLook.2.1 10 = .ok (.goto 4, 3) := by decide +kernel
theorem dX6_isLook_13 : decode mX6_isLook.2.1 13 = .ok (.iconst 0, 1) := by decide +kernel
theorem dX6_isLook_14 : decode mX6_isLook.2.1 14 = .ok (.ireturn, 1) := by decide +kernel
abbrev mX6_kind : gz_M := (yX6_kind, cX6_kind, 2, some .int)
theorem dX6_kind_0 : decode mX6_kind.2.1 0 = .ok (.aload_n 0, 1) := by decide +kernel
theorem dX6_kind_1 : decode mX6_kind.2.1 1 = .ok (.getfield 11, 3) := by decide +kernel
theorem dX6_kind_4 : decode mX6_kind.2.1 4 = .ok (.iconst 0, 1) := by decide +kernel
theorem dX6_kind_5 : decode mX6_kind.2.1 5 = .ok (.iload_n 1, 1) := by decide +kernel
theorem dX6_kind_6 : decode mX6_kind.2.1 6 = .ok (.iadd, 1) := by decide +kernel
theorem dX6_kind_7 : decode mX6_kind.2.1 7 = .ok (.iaload, 1) := by decide +kernel
theorem dX6_kind_8 : decode mX6_kind.2.1 8 = .ok (.ireturn, 1) := by decide +kernel
abbrev mX6_lies : gz_M := (yX6_lies, cX6_lies, 2, some .int)
theorem dX6_lies_0 : decode mX6_lies.2.1 0 = .ok (.iload_n 1, 1) := by decide +kernel
theorem dX6_lies_1 : decode mX6_lies.2.1 1 = .ok (.iconst (-1), 1) := by decide +kernel
theorem dX6_lies_2 : decode mX6_lies.2.1 2 = .ok (.if_icmp .eq 15, 3) := by decide +kernel
theorem dX6_lies_5 : decode mX6_lies.2.1 5 = .ok (.aload_n 0, 1) := by decide +kernel
theorem dX6_lies_6 : decode mX6_lies.2.1 6 = .ok (.getfield 11, 3) := by decide +kernel
theorem dX6_lies_9 : decode mX6_lies.2.1 9 = .ok (.iconst 0, 1) := by decide +kernel
theorem dX6_lies_10 : decode mX6_lies.2.1 10 = .ok (.iload_n 1, 1) := by decide +kernel
theorem dX6_lies_11 : decode mX6_lies.2.1 11 = .ok (.iadd, 1) := by decide +kernel
theorem dX6_lies_12 : decode mX6_lies.2.1 12 = .ok (.iaload, 1) := by decide +kernel
theorem dX6_lies_13 : decode mX6_lies.2.1 13 = .ok (.iconst 1, 1) := by decide +kernel
theorem dX6_lies_14 : decode mX6_lies.2.1 14 = .ok (.if_icmp .ne 5, 3) := by decide +kernel
theorem dX6_lies_17 : decode mX6_lies.2.1 17 = .ok (.iconst 1, 1) := by decide +kernel
theorem dX6_lies_18 : decode mX6_lies.2.1 18 = .ok (.ireturn, 1) := by decide +kernel
theorem dX6_lies_19 : decode mX6_lies.2.1 19 = .ok (.aload_n 0, 1) := by decide +kernel
theorem dX6_lies_20 : decode mX6_lies.2.1 20 = .ok (.iload_n 1, 1) := by decide +kernel
theorem dX6_lies_21 : decode mX6_lies.2.1 21 = .ok (.invokevirtual 39, 3) := by decide +kernel
theorem dX6_lies_24 : decode mX6_lies.2.1 24 = .ok (.ifCond .eq 5, 3) := by decide +kernel
theorem dX6_lies_27 : decode mX6_lies.2.1 27 = .ok (.iconst 2, 1) := by decide +kernel
theorem dX6_lies_28 : decode mX6_lies.2.1 28 = .ok (.ireturn, 1) := by decide +kernel
theorem dX6_lies_29 : decode mX6_lies.2.1 29 = .ok (.aload_n 0, 1) := by decide +kernel
theorem dX6_lies_30 : decode mX6_lies.2.1 30 = .ok (.getfield 11, 3) := by decide +kernel
theorem dX6_lies_33 : decode mX6_lies.2.1 33 = .ok (.iconst 0, 1) := by decide +kernel
theorem dX6_lies_34 : decode mX6_lies.2.1 34 = .ok (.iload_n 1, 1) := by decide +kernel
theorem dX6_lies_35 : decode mX6_lies.2.1 35 = .ok (.iadd, 1) := by decide +kernel
theorem dX6_lies_36 : decode mX6_lies.2.1 36 = .ok (.iaload, 1) := by decide +kernel
theorem dX6_lies_37 : decode mX6_lies.2.1 37 = .ok (.iconst 3, 1) := by decide +kernel
theorem dX6_lies_38 : decode mX6_lies.2.1 38 = .ok (.if_icmp .ne 7, 3) := by decide +kernel
theorem dX6_lies_41 : decode mX6_lies.2.1 41 = .ok (.iconst 3, 1) := by decide +kernel
theorem dX6_lies_42 : decode mX6_lies.2.1 42 = .ok (.goto 4, 3) := by decide +kernel
theorem dX6_lies_45 : decode mX6_lies.2.1 45 = .ok (.iconst 0, 1) := by decide +kernel
theorem dX6_lies_46 : decode mX6_lies.2.1 46 = .ok (.ireturn, 1) := by decide +kernel
abbrev mX6_looksAt : gz_M := (yX6_looksAt, cX6_looksAt, 3, some .boolean)
theorem dX6_looksAt_0 : decode mX6_looksAt.2.1 0 = .ok (.aload_n 0, 1) := by decide +kernel
theorem dX6_looksAt_1 : decode mX6_looksAt.2.1 1 = .ok (.aload_n 0, 1) := by decide +kernel
theorem dX6_looksAt_2 : decode mX6_looksAt.2.1 2 = .ok (.getfield 11, 3) := by decide +kernel
theorem dX6_looksAt_5 : decode mX6_looksAt.2.1 5 = .ok (.bipush 30, 2) := by decide +kernel
theorem dX6_looksAt_7 : decode mX6_looksAt.2.1 7 = .ok (.iload_n 1, 1) := by decide +kernel
theorem dX6_looksAt_8 : decode mX6_looksAt.2.1 8 = .ok (.iadd, 1) := by decide +kernel
theorem dX6_looksAt_9 : decode mX6_looksAt.2.1 9 = .ok (.iaload, 1) := by decide +kernel
theorem dX6_looksAt_10 : decode mX6_looksAt.2.1 10 = .ok (.aload_n 0, 1) := by decide +kernel
theorem dX6_looksAt_11 : decode mX6_looksAt.2.1 11 = .ok (.getfield 11, 3) := by decide +kernel
theorem dX6_looksAt_14 : decode mX6_looksAt.2.1 14 = .ok (.bipush 34, 2) := by decide +kernel
theorem dX6_looksAt_16 : decode mX6_looksAt.2.1 16 = .ok (.iload_n 1, 1) := by decide +kernel
theorem dX6_looksAt_17 : decode mX6_looksAt.2.1 17 = .ok (.iadd, 1) := by decide +kernel
theorem dX6_looksAt_18 : decode mX6_looksAt.2.1 18 = .ok (.iaload, 1) := by decide +kernel
theorem dX6_looksAt_19 : decode mX6_looksAt.2.1 19 = .ok (.invokevirtual 72, 3) := by decide +kernel
theorem dX6_looksAt_22 : decode mX6_looksAt.2.1 22 = .ok (.aload_n 0, 1) := by decide +kernel
theorem dX6_looksAt_23 : decode mX6_looksAt.2.1 23 = .ok (.getfield 11, 3) := by decide +kernel
theorem dX6_looksAt_26 : decode mX6_looksAt.2.1 26 = .ok (.bipush 30, 2) := by decide +kernel
theorem dX6_looksAt_28 : decode mX6_looksAt.2.1 28 = .ok (.iload_n 2, 1) := by decide +kernel
theorem dX6_looksAt_29 : decode mX6_looksAt.2.1 29 = .ok (.iadd, 1) := by decide +kernel
theorem dX6_looksAt_30 : decode mX6_looksAt.2.1 30 = .ok (.iaload, 1) := by decide +kernel
theorem dX6_looksAt_31 : decode mX6_looksAt.2.1 31 = .ok (.if_icmp .ne 7, 3) := by decide +kernel
theorem dX6_looksAt_34 : decode mX6_looksAt.2.1 34 = .ok (.iconst 1, 1) := by decide +kernel
theorem dX6_looksAt_35 : decode mX6_looksAt.2.1 35 = .ok (.goto 4, 3) := by decide +kernel
theorem dX6_looksAt_38 : decode mX6_looksAt.2.1 38 = .ok (.iconst 0, 1) := by decide +kernel
theorem dX6_looksAt_39 : decode mX6_looksAt.2.1 39 = .ok (.ireturn, 1) := by decide +kernel
abbrev mX6_mayBeGiven : gz_M := (yX6_mayBeGiven, cX6_mayBeGiven, 2, some .boolean)
theorem dX6_mayBeGiven_0 : decode mX6_mayBeGiven.2.1 0 = .ok (.aload_n 0, 1) := by decide +kernel
theorem dX6_mayBeGiven_1 : decode mX6_mayBeGiven.2.1 1 = .ok (.invokevirtual 42, 3) := by decide +kernel
theorem dX6_mayBeGiven_4 : decode mX6_mayBeGiven.2.1 4 = .ok (.ifCond .eq 33, 3) := by decide +kernel
theorem dX6_mayBeGiven_7 : decode mX6_mayBeGiven.2.1 7 = .ok (.iload_n 1, 1) := by decide +kernel
theorem dX6_mayBeGiven_8 : decode mX6_mayBeGiven.2.1 8 = .ok (.iconst 1, 1) := by decide +kernel
theorem dX6_mayBeGiven_9 : decode mX6_mayBeGiven.2.1 9 = .ok (.if_icmp .lt 28, 3) := by decide +kernel
theorem dX6_mayBeGiven_12 : decode mX6_mayBeGiven.2.1 12 = .ok (.iload_n 1, 1) := by decide +kernel
theorem dX6_mayBeGiven_13 : decode mX6_mayBeGiven.2.1 13 = .ok (.bipush 50, 2) := by decide +kernel
theorem dX6_mayBeGiven_15 : decode mX6_mayBeGiven.2.1 15 = .ok (.if_icmp .gt 22, 3) := by decide +kernel
theorem dX6_mayBeGiven_18 : decode mX6_mayBeGiven.2.1 18 = .ok (.aload_n 0, 1) := by decide +kernel
theorem dX6_mayBeGiven_19 : decode mX6_mayBeGiven.2.1 19 = .ok (.getfield 11, 3) := by decide +kernel
theorem dX6_mayBeGiven_22 : decode mX6_mayBeGiven.2.1 22 = .ok (.bipush 48, 2) := by decide +kernel
theorem dX6_mayBeGiven_24 : decode mX6_mayBeGiven.2.1 24 = .ok (.iaload, 1) := by decide +kernel
theorem dX6_mayBeGiven_25 : decode mX6_mayBeGiven.2.1 25 = .ok (.iload_n 1, 1) := by decide +kernel
theorem dX6_mayBeGiven_26 : decode mX6_mayBeGiven.2.1 26 = .ok (.iadd, 1) := by decide +kernel
theorem dX6_mayBeGiven_27 : decode mX6_mayBeGiven.2.1 27 = .ok (.sipush 999, 3) := by decide +kernel
theorem dX6_mayBeGiven_30 : decode mX6_mayBeGiven.2.1 30 = .ok (.if_icmp .gt 7, 3) := by decide +kernel
theorem dX6_mayBeGiven_33 : decode mX6_mayBeGiven.2.1 33 = .ok (.iconst 1, 1) := by decide +kernel
theorem dX6_mayBeGiven_34 : decode mX6_mayBeGiven.2.1 34 = .ok (.goto 4, 3) := by decide +kernel
theorem dX6_mayBeGiven_37 : decode mX6_mayBeGiven.2.1 37 = .ok (.iconst 0, 1) := by decide +kernel
theorem dX6_mayBeGiven_38 : decode mX6_mayBeGiven.2.1 38 = .ok (.ireturn, 1) := by decide +kernel
abbrev mX6_mayBegin : gz_M := (yX6_mayBegin, cX6_mayBegin, 3, some .boolean)
theorem dX6_mayBegin_0 : decode mX6_mayBegin.2.1 0 = .ok (.aload_n 0, 1) := by decide +kernel
theorem dX6_mayBegin_1 : decode mX6_mayBegin.2.1 1 = .ok (.iload_n 1, 1) := by decide +kernel
theorem dX6_mayBegin_2 : decode mX6_mayBegin.2.1 2 = .ok (.invokevirtual 25, 3) := by decide +kernel
theorem dX6_mayBegin_5 : decode mX6_mayBegin.2.1 5 = .ok (.ifCond .eq 42, 3) := by decide +kernel
theorem dX6_mayBegin_8 : decode mX6_mayBegin.2.1 8 = .ok (.iload_n 2, 1) := by decide +kernel
theorem dX6_mayBegin_9 : decode mX6_mayBegin.2.1 9 = .ok (.invokestatic 56, 3) := by decide +kernel
theorem dX6_mayBegin_12 : decode mX6_mayBegin.2.1 12 = .ok (.ifCond .eq 35, 3) := by decide +kernel
theorem dX6_mayBegin_15 : decode mX6_mayBegin.2.1 15 = .ok (.aload_n 0, 1) := by decide +kernel
theorem dX6_mayBegin_16 : decode mX6_mayBegin.2.1 16 = .ok (.aload_n 0, 1) := by decide +kernel
theorem dX6_mayBegin_17 : decode mX6_mayBegin.2.1 17 = .ok (.getfield 11, 3) := by decide +kernel
theorem dX6_mayBegin_20 : decode mX6_mayBegin.2.1 20 = .ok (.bipush 54, 2) := by decide +kernel
theorem dX6_mayBegin_22 : decode mX6_mayBegin.2.1 22 = .ok (.iload_n 1, 1) := by decide +kernel
theorem dX6_mayBegin_23 : decode mX6_mayBegin.2.1 23 = .ok (.iadd, 1) := by decide +kernel
theorem dX6_mayBegin_24 : decode mX6_mayBegin.2.1 24 = .ok (.iaload, 1) := by decide +kernel
theorem dX6_mayBegin_25 : decode mX6_mayBegin.2.1 25 = .ok (.invokevirtual 49, 3) := by decide +kernel
theorem dX6_mayBegin_28 : decode mX6_mayBegin.2.1 28 = .ok (.iconst 1, 1) := by decide +kernel
theorem dX6_mayBegin_29 : decode mX6_mayBegin.2.1 29 = .ok (.if_icmp .eq 18, 3) := by decide +kernel
theorem dX6_mayBegin_32 : decode mX6_mayBegin.2.1 32 = .ok (.aload_n 0, 1) := by decide +kernel
theorem dX6_mayBegin_33 : decode mX6_mayBegin.2.1 33 = .ok (.getfield 11, 3) := by decide +kernel
theorem dX6_mayBegin_36 : decode mX6_mayBegin.2.1 36 = .ok (.bipush 48, 2) := by decide +kernel
theorem dX6_mayBegin_38 : decode mX6_mayBegin.2.1 38 = .ok (.iaload, 1) := by decide +kernel
theorem dX6_mayBegin_39 : decode mX6_mayBegin.2.1 39 = .ok (.iconst 3, 1) := by decide +kernel
theorem dX6_mayBegin_40 : decode mX6_mayBegin.2.1 40 = .ok (.if_icmp .lt 7, 3) := by decide +kernel
theorem dX6_mayBegin_43 : decode mX6_mayBegin.2.1 43 = .ok (.iconst 1, 1) := by decide +kernel
theorem dX6_mayBegin_44 : decode mX6_mayBegin.2.1 44 = .ok (.goto 4, 3) := by decide +kernel
theorem dX6_mayBegin_47 : decode mX6_mayBegin.2.1 47 = .ok (.iconst 0, 1) := by decide +kernel
theorem dX6_mayBegin_48 : decode mX6_mayBegin.2.1 48 = .ok (.ireturn, 1) := by decide +kernel
abbrev mX6_mayPassHour : gz_M := (yX6_mayPassHour, cX6_mayPassHour, 1, some .boolean)
theorem dX6_mayPassHour_0 : decode mX6_mayPassHour.2.1 0 = .ok (.aload_n 0, 1) := by decide +kernel
theorem dX6_mayPassHour_1 : decode mX6_mayPassHour.2.1 1 = .ok (.invokevirtual 42, 3) := by decide +kernel
theorem dX6_mayPassHour_4 : decode mX6_mayPassHour.2.1 4 = .ok (.ifCond .eq 20, 3) := by decide +kernel
theorem dX6_mayPassHour_7 : decode mX6_mayPassHour.2.1 7 = .ok (.aload_n 0, 1) := by decide +kernel
theorem dX6_mayPassHour_8 : decode mX6_mayPassHour.2.1 8 = .ok (.getfield 11, 3) := by decide +kernel
theorem dX6_mayPassHour_11 : decode mX6_mayPassHour.2.1 11 = .ok (.bipush 49, 2) := by decide +kernel
theorem dX6_mayPassHour_13 : decode mX6_mayPassHour.2.1 13 = .ok (.iaload, 1) := by decide +kernel
theorem dX6_mayPassHour_14 : decode mX6_mayPassHour.2.1 14 = .ok (.sipush 9999, 3) := by decide +kernel
theorem dX6_mayPassHour_17 : decode mX6_mayPassHour.2.1 17 = .ok (.if_icmp .ge 7, 3) := by decide +kernel
theorem dX6_mayPassHour_20 : decode mX6_mayPassHour.2.1 20 = .ok (.iconst 1, 1) := by decide +kernel
theorem dX6_mayPassHour_21 : decode mX6_mayPassHour.2.1 21 = .ok (.goto 4, 3) := by decide +kernel
theorem dX6_mayPassHour_24 : decode mX6_mayPassHour.2.1 24 = .ok (.iconst 0, 1) := by decide +kernel
theorem dX6_mayPassHour_25 : decode mX6_mayPassHour.2.1 25 = .ok (.ireturn, 1) := by decide +kernel
abbrev mX6_maySweep : gz_M := (yX6_maySweep, cX6_maySweep, 2, some .boolean)
theorem dX6_maySweep_0 : decode mX6_maySweep.2.1 0 = .ok (.aload_n 0, 1) := by decide +kernel
theorem dX6_maySweep_1 : decode mX6_maySweep.2.1 1 = .ok (.iload_n 1, 1) := by decide +kernel
theorem dX6_maySweep_2 : decode mX6_maySweep.2.1 2 = .ok (.invokevirtual 46, 3) := by decide +kernel
theorem dX6_maySweep_5 : decode mX6_maySweep.2.1 5 = .ok (.ifCond .eq 26, 3) := by decide +kernel
theorem dX6_maySweep_8 : decode mX6_maySweep.2.1 8 = .ok (.aload_n 0, 1) := by decide +kernel
theorem dX6_maySweep_9 : decode mX6_maySweep.2.1 9 = .ok (.iload_n 1, 1) := by decide +kernel
theorem dX6_maySweep_10 : decode mX6_maySweep.2.1 10 = .ok (.invokevirtual 53, 3) := by decide +kernel
theorem dX6_maySweep_13 : decode mX6_maySweep.2.1 13 = .ok (.ifCond .le 18, 3) := by decide +kernel
theorem dX6_maySweep_16 : decode mX6_maySweep.2.1 16 = .ok (.aload_n 0, 1) := by decide +kernel
theorem dX6_maySweep_17 : decode mX6_maySweep.2.1 17 = .ok (.getfield 11, 3) := by decide +kernel
theorem dX6_maySweep_20 : decode mX6_maySweep.2.1 20 = .ok (.bipush 48, 2) := by decide +kernel
theorem dX6_maySweep_22 : decode mX6_maySweep.2.1 22 = .ok (.iaload, 1) := by decide +kernel
theorem dX6_maySweep_23 : decode mX6_maySweep.2.1 23 = .ok (.iconst 1, 1) := by decide +kernel
theorem dX6_maySweep_24 : decode mX6_maySweep.2.1 24 = .ok (.if_icmp .lt 7, 3) := by decide +kernel
theorem dX6_maySweep_27 : decode mX6_maySweep.2.1 27 = .ok (.iconst 1, 1) := by decide +kernel
theorem dX6_maySweep_28 : decode mX6_maySweep.2.1 28 = .ok (.goto 4, 3) := by decide +kernel
theorem dX6_maySweep_31 : decode mX6_maySweep.2.1 31 = .ok (.iconst 0, 1) := by decide +kernel
theorem dX6_maySweep_32 : decode mX6_maySweep.2.1 32 = .ok (.ireturn, 1) := by decide +kernel
abbrev mX6_mayTurnStone : gz_M := (yX6_mayTurnStone, cX6_mayTurnStone, 2, some .boolean)
theorem dX6_mayTurnStone_0 : decode mX6_mayTurnStone.2.1 0 = .ok (.aload_n 0, 1) := by decide +kernel
theorem dX6_mayTurnStone_1 : decode mX6_mayTurnStone.2.1 1 = .ok (.iload_n 1, 1) := by decide +kernel
theorem dX6_mayTurnStone_2 : decode mX6_mayTurnStone.2.1 2 = .ok (.invokevirtual 46, 3) := by decide +kernel
theorem dX6_mayTurnStone_5 : decode mX6_mayTurnStone.2.1 5 = .ok (.ifCond .eq 35, 3) := by decide +kernel
theorem dX6_mayTurnStone_8 : decode mX6_mayTurnStone.2.1 8 = .ok (.aload_n 0, 1) := by decide +kernel
theorem dX6_mayTurnStone_9 : decode mX6_mayTurnStone.2.1 9 = .ok (.iload_n 1, 1) := by decide +kernel
theorem dX6_mayTurnStone_10 : decode mX6_mayTurnStone.2.1 10 = .ok (.invokevirtual 49, 3) := by decide +kernel
theorem dX6_mayTurnStone_13 : decode mX6_mayTurnStone.2.1 13 = .ok (.iconst 1, 1) := by decide +kernel
theorem dX6_mayTurnStone_14 : decode mX6_mayTurnStone.2.1 14 = .ok (.if_icmp .gt 26, 3) := by decide +kernel
theorem dX6_mayTurnStone_17 : decode mX6_mayTurnStone.2.1 17 = .ok (.aload_n 0, 1) := by decide +kernel
theorem dX6_mayTurnStone_18 : decode mX6_mayTurnStone.2.1 18 = .ok (.iload_n 1, 1) := by decide +kernel
theorem dX6_mayTurnStone_19 : decode mX6_mayTurnStone.2.1 19 = .ok (.invokevirtual 53, 3) := by decide +kernel
theorem dX6_mayTurnStone_22 : decode mX6_mayTurnStone.2.1 22 = .ok (.ifCond .ne 18, 3) := by decide +kernel
theorem dX6_mayTurnStone_25 : decode mX6_mayTurnStone.2.1 25 = .ok (.aload_n 0, 1) := by decide +kernel
theorem dX6_mayTurnStone_26 : decode mX6_mayTurnStone.2.1 26 = .ok (.getfield 11, 3) := by decide +kernel
theorem dX6_mayTurnStone_29 : decode mX6_mayTurnStone.2.1 29 = .ok (.bipush 48, 2) := by decide +kernel
theorem dX6_mayTurnStone_31 : decode mX6_mayTurnStone.2.1 31 = .ok (.iaload, 1) := by decide +kernel
theorem dX6_mayTurnStone_32 : decode mX6_mayTurnStone.2.1 32 = .ok (.iconst 2, 1) := by decide +kernel
theorem dX6_mayTurnStone_33 : decode mX6_mayTurnStone.2.1 33 = .ok (.if_icmp .lt 7, 3) := by decide +kernel
theorem dX6_mayTurnStone_36 : decode mX6_mayTurnStone.2.1 36 = .ok (.iconst 1, 1) := by decide +kernel
theorem dX6_mayTurnStone_37 : decode mX6_mayTurnStone.2.1 37 = .ok (.goto 4, 3) := by decide +kernel
theorem dX6_mayTurnStone_40 : decode mX6_mayTurnStone.2.1 40 = .ok (.iconst 0, 1) := by decide +kernel
theorem dX6_mayTurnStone_41 : decode mX6_mayTurnStone.2.1 41 = .ok (.ireturn, 1) := by decide +kernel
abbrev mX6_mayTurnTide : gz_M := (yX6_mayTurnTide, cX6_mayTurnTide, 2, some .boolean)
theorem dX6_mayTurnTide_0 : decode mX6_mayTurnTide.2.1 0 = .ok (.aload_n 0, 1) := by decide +kernel
theorem dX6_mayTurnTide_1 : decode mX6_mayTurnTide.2.1 1 = .ok (.invokevirtual 42, 3) := by decide +kernel
theorem dX6_mayTurnTide_4 : decode mX6_mayTurnTide.2.1 4 = .ok (.ifCond .eq 27, 3) := by decide +kernel
theorem dX6_mayTurnTide_7 : decode mX6_mayTurnTide.2.1 7 = .ok (.iload_n 1, 1) := by decide +kernel
theorem dX6_mayTurnTide_8 : decode mX6_mayTurnTide.2.1 8 = .ok (.ifCond .lt 23, 3) := by decide +kernel
theorem dX6_mayTurnTide_11 : decode mX6_mayTurnTide.2.1 11 = .ok (.iload_n 1, 1) := by decide +kernel
theorem dX6_mayTurnTide_12 : decode mX6_mayTurnTide.2.1 12 = .ok (.iconst 5, 1) := by decide +kernel
theorem dX6_mayTurnTide_13 : decode mX6_mayTurnTide.2.1 13 = .ok (.if_icmp .gt 18, 3) := by decide +kernel
theorem dX6_mayTurnTide_16 : decode mX6_mayTurnTide.2.1 16 = .ok (.iload_n 1, 1) := by decide +kernel
theorem dX6_mayTurnTide_17 : decode mX6_mayTurnTide.2.1 17 = .ok (.aload_n 0, 1) := by decide +kernel
theorem dX6_mayTurnTide_18 : decode mX6_mayTurnTide.2.1 18 = .ok (.getfield 11, 3) := by decide +kernel
theorem dX6_mayTurnTide_21 : decode mX6_mayTurnTide.2.1 21 = .ok (.bipush 46, 2) := by decide +kernel
theorem dX6_mayTurnTide_23 : decode mX6_mayTurnTide.2.1 23 = .ok (.iaload, 1) := by decide +kernel
theorem dX6_mayTurnTide_24 : decode mX6_mayTurnTide.2.1 24 = .ok (.if_icmp .eq 7, 3) := by decide +kernel
theorem dX6_mayTurnTide_27 : decode mX6_mayTurnTide.2.1 27 = .ok (.iconst 1, 1) := by decide +kernel
theorem dX6_mayTurnTide_28 : decode mX6_mayTurnTide.2.1 28 = .ok (.goto 4, 3) := by decide +kernel
theorem dX6_mayTurnTide_31 : decode mX6_mayTurnTide.2.1 31 = .ok (.iconst 0, 1) := by decide +kernel
theorem dX6_mayTurnTide_32 : decode mX6_mayTurnTide.2.1 32 = .ok (.ireturn, 1) := by decide +kernel
abbrev mX6_payAndBegin : gz_M := (yX6_payAndBegin, cX6_payAndBegin, 3, none)
theorem dX6_payAndBegin_0 : decode mX6_payAndBegin.2.1 0 = .ok (.aload_n 0, 1) := by decide +kernel
theorem dX6_payAndBegin_1 : decode mX6_payAndBegin.2.1 1 = .ok (.getfield 11, 3) := by decide +kernel
theorem dX6_payAndBegin_4 : decode mX6_payAndBegin.2.1 4 = .ok (.bipush 48, 2) := by decide +kernel
theorem dX6_payAndBegin_6 : decode mX6_payAndBegin.2.1 6 = .ok (.dup2, 1) := by decide +kernel
theorem dX6_payAndBegin_7 : decode mX6_payAndBegin.2.1 7 = .ok (.iaload, 1) := by decide +kernel
theorem dX6_payAndBegin_8 : decode mX6_payAndBegin.2.1 8 = .ok (.iconst 3, 1) := by decide +kernel
theorem dX6_payAndBegin_9 : decode mX6_payAndBegin.2.1 9 = .ok (.isub, 1) := by decide +kernel
theorem dX6_payAndBegin_10 : decode mX6_payAndBegin.2.1 10 = .ok (.iastore, 1) := by decide +kernel
theorem dX6_payAndBegin_11 : decode mX6_payAndBegin.2.1 11 = .ok (.aload_n 0, 1) := by decide +kernel
theorem dX6_payAndBegin_12 : decode mX6_payAndBegin.2.1 12 = .ok (.iload_n 1, 1) := by decide +kernel
theorem dX6_payAndBegin_13 : decode mX6_payAndBegin.2.1 13 = .ok (.iload_n 2, 1) := by decide +kernel
theorem dX6_payAndBegin_14 : decode mX6_payAndBegin.2.1 14 = .ok (.invokevirtual 59, 3) := by decide +kernel
theorem dX6_payAndBegin_17 : decode mX6_payAndBegin.2.1 17 = .ok (.return_, 1) := by decide +kernel
abbrev mX6_reached : gz_M := (yX6_reached, cX6_reached, 5, some .int)
theorem dX6_reached_0 : decode mX6_reached.2.1 0 = .ok (.iload_n 1, 1) := by decide +kernel
theorem dX6_reached_1 : decode mX6_reached.2.1 1 = .ok (.istore_n 3, 1) := by decide +kernel
theorem dX6_reached_2 : decode mX6_reached.2.1 2 = .ok (.iconst 0, 1) := by decide +kernel
theorem dX6_reached_3 : decode mX6_reached.2.1 3 = .ok (.istore 4, 2) := by decide +kernel
theorem dX6_reached_5 : decode mX6_reached.2.1 5 = .ok (.iload 4, 2) := by decide +kernel
theorem dX6_reached_7 : decode mX6_reached.2.1 7 = .ok (.bipush 30, 2) := by decide +kernel
theorem dX6_reached_9 : decode mX6_reached.2.1 9 = .ok (.if_icmp .ge 16, 3) := by decide +kernel
theorem dX6_reached_12 : decode mX6_reached.2.1 12 = .ok (.aload_n 0, 1) := by decide +kernel
theorem dX6_reached_13 : decode mX6_reached.2.1 13 = .ok (.iload_n 3, 1) := by decide +kernel
theorem dX6_reached_14 : decode mX6_reached.2.1 14 = .ok (.iload_n 2, 1) := by decide +kernel
theorem dX6_reached_15 : decode mX6_reached.2.1 15 = .ok (.invokevirtual 81, 3) := by decide +kernel
theorem dX6_reached_18 : decode mX6_reached.2.1 18 = .ok (.istore_n 3, 1) := by decide +kernel
theorem dX6_reached_19 : decode mX6_reached.2.1 19 = .ok (.iinc 4 1, 3) := by decide +kernel
theorem dX6_reached_22 : decode mX6_reached.2.1 22 = .ok (.goto (-17), 3) := by decide +kernel
theorem dX6_reached_25 : decode mX6_reached.2.1 25 = .ok (.iload_n 3, 1) := by decide +kernel
theorem dX6_reached_26 : decode mX6_reached.2.1 26 = .ok (.ireturn, 1) := by decide +kernel
abbrev mX6_sweepOff : gz_M := (yX6_sweepOff, cX6_sweepOff, 4, some .int)
theorem dX6_sweepOff_0 : decode mX6_sweepOff.2.1 0 = .ok (.iconst 0, 1) := by decide +kernel
theorem dX6_sweepOff_1 : decode mX6_sweepOff.2.1 1 = .ok (.istore_n 2, 1) := by decide +kernel
theorem dX6_sweepOff_2 : decode mX6_sweepOff.2.1 2 = .ok (.iconst 0, 1) := by decide +kernel
theorem dX6_sweepOff_3 : decode mX6_sweepOff.2.1 3 = .ok (.istore_n 3, 1) := by decide +kernel
theorem dX6_sweepOff_4 : decode mX6_sweepOff.2.1 4 = .ok (.iload_n 3, 1) := by decide +kernel
theorem dX6_sweepOff_5 : decode mX6_sweepOff.2.1 5 = .ok (.aload_n 0, 1) := by decide +kernel
theorem dX6_sweepOff_6 : decode mX6_sweepOff.2.1 6 = .ok (.getfield 11, 3) := by decide +kernel
theorem dX6_sweepOff_9 : decode mX6_sweepOff.2.1 9 = .ok (.bipush 60, 2) := by decide +kernel
theorem dX6_sweepOff_11 : decode mX6_sweepOff.2.1 11 = .ok (.iaload, 1) := by decide +kernel
theorem dX6_sweepOff_12 : decode mX6_sweepOff.2.1 12 = .ok (.if_icmp .ge 31, 3) := by decide +kernel
theorem dX6_sweepOff_15 : decode mX6_sweepOff.2.1 15 = .ok (.aload_n 0, 1) := by decide +kernel
theorem dX6_sweepOff_16 : decode mX6_sweepOff.2.1 16 = .ok (.iload_n 3, 1) := by decide +kernel
theorem dX6_sweepOff_17 : decode mX6_sweepOff.2.1 17 = .ok (.iload_n 1, 1) := by decide +kernel
theorem dX6_sweepOff_18 : decode mX6_sweepOff.2.1 18 = .ok (.invokevirtual 36, 3) := by decide +kernel
theorem dX6_sweepOff_21 : decode mX6_sweepOff.2.1 21 = .ok (.ifCond .eq 16, 3) := by decide +kernel
theorem dX6_sweepOff_24 : decode mX6_sweepOff.2.1 24 = .ok (.aload_n 0, 1) := by decide +kernel
theorem dX6_sweepOff_25 : decode mX6_sweepOff.2.1 25 = .ok (.getfield 11, 3) := by decide +kernel
theorem dX6_sweepOff_28 : decode mX6_sweepOff.2.1 28 = .ok (.bipush 42, 2) := by decide +kernel
theorem dX6_sweepOff_30 : decode mX6_sweepOff.2.1 30 = .ok (.iload_n 3, 1) := by decide +kernel
theorem dX6_sweepOff_31 : decode mX6_sweepOff.2.1 31 = .ok (.iadd, 1) := by decide +kernel
theorem dX6_sweepOff_32 : decode mX6_sweepOff.2.1 32 = .ok (.iconst 2, 1) := by decide +kernel
theorem dX6_sweepOff_33 : decode mX6_sweepOff.2.1 33 = .ok (.iastore, 1) := by decide +kernel
theorem dX6_sweepOff_34 : decode mX6_sweepOff.2.1 34 = .ok (.iinc 2 1, 3) := by decide +kernel
theorem dX6_sweepOff_37 : decode mX6_sweepOff.2.1 37 = .ok (.iinc 3 1, 3) := by decide +kernel
theorem dX6_sweepOff_40 : decode mX6_sweepOff.2.1 40 = .ok (.goto (-36), 3) := by decide +kernel
theorem dX6_sweepOff_43 : decode mX6_sweepOff.2.1 43 = .ok (.aload_n 0, 1) := by decide +kernel
theorem dX6_sweepOff_44 : decode mX6_sweepOff.2.1 44 = .ok (.getfield 11, 3) := by decide +kernel
theorem dX6_sweepOff_47 : decode mX6_sweepOff.2.1 47 = .ok (.bipush 48, 2) := by decide +kernel
theorem dX6_sweepOff_49 : decode mX6_sweepOff.2.1 49 = .ok (.dup2, 1) := by decide +kernel
theorem dX6_sweepOff_50 : decode mX6_sweepOff.2.1 50 = .ok (.iaload, 1) := by decide +kernel
theorem dX6_sweepOff_51 : decode mX6_sweepOff.2.1 51 = .ok (.iconst 1, 1) := by decide +kernel
theorem dX6_sweepOff_52 : decode mX6_sweepOff.2.1 52 = .ok (.isub, 1) := by decide +kernel
theorem dX6_sweepOff_53 : decode mX6_sweepOff.2.1 53 = .ok (.iastore, 1) := by decide +kernel
theorem dX6_sweepOff_54 : decode mX6_sweepOff.2.1 54 = .ok (.iload_n 2, 1) := by decide +kernel
theorem dX6_sweepOff_55 : decode mX6_sweepOff.2.1 55 = .ok (.ireturn, 1) := by decide +kernel
abbrev mX6_together : gz_M := (yX6_together, cX6_together, 3, some .boolean)
theorem dX6_together_0 : decode mX6_together.2.1 0 = .ok (.aload_n 0, 1) := by decide +kernel
theorem dX6_together_1 : decode mX6_together.2.1 1 = .ok (.iload_n 1, 1) := by decide +kernel
theorem dX6_together_2 : decode mX6_together.2.1 2 = .ok (.invokevirtual 33, 3) := by decide +kernel
theorem dX6_together_5 : decode mX6_together.2.1 5 = .ok (.ifCond .eq 24, 3) := by decide +kernel
theorem dX6_together_8 : decode mX6_together.2.1 8 = .ok (.aload_n 0, 1) := by decide +kernel
theorem dX6_together_9 : decode mX6_together.2.1 9 = .ok (.iload_n 2, 1) := by decide +kernel
theorem dX6_together_10 : decode mX6_together.2.1 10 = .ok (.aload_n 0, 1) := by decide +kernel
theorem dX6_together_11 : decode mX6_together.2.1 11 = .ok (.getfield 11, 3) := by decide +kernel
theorem dX6_together_14 : decode mX6_together.2.1 14 = .ok (.bipush 30, 2) := by decide +kernel
theorem dX6_together_16 : decode mX6_together.2.1 16 = .ok (.iload_n 1, 1) := by decide +kernel
theorem dX6_together_17 : decode mX6_together.2.1 17 = .ok (.iadd, 1) := by decide +kernel
theorem dX6_together_18 : decode mX6_together.2.1 18 = .ok (.iaload, 1) := by decide +kernel
theorem dX6_together_19 : decode mX6_together.2.1 19 = .ok (.invokevirtual 36, 3) := by decide +kernel
theorem dX6_together_22 : decode mX6_together.2.1 22 = .ok (.ifCond .eq 7, 3) := by decide +kernel
theorem dX6_together_25 : decode mX6_together.2.1 25 = .ok (.iconst 1, 1) := by decide +kernel
theorem dX6_together_26 : decode mX6_together.2.1 26 = .ok (.goto 4, 3) := by decide +kernel
theorem dX6_together_29 : decode mX6_together.2.1 29 = .ok (.iconst 0, 1) := by decide +kernel
theorem dX6_together_30 : decode mX6_together.2.1 30 = .ok (.ireturn, 1) := by decide +kernel
abbrev mX6_turnStone : gz_M := (yX6_turnStone, cX6_turnStone, 2, none)
theorem dX6_turnStone_0 : decode mX6_turnStone.2.1 0 = .ok (.aload_n 0, 1) := by decide +kernel
theorem dX6_turnStone_1 : decode mX6_turnStone.2.1 1 = .ok (.getfield 11, 3) := by decide +kernel
theorem dX6_turnStone_4 : decode mX6_turnStone.2.1 4 = .ok (.bipush 48, 2) := by decide +kernel
theorem dX6_turnStone_6 : decode mX6_turnStone.2.1 6 = .ok (.dup2, 1) := by decide +kernel
theorem dX6_turnStone_7 : decode mX6_turnStone.2.1 7 = .ok (.iaload, 1) := by decide +kernel
theorem dX6_turnStone_8 : decode mX6_turnStone.2.1 8 = .ok (.iconst 2, 1) := by decide +kernel
theorem dX6_turnStone_9 : decode mX6_turnStone.2.1 9 = .ok (.isub, 1) := by decide +kernel
theorem dX6_turnStone_10 : decode mX6_turnStone.2.1 10 = .ok (.iastore, 1) := by decide +kernel
theorem dX6_turnStone_11 : decode mX6_turnStone.2.1 11 = .ok (.aload_n 0, 1) := by decide +kernel
theorem dX6_turnStone_12 : decode mX6_turnStone.2.1 12 = .ok (.getfield 11, 3) := by decide +kernel
theorem dX6_turnStone_15 : decode mX6_turnStone.2.1 15 = .ok (.iconst 0, 1) := by decide +kernel
theorem dX6_turnStone_16 : decode mX6_turnStone.2.1 16 = .ok (.iload_n 1, 1) := by decide +kernel
theorem dX6_turnStone_17 : decode mX6_turnStone.2.1 17 = .ok (.iadd, 1) := by decide +kernel
theorem dX6_turnStone_18 : decode mX6_turnStone.2.1 18 = .ok (.aload_n 0, 1) := by decide +kernel
theorem dX6_turnStone_19 : decode mX6_turnStone.2.1 19 = .ok (.iload_n 1, 1) := by decide +kernel
theorem dX6_turnStone_20 : decode mX6_turnStone.2.1 20 = .ok (.invokevirtual 49, 3) := by decide +kernel
theorem dX6_turnStone_23 : decode mX6_turnStone.2.1 23 = .ok (.ifCond .ne 7, 3) := by decide +kernel
theorem dX6_turnStone_26 : decode mX6_turnStone.2.1 26 = .ok (.iconst 1, 1) := by decide +kernel
theorem dX6_turnStone_27 : decode mX6_turnStone.2.1 27 = .ok (.goto 4, 3) := by decide +kernel
theorem dX6_turnStone_30 : decode mX6_turnStone.2.1 30 = .ok (.iconst 0, 1) := by decide +kernel
theorem dX6_turnStone_31 : decode mX6_turnStone.2.1 31 = .ok (.iastore, 1) := by decide +kernel
theorem dX6_turnStone_32 : decode mX6_turnStone.2.1 32 = .ok (.return_, 1) := by decide +kernel
abbrev mX6_under : gz_M := (yX6_under, cX6_under, 2, some .boolean)
theorem dX6_under_0 : decode mX6_under.2.1 0 = .ok (.aload_n 0, 1) := by decide +kernel
theorem dX6_under_1 : decode mX6_under.2.1 1 = .ok (.getfield 11, 3) := by decide +kernel
theorem dX6_under_4 : decode mX6_under.2.1 4 = .ok (.iconst 0, 1) := by decide +kernel
theorem dX6_under_5 : decode mX6_under.2.1 5 = .ok (.iload_n 1, 1) := by decide +kernel
theorem dX6_under_6 : decode mX6_under.2.1 6 = .ok (.iadd, 1) := by decide +kernel
theorem dX6_under_7 : decode mX6_under.2.1 7 = .ok (.iaload, 1) := by decide +kernel
theorem dX6_under_8 : decode mX6_under.2.1 8 = .ok (.iconst 2, 1) := by decide +kernel
theorem dX6_under_9 : decode mX6_under.2.1 9 = .ok (.if_icmp .eq 30, 3) := by decide +kernel
theorem dX6_under_12 : decode mX6_under.2.1 12 = .ok (.iload_n 1, 1) := by decide +kernel
theorem dX6_under_13 : decode mX6_under.2.1 13 = .ok (.aload_n 0, 1) := by decide +kernel
theorem dX6_under_14 : decode mX6_under.2.1 14 = .ok (.getfield 11, 3) := by decide +kernel
theorem dX6_under_17 : decode mX6_under.2.1 17 = .ok (.bipush 59, 2) := by decide +kernel
theorem dX6_under_19 : decode mX6_under.2.1 19 = .ok (.iaload, 1) := by decide +kernel
theorem dX6_under_20 : decode mX6_under.2.1 20 = .ok (.aload_n 0, 1) := by decide +kernel
theorem dX6_under_21 : decode mX6_under.2.1 21 = .ok (.getfield 11, 3) := by decide +kernel
theorem dX6_under_24 : decode mX6_under.2.1 24 = .ok (.bipush 46, 2) := by decide +kernel
theorem dX6_under_26 : decode mX6_under.2.1 26 = .ok (.iaload, 1) := by decide +kernel
theorem dX6_under_27 : decode mX6_under.2.1 27 = .ok (.isub, 1) := by decide +kernel
theorem dX6_under_28 : decode mX6_under.2.1 28 = .ok (.aload_n 0, 1) := by decide +kernel
theorem dX6_under_29 : decode mX6_under.2.1 29 = .ok (.getfield 11, 3) := by decide +kernel
theorem dX6_under_32 : decode mX6_under.2.1 32 = .ok (.bipush 58, 2) := by decide +kernel
theorem dX6_under_34 : decode mX6_under.2.1 34 = .ok (.iaload, 1) := by decide +kernel
theorem dX6_under_35 : decode mX6_under.2.1 35 = .ok (.imul, 1) := by decide +kernel
theorem dX6_under_36 : decode mX6_under.2.1 36 = .ok (.if_icmp .lt 7, 3) := by decide +kernel
theorem dX6_under_39 : decode mX6_under.2.1 39 = .ok (.iconst 1, 1) := by decide +kernel
theorem dX6_under_40 : decode mX6_under.2.1 40 = .ok (.goto 4, 3) := by decide +kernel
theorem dX6_under_43 : decode mX6_under.2.1 43 = .ok (.iconst 0, 1) := by decide +kernel
theorem dX6_under_44 : decode mX6_under.2.1 44 = .ok (.ireturn, 1) := by decide +kernel
abbrev mX6_wentInAll : gz_M := (yX6_wentInAll, cX6_wentInAll, 3, some .int)
theorem dX6_wentInAll_0 : decode mX6_wentInAll.2.1 0 = .ok (.iconst 0, 1) := by decide +kernel
theorem dX6_wentInAll_1 : decode mX6_wentInAll.2.1 1 = .ok (.istore_n 1, 1) := by decide +kernel
theorem dX6_wentInAll_2 : decode mX6_wentInAll.2.1 2 = .ok (.iconst 0, 1) := by decide +kernel
theorem dX6_wentInAll_3 : decode mX6_wentInAll.2.1 3 = .ok (.istore_n 2, 1) := by decide +kernel
theorem dX6_wentInAll_4 : decode mX6_wentInAll.2.1 4 = .ok (.iload_n 2, 1) := by decide +kernel
theorem dX6_wentInAll_5 : decode mX6_wentInAll.2.1 5 = .ok (.aload_n 0, 1) := by decide +kernel
theorem dX6_wentInAll_6 : decode mX6_wentInAll.2.1 6 = .ok (.getfield 11, 3) := by decide +kernel
theorem dX6_wentInAll_9 : decode mX6_wentInAll.2.1 9 = .ok (.bipush 60, 2) := by decide +kernel
theorem dX6_wentInAll_11 : decode mX6_wentInAll.2.1 11 = .ok (.iaload, 1) := by decide +kernel
theorem dX6_wentInAll_12 : decode mX6_wentInAll.2.1 12 = .ok (.if_icmp .ge 21, 3) := by decide +kernel
theorem dX6_wentInAll_15 : decode mX6_wentInAll.2.1 15 = .ok (.iload_n 1, 1) := by decide +kernel
theorem dX6_wentInAll_16 : decode mX6_wentInAll.2.1 16 = .ok (.aload_n 0, 1) := by decide +kernel
theorem dX6_wentInAll_17 : decode mX6_wentInAll.2.1 17 = .ok (.getfield 11, 3) := by decide +kernel
theorem dX6_wentInAll_20 : decode mX6_wentInAll.2.1 20 = .ok (.bipush 38, 2) := by decide +kernel
theorem dX6_wentInAll_22 : decode mX6_wentInAll.2.1 22 = .ok (.iload_n 2, 1) := by decide +kernel
theorem dX6_wentInAll_23 : decode mX6_wentInAll.2.1 23 = .ok (.iadd, 1) := by decide +kernel
theorem dX6_wentInAll_24 : decode mX6_wentInAll.2.1 24 = .ok (.iaload, 1) := by decide +kernel
theorem dX6_wentInAll_25 : decode mX6_wentInAll.2.1 25 = .ok (.iadd, 1) := by decide +kernel
theorem dX6_wentInAll_26 : decode mX6_wentInAll.2.1 26 = .ok (.istore_n 1, 1) := by decide +kernel
theorem dX6_wentInAll_27 : decode mX6_wentInAll.2.1 27 = .ok (.iinc 2 1, 3) := by decide +kernel
theorem dX6_wentInAll_30 : decode mX6_wentInAll.2.1 30 = .ok (.goto (-26), 3) := by decide +kernel
theorem dX6_wentInAll_33 : decode mX6_wentInAll.2.1 33 = .ok (.iload_n 1, 1) := by decide +kernel
theorem dX6_wentInAll_34 : decode mX6_wentInAll.2.1 34 = .ok (.ireturn, 1) := by decide +kernel
abbrev mX6_widened : gz_M := (yX6_widened, cX6_widened, 7, some .int)
theorem dX6_widened_0 : decode mX6_widened.2.1 0 = .ok (.iload_n 1, 1) := by decide +kernel
theorem dX6_widened_1 : decode mX6_widened.2.1 1 = .ok (.istore_n 3, 1) := by decide +kernel
theorem dX6_widened_2 : decode mX6_widened.2.1 2 = .ok (.iconst 0, 1) := by decide +kernel
theorem dX6_widened_3 : decode mX6_widened.2.1 3 = .ok (.istore 4, 2) := by decide +kernel
theorem dX6_widened_5 : decode mX6_widened.2.1 5 = .ok (.iload 4, 2) := by decide +kernel
theorem dX6_widened_7 : decode mX6_widened.2.1 7 = .ok (.aload_n 0, 1) := by decide +kernel
theorem dX6_widened_8 : decode mX6_widened.2.1 8 = .ok (.invokevirtual 21, 3) := by decide +kernel
theorem dX6_widened_11 : decode mX6_widened.2.1 11 = .ok (.if_icmp .ge 58, 3) := by decide +kernel
theorem dX6_widened_14 : decode mX6_widened.2.1 14 = .ok (.iconst 0, 1) := by decide +kernel
theorem dX6_widened_15 : decode mX6_widened.2.1 15 = .ok (.istore 5, 2) := by decide +kernel
theorem dX6_widened_17 : decode mX6_widened.2.1 17 = .ok (.iload 5, 2) := by decide +kernel
theorem dX6_widened_19 : decode mX6_widened.2.1 19 = .ok (.iconst 4, 1) := by decide +kernel
theorem dX6_widened_20 : decode mX6_widened.2.1 20 = .ok (.if_icmp .ge 43, 3) := by decide +kernel
theorem dX6_widened_23 : decode mX6_widened.2.1 23 = .ok (.iload_n 1, 1) := by decide +kernel
theorem dX6_widened_24 : decode mX6_widened.2.1 24 = .ok (.iload 4, 2) := by decide +kernel
theorem dX6_widened_26 : decode mX6_widened.2.1 26 = .ok (.ishr, 1) := by decide +kernel
theorem dX6_widened_27 : decode mX6_widened.2.1 27 = .ok (.iconst 1, 1) := by decide +kernel
theorem dX6_widened_28 : decode mX6_widened.2.1 28 = .ok (.iand, 1) := by decide +kernel
theorem dX6_widened_29 : decode mX6_widened.2.1 29 = .ok (.ifCond .eq 34, 3) := by decide +kernel
theorem dX6_widened_32 : decode mX6_widened.2.1 32 = .ok (.aload_n 0, 1) := by decide +kernel
theorem dX6_widened_33 : decode mX6_widened.2.1 33 = .ok (.iload 4, 2) := by decide +kernel
theorem dX6_widened_35 : decode mX6_widened.2.1 35 = .ok (.iload 5, 2) := by decide +kernel
theorem dX6_widened_37 : decode mX6_widened.2.1 37 = .ok (.invokevirtual 72, 3) := by decide +kernel
theorem dX6_widened_40 : decode mX6_widened.2.1 40 = .ok (.istore 6, 2) := by decide +kernel
theorem dX6_widened_42 : decode mX6_widened.2.1 42 = .ok (.iload 6, 2) := by decide +kernel
theorem dX6_widened_44 : decode mX6_widened.2.1 44 = .ok (.iconst (-1), 1) := by decide +kernel
theorem dX6_widened_45 : decode mX6_widened.2.1 45 = .ok (.if_icmp .eq 12, 3) := by decide +kernel
theorem dX6_widened_48 : decode mX6_widened.2.1 48 = .ok (.iload_n 3, 1) := by decide +kernel
theorem dX6_widened_49 : decode mX6_widened.2.1 49 = .ok (.iconst 1, 1) := by decide +kernel
theorem dX6_widened_50 : decode mX6_widened.2.1 50 = .ok (.iload 6, 2) := by decide +kernel
theorem dX6_widened_52 : decode mX6_widened.2.1 52 = .ok (.ishl, 1) := by decide +kernel
theorem dX6_widened_53 : decode mX6_widened.2.1 53 = .ok (.iload_n 2, 1) := by decide +kernel
theorem dX6_widened_54 : decode mX6_widened.2.1 54 = .ok (.iand, 1) := by decide +kernel
theorem dX6_widened_55 : decode mX6_widened.2.1 55 = .ok (.ior, 1) := by decide +kernel
theorem dX6_widened_56 : decode mX6_widened.2.1 56 = .ok (.istore_n 3, 1) := by decide +kernel
theorem dX6_widened_57 : decode mX6_widened.2.1 57 = .ok (.iinc 5 1, 3) := by decide +kernel
theorem dX6_widened_60 : decode mX6_widened.2.1 60 = .ok (.goto (-43), 3) := by decide +kernel
theorem dX6_widened_63 : decode mX6_widened.2.1 63 = .ok (.iinc 4 1, 3) := by decide +kernel
theorem dX6_widened_66 : decode mX6_widened.2.1 66 = .ok (.goto (-61), 3) := by decide +kernel
theorem dX6_widened_69 : decode mX6_widened.2.1 69 = .ok (.iload_n 3, 1) := by decide +kernel
theorem dX6_widened_70 : decode mX6_widened.2.1 70 = .ok (.ireturn, 1) := by decide +kernel
abbrev mX9_accept : gz_M := (yX9_accept, cX9_accept, 2, some .boolean)
theorem dX9_accept_0 : decode mX9_accept.2.1 0 = .ok (.aload_n 0, 1) := by decide +kernel
theorem dX9_accept_1 : decode mX9_accept.2.1 1 = .ok (.invokevirtual 25, 3) := by decide +kernel
theorem dX9_accept_4 : decode mX9_accept.2.1 4 = .ok (.iload_n 1, 1) := by decide +kernel
theorem dX9_accept_5 : decode mX9_accept.2.1 5 = .ok (.if_icmp .eq 5, 3) := by decide +kernel
theorem dX9_accept_8 : decode mX9_accept.2.1 8 = .ok (.iconst 0, 1) := by decide +kernel
theorem dX9_accept_9 : decode mX9_accept.2.1 9 = .ok (.ireturn, 1) := by decide +kernel
theorem dX9_accept_10 : decode mX9_accept.2.1 10 = .ok (.aload_n 0, 1) := by decide +kernel
theorem dX9_accept_11 : decode mX9_accept.2.1 11 = .ok (.dup, 1) := by decide +kernel
theorem dX9_accept_12 : decode mX9_accept.2.1 12 = .ok (.getfield 19, 3) := by decide +kernel
theorem dX9_accept_15 : decode mX9_accept.2.1 15 = .ok (.iconst 1, 1) := by decide +kernel
theorem dX9_accept_16 : decode mX9_accept.2.1 16 = .ok (.iadd, 1) := by decide +kernel
theorem dX9_accept_17 : decode mX9_accept.2.1 17 = .ok (.putfield 19, 3) := by decide +kernel
theorem dX9_accept_20 : decode mX9_accept.2.1 20 = .ok (.iconst 1, 1) := by decide +kernel
theorem dX9_accept_21 : decode mX9_accept.2.1 21 = .ok (.ireturn, 1) := by decide +kernel
abbrev mX9_add : gz_M := (yX9_add, cX9_add, 4, none)
theorem dX9_add_0 : decode mX9_add.2.1 0 = .ok (.bipush 24, 2) := by decide +kernel
theorem dX9_add_2 : decode mX9_add.2.1 2 = .ok (.istore_n 2, 1) := by decide +kernel
theorem dX9_add_3 : decode mX9_add.2.1 3 = .ok (.iload_n 2, 1) := by decide +kernel
theorem dX9_add_4 : decode mX9_add.2.1 4 = .ok (.ifCond .lt 51, 3) := by decide +kernel
theorem dX9_add_7 : decode mX9_add.2.1 7 = .ok (.iload_n 1, 1) := by decide +kernel
theorem dX9_add_8 : decode mX9_add.2.1 8 = .ok (.iload_n 2, 1) := by decide +kernel
theorem dX9_add_9 : decode mX9_add.2.1 9 = .ok (.iushr, 1) := by decide +kernel
theorem dX9_add_10 : decode mX9_add.2.1 10 = .ok (.sipush 255, 3) := by decide +kernel
theorem dX9_add_13 : decode mX9_add.2.1 13 = .ok (.iand, 1) := by decide +kernel
theorem dX9_add_14 : decode mX9_add.2.1 14 = .ok (.istore_n 3, 1) := by decide +kernel
theorem dX9_add_15 : decode mX9_add.2.1 15 = .ok (.iload_n 3, 1) := by decide +kernel
theorem dX9_add_16 : decode mX9_add.2.1 16 = .ok (.ifCond .eq 33, 3) := by decide +kernel
theorem dX9_add_19 : decode mX9_add.2.1 19 = .ok (.aload_n 0, 1) := by decide +kernel
theorem dX9_add_20 : decode mX9_add.2.1 20 = .ok (.getfield 15, 3) := by decide +kernel
theorem dX9_add_23 : decode mX9_add.2.1 23 = .ok (.sipush 240, 3) := by decide +kernel
theorem dX9_add_26 : decode mX9_add.2.1 26 = .ok (.if_icmp .ge 23, 3) := by decide +kernel
theorem dX9_add_29 : decode mX9_add.2.1 29 = .ok (.aload_n 0, 1) := by decide +kernel
theorem dX9_add_30 : decode mX9_add.2.1 30 = .ok (.getfield 11, 3) := by decide +kernel
theorem dX9_add_33 : decode mX9_add.2.1 33 = .ok (.aload_n 0, 1) := by decide +kernel
theorem dX9_add_34 : decode mX9_add.2.1 34 = .ok (.getfield 15, 3) := by decide +kernel
theorem dX9_add_37 : decode mX9_add.2.1 37 = .ok (.iload_n 3, 1) := by decide +kernel
theorem dX9_add_38 : decode mX9_add.2.1 38 = .ok (.iastore, 1) := by decide +kernel
theorem dX9_add_39 : decode mX9_add.2.1 39 = .ok (.aload_n 0, 1) := by decide +kernel
theorem dX9_add_40 : decode mX9_add.2.1 40 = .ok (.dup, 1) := by decide +kernel
theorem dX9_add_41 : decode mX9_add.2.1 41 = .ok (.getfield 15, 3) := by decide +kernel
theorem dX9_add_44 : decode mX9_add.2.1 44 = .ok (.iconst 1, 1) := by decide +kernel
theorem dX9_add_45 : decode mX9_add.2.1 45 = .ok (.iadd, 1) := by decide +kernel
theorem dX9_add_46 : decode mX9_add.2.1 46 = .ok (.putfield 15, 3) := by decide +kernel
theorem dX9_add_49 : decode mX9_add.2.1 49 = .ok (.iinc 2 (-8), 3) := by decide +kernel
theorem dX9_add_52 : decode mX9_add.2.1 52 = .ok (.goto (-49), 3) := by decide +kernel
theorem dX9_add_55 : decode mX9_add.2.1 55 = .ok (.return_, 1) := by decide +kernel
abbrev mX9_digitHere : gz_M := (yX9_digitHere, cX9_digitHere, 1, some .int)
theorem dX9_digitHere_0 : decode mX9_digitHere.2.1 0 = .ok (.aload_n 0, 1) := by decide +kernel
theorem dX9_digitHere_1 : decode mX9_digitHere.2.1 1 = .ok (.getfield 19, 3) := by decide +kernel
theorem dX9_digitHere_4 : decode mX9_digitHere.2.1 4 = .ok (.aload_n 0, 1) := by decide +kernel
theorem dX9_digitHere_5 : decode mX9_digitHere.2.1 5 = .ok (.getfield 15, 3) := by decide +kernel
theorem dX9_digitHere_8 : decode mX9_digitHere.2.1 8 = .ok (.if_icmp .ge 31, 3) := by decide +kernel
theorem dX9_digitHere_11 : decode mX9_digitHere.2.1 11 = .ok (.aload_n 0, 1) := by decide +kernel
theorem dX9_digitHere_12 : decode mX9_digitHere.2.1 12 = .ok (.getfield 11, 3) := by decide +kernel
theorem dX9_digitHere_15 : decode mX9_digitHere.2.1 15 = .ok (.aload_n 0, 1) := by decide +kernel
theorem dX9_digitHere_16 : decode mX9_digitHere.2.1 16 = .ok (.getfield 19, 3) := by decide +kernel
theorem dX9_digitHere_19 : decode mX9_digitHere.2.1 19 = .ok (.iaload, 1) := by decide +kernel
theorem dX9_digitHere_20 : decode mX9_digitHere.2.1 20 = .ok (.bipush 48, 2) := by decide +kernel
theorem dX9_digitHere_22 : decode mX9_digitHere.2.1 22 = .ok (.if_icmp .lt 17, 3) := by decide +kernel
theorem dX9_digitHere_25 : decode mX9_digitHere.2.1 25 = .ok (.aload_n 0, 1) := by decide +kernel
theorem dX9_digitHere_26 : decode mX9_digitHere.2.1 26 = .ok (.getfield 11, 3) := by decide +kernel
theorem dX9_digitHere_29 : decode mX9_digitHere.2.1 29 = .ok (.aload_n 0, 1) := by decide +kernel
theorem dX9_digitHere_30 : decode mX9_digitHere.2.1 30 = .ok (.getfield 19, 3) := by decide +kernel
theorem dX9_digitHere_33 : decode mX9_digitHere.2.1 33 = .ok (.iaload, 1) := by decide +kernel
theorem dX9_digitHere_34 : decode mX9_digitHere.2.1 34 = .ok (.bipush 57, 2) := by decide +kernel
theorem dX9_digitHere_36 : decode mX9_digitHere.2.1 36 = .ok (.if_icmp .le 5, 3) := by decide +kernel
theorem dX9_digitHere_39 : decode mX9_digitHere.2.1 39 = .ok (.iconst (-1), 1) := by decide +kernel
theorem dX9_digitHere_40 : decode mX9_digitHere.2.1 40 = .ok (.ireturn, 1) := by decide +kernel
theorem dX9_digitHere_41 : decode mX9_digitHere.2.1 41 = .ok (.aload_n 0, 1) := by decide +kernel
theorem dX9_digitHere_42 : decode mX9_digitHere.2.1 42 = .ok (.getfield 11, 3) := by decide +kernel
theorem dX9_digitHere_45 : decode mX9_digitHere.2.1 45 = .ok (.aload_n 0, 1) := by decide +kernel
theorem dX9_digitHere_46 : decode mX9_digitHere.2.1 46 = .ok (.getfield 19, 3) := by decide +kernel
theorem dX9_digitHere_49 : decode mX9_digitHere.2.1 49 = .ok (.iaload, 1) := by decide +kernel
theorem dX9_digitHere_50 : decode mX9_digitHere.2.1 50 = .ok (.bipush 48, 2) := by decide +kernel
theorem dX9_digitHere_52 : decode mX9_digitHere.2.1 52 = .ok (.isub, 1) := by decide +kernel
theorem dX9_digitHere_53 : decode mX9_digitHere.2.1 53 = .ok (.ireturn, 1) := by decide +kernel
abbrev mX9_expect : gz_M := (yX9_expect, cX9_expect, 2, some .boolean)
theorem dX9_expect_0 : decode mX9_expect.2.1 0 = .ok (.aload_n 0, 1) := by decide +kernel
theorem dX9_expect_1 : decode mX9_expect.2.1 1 = .ok (.invokevirtual 25, 3) := by decide +kernel
theorem dX9_expect_4 : decode mX9_expect.2.1 4 = .ok (.iload_n 1, 1) := by decide +kernel
theorem dX9_expect_5 : decode mX9_expect.2.1 5 = .ok (.if_icmp .eq 12, 3) := by decide +kernel
theorem dX9_expect_8 : decode mX9_expect.2.1 8 = .ok (.aload_n 0, 1) := by decide +kernel
theorem dX9_expect_9 : decode mX9_expect.2.1 9 = .ok (.aload_n 0, 1) := by decide +kernel
theorem dX9_expect_10 : decode mX9_expect.2.1 10 = .ok (.getfield 19, 3) := by decide +kernel
theorem dX9_expect_13 : decode mX9_expect.2.1 13 = .ok (.invokevirtual 29, 3) := by decide +kernel
theorem dX9_expect_16 : decode mX9_expect.2.1 16 = .ok (.ireturn, 1) := by decide +kernel
theorem dX9_expect_17 : decode mX9_expect.2.1 17 = .ok (.aload_n 0, 1) := by decide +kernel
theorem dX9_expect_18 : decode mX9_expect.2.1 18 = .ok (.dup, 1) := by decide +kernel
theorem dX9_expect_19 : decode mX9_expect.2.1 19 = .ok (.getfield 19, 3) := by decide +kernel
theorem dX9_expect_22 : decode mX9_expect.2.1 22 = .ok (.iconst 1, 1) := by decide +kernel
theorem dX9_expect_23 : decode mX9_expect.2.1 23 = .ok (.iadd, 1) := by decide +kernel
theorem dX9_expect_24 : decode mX9_expect.2.1 24 = .ok (.putfield 19, 3) := by decide +kernel
theorem dX9_expect_27 : decode mX9_expect.2.1 27 = .ok (.iconst 1, 1) := by decide +kernel
theorem dX9_expect_28 : decode mX9_expect.2.1 28 = .ok (.ireturn, 1) := by decide +kernel
abbrev mX9_filled : gz_M := (yX9_filled, cX9_filled, 3, some .int)
theorem dX9_filled_0 : decode mX9_filled.2.1 0 = .ok (.iconst 0, 1) := by decide +kernel
theorem dX9_filled_1 : decode mX9_filled.2.1 1 = .ok (.istore_n 1, 1) := by decide +kernel
theorem dX9_filled_2 : decode mX9_filled.2.1 2 = .ok (.bipush 24, 2) := by decide +kernel
theorem dX9_filled_4 : decode mX9_filled.2.1 4 = .ok (.istore_n 2, 1) := by decide +kernel
theorem dX9_filled_5 : decode mX9_filled.2.1 5 = .ok (.iload_n 2, 1) := by decide +kernel
theorem dX9_filled_6 : decode mX9_filled.2.1 6 = .ok (.ifCond .lt 22, 3) := by decide +kernel
theorem dX9_filled_9 : decode mX9_filled.2.1 9 = .ok (.iload_n 0, 1) := by decide +kernel
theorem dX9_filled_10 : decode mX9_filled.2.1 10 = .ok (.iload_n 2, 1) := by decide +kernel
theorem dX9_filled_11 : decode mX9_filled.2.1 11 = .ok (.iushr, 1) := by decide +kernel
theorem dX9_filled_12 : decode mX9_filled.2.1 12 = .ok (.sipush 255, 3) := by decide +kernel
theorem dX9_filled_15 : decode mX9_filled.2.1 15 = .ok (.iand, 1) := by decide +kernel
theorem dX9_filled_16 : decode mX9_filled.2.1 16 = .ok (.ifCond .eq 6, 3) := by decide +kernel
theorem dX9_filled_19 : decode mX9_filled.2.1 19 = .ok (.iinc 1 1, 3) := by decide +kernel
theorem dX9_filled_22 : decode mX9_filled.2.1 22 = .ok (.iinc 2 (-8), 3) := by decide +kernel
theorem dX9_filled_25 : decode mX9_filled.2.1 25 = .ok (.goto (-20), 3) := by decide +kernel
theorem dX9_filled_28 : decode mX9_filled.2.1 28 = .ok (.iload_n 1, 1) := by decide +kernel
theorem dX9_filled_29 : decode mX9_filled.2.1 29 = .ok (.ireturn, 1) := by decide +kernel
abbrev mX9_next : gz_M := (yX9_next, cX9_next, 1, some .int)
theorem dX9_next_0 : decode mX9_next.2.1 0 = .ok (.aload_n 0, 1) := by decide +kernel
theorem dX9_next_1 : decode mX9_next.2.1 1 = .ok (.getfield 19, 3) := by decide +kernel
theorem dX9_next_4 : decode mX9_next.2.1 4 = .ok (.aload_n 0, 1) := by decide +kernel
theorem dX9_next_5 : decode mX9_next.2.1 5 = .ok (.getfield 15, 3) := by decide +kernel
theorem dX9_next_8 : decode mX9_next.2.1 8 = .ok (.if_icmp .ge 30, 3) := by decide +kernel
theorem dX9_next_11 : decode mX9_next.2.1 11 = .ok (.aload_n 0, 1) := by decide +kernel
theorem dX9_next_12 : decode mX9_next.2.1 12 = .ok (.getfield 11, 3) := by decide +kernel
theorem dX9_next_15 : decode mX9_next.2.1 15 = .ok (.aload_n 0, 1) := by decide +kernel
theorem dX9_next_16 : decode mX9_next.2.1 16 = .ok (.getfield 19, 3) := by decide +kernel
theorem dX9_next_19 : decode mX9_next.2.1 19 = .ok (.iaload, 1) := by decide +kernel
theorem dX9_next_20 : decode mX9_next.2.1 20 = .ok (.bipush 32, 2) := by decide +kernel
theorem dX9_next_22 : decode mX9_next.2.1 22 = .ok (.if_icmp .ne 16, 3) := by decide +kernel
theorem dX9_next_25 : decode mX9_next.2.1 25 = .ok (.aload_n 0, 1) := by decide +kernel
theorem dX9_next_26 : decode mX9_next.2.1 26 = .ok (.dup, 1) := by decide +kernel
theorem dX9_next_27 : decode mX9_next.2.1 27 = .ok (.getfield 19, 3) := by decide +kernel
theorem dX9_next_30 : decode mX9_next.2.1 30 = .ok (.iconst 1, 1) := by decide +kernel
theorem dX9_next_31 : decode mX9_next.2.1 31 = .ok (.iadd, 1) := by decide +kernel
theorem dX9_next_32 : decode mX9_next.2.1 32 = .ok (.putfield 19, 3) := by decide +kernel
theorem dX9_next_35 : decode mX9_next.2.1 35 = .ok (.goto (-35), 3) := by decide +kernel
theorem dX9_next_38 : decode mX9_next.2.1 38 = .ok (.aload_n 0, 1) := by decide +kernel
theorem dX9_next_39 : decode mX9_next.2.1 39 = .ok (.getfield 19, 3) := by decide +kernel
theorem dX9_next_42 : decode mX9_next.2.1 42 = .ok (.aload_n 0, 1) := by decide +kernel
theorem dX9_next_43 : decode mX9_next.2.1 43 = .ok (.getfield 15, 3) := by decide +kernel
theorem dX9_next_46 : decode mX9_next.2.1 46 = .ok (.if_icmp .ge 15, 3) := by decide +kernel
theorem dX9_next_49 : decode mX9_next.2.1 49 = .ok (.aload_n 0, 1) := by decide +kernel
theorem dX9_next_50 : decode mX9_next.2.1 50 = .ok (.getfield 11, 3) := by decide +kernel
theorem dX9_next_53 : decode mX9_next.2.1 53 = .ok (.aload_n 0, 1) := by decide +kernel
theorem dX9_next_54 : decode mX9_next.2.1 54 = .ok (.getfield 19, 3) := by decide +kernel
theorem dX9_next_57 : decode mX9_next.2.1 57 = .ok (.iaload, 1) := by decide +kernel
theorem dX9_next_58 : decode mX9_next.2.1 58 = .ok (.goto 4, 3) := by decide +kernel
theorem dX9_next_61 : decode mX9_next.2.1 61 = .ok (.iconst (-1), 1) := by decide +kernel
theorem dX9_next_62 : decode mX9_next.2.1 62 = .ok (.ireturn, 1) := by decide +kernel
abbrev mX9_nextDigit : gz_M := (yX9_nextDigit, cX9_nextDigit, 1, some .int)
theorem dX9_nextDigit_0 : decode mX9_nextDigit.2.1 0 = .ok (.aload_n 0, 1) := by decide +kernel
theorem dX9_nextDigit_1 : decode mX9_nextDigit.2.1 1 = .ok (.invokevirtual 25, 3) := by decide +kernel
theorem dX9_nextDigit_4 : decode mX9_nextDigit.2.1 4 = .ok (.pop, 1) := by decide +kernel
theorem dX9_nextDigit_5 : decode mX9_nextDigit.2.1 5 = .ok (.aload_n 0, 1) := by decide +kernel
theorem dX9_nextDigit_6 : decode mX9_nextDigit.2.1 6 = .ok (.invokevirtual 33, 3) := by decide +kernel
theorem dX9_nextDigit_9 : decode mX9_nextDigit.2.1 9 = .ok (.ireturn, 1) := by decide +kernel
abbrev mX9_readDigit : gz_M := (yX9_readDigit, cX9_readDigit, 1, some .boolean)
theorem dX9_readDigit_0 : decode mX9_readDigit.2.1 0 = .ok (.aload_n 0, 1) := by decide +kernel
theorem dX9_readDigit_1 : decode mX9_readDigit.2.1 1 = .ok (.aload_n 0, 1) := by decide +kernel
theorem dX9_readDigit_2 : decode mX9_readDigit.2.1 2 = .ok (.invokevirtual 36, 3) := by decide +kernel
theorem dX9_readDigit_5 : decode mX9_readDigit.2.1 5 = .ok (.putfield 39, 3) := by decide +kernel
theorem dX9_readDigit_8 : decode mX9_readDigit.2.1 8 = .ok (.aload_n 0, 1) := by decide +kernel
theorem dX9_readDigit_9 : decode mX9_readDigit.2.1 9 = .ok (.getfield 39, 3) := by decide +kernel
theorem dX9_readDigit_12 : decode mX9_readDigit.2.1 12 = .ok (.iconst (-1), 1) := by decide +kernel
theorem dX9_readDigit_13 : decode mX9_readDigit.2.1 13 = .ok (.if_icmp .ne 12, 3) := by decide +kernel
theorem dX9_readDigit_16 : decode mX9_readDigit.2.1 16 = .ok (.aload_n 0, 1) := by decide +kernel
theorem dX9_readDigit_17 : decode mX9_readDigit.2.1 17 = .ok (.aload_n 0, 1) := by decide +kernel
theorem dX9_readDigit_18 : decode mX9_readDigit.2.1 18 = .ok (.getfield 19, 3) := by decide +kernel
theorem dX9_readDigit_21 : decode mX9_readDigit.2.1 21 = .ok (.invokevirtual 29, 3) := by decide +kernel
theorem dX9_readDigit_24 : decode mX9_readDigit.2.1 24 = .ok (.ireturn, 1) := by decide +kernel
theorem dX9_readDigit_25 : decode mX9_readDigit.2.1 25 = .ok (.aload_n 0, 1) := by decide +kernel
theorem dX9_readDigit_26 : decode mX9_readDigit.2.1 26 = .ok (.dup, 1) := by decide +kernel
theorem dX9_readDigit_27 : decode mX9_readDigit.2.1 27 = .ok (.getfield 19, 3) := by decide +kernel
theorem dX9_readDigit_30 : decode mX9_readDigit.2.1 30 = .ok (.iconst 1, 1) := by decide +kernel
theorem dX9_readDigit_31 : decode mX9_readDigit.2.1 31 = .ok (.iadd, 1) := by decide +kernel
theorem dX9_readDigit_32 : decode mX9_readDigit.2.1 32 = .ok (.putfield 19, 3) := by decide +kernel
theorem dX9_readDigit_35 : decode mX9_readDigit.2.1 35 = .ok (.iconst 1, 1) := by decide +kernel
theorem dX9_readDigit_36 : decode mX9_readDigit.2.1 36 = .ok (.ireturn, 1) := by decide +kernel
abbrev mX9_readNumber : gz_M := (yX9_readNumber, cX9_readNumber, 3, some .boolean)
theorem dX9_readNumber_0 : decode mX9_readNumber.2.1 0 = .ok (.aload_n 0, 1) := by decide +kernel
theorem dX9_readNumber_1 : decode mX9_readNumber.2.1 1 = .ok (.invokevirtual 25, 3) := by decide +kernel
theorem dX9_readNumber_4 : decode mX9_readNumber.2.1 4 = .ok (.pop, 1) := by decide +kernel
theorem dX9_readNumber_5 : decode mX9_readNumber.2.1 5 = .ok (.aload_n 0, 1) := by decide +kernel
theorem dX9_readNumber_6 : decode mX9_readNumber.2.1 6 = .ok (.iconst 0, 1) := by decide +kernel
theorem dX9_readNumber_7 : decode mX9_readNumber.2.1 7 = .ok (.putfield 39, 3) := by decide +kernel
theorem dX9_readNumber_10 : decode mX9_readNumber.2.1 10 = .ok (.aload_n 0, 1) := by decide +kernel
theorem dX9_readNumber_11 : decode mX9_readNumber.2.1 11 = .ok (.getfield 19, 3) := by decide +kernel
theorem dX9_readNumber_14 : decode mX9_readNumber.2.1 14 = .ok (.istore_n 2, 1) := by decide +kernel
theorem dX9_readNumber_15 : decode mX9_readNumber.2.1 15 = .ok (.aload_n 0, 1) := by decide +kernel
theorem dX9_readNumber_16 : decode mX9_readNumber.2.1 16 = .ok (.getfield 19, 3) := by decide +kernel
theorem dX9_readNumber_19 : decode mX9_readNumber.2.1 19 = .ok (.iload_n 2, 1) := by decide +kernel
theorem dX9_readNumber_20 : decode mX9_readNumber.2.1 20 = .ok (.iload_n 1, 1) := by decide +kernel
theorem dX9_readNumber_21 : decode mX9_readNumber.2.1 21 = .ok (.iadd, 1) := by decide +kernel
theorem dX9_readNumber_22 : decode mX9_readNumber.2.1 22 = .ok (.if_icmp .ge 40, 3) := by decide +kernel
theorem dX9_readNumber_25 : decode mX9_readNumber.2.1 25 = .ok (.aload_n 0, 1) := by decide +kernel
theorem dX9_readNumber_26 : decode mX9_readNumber.2.1 26 = .ok (.invokevirtual 33, 3) := by decide +kernel
theorem dX9_readNumber_29 : decode mX9_readNumber.2.1 29 = .ok (.iconst (-1), 1) := by decide +kernel
theorem dX9_readNumber_30 : decode mX9_readNumber.2.1 30 = .ok (.if_icmp .eq 32, 3) := by decide +kernel
theorem dX9_readNumber_33 : decode mX9_readNumber.2.1 33 = .ok (.aload_n 0, 1) := by decide +kernel
theorem dX9_readNumber_34 : decode mX9_readNumber.2.1 34 = .ok (.aload_n 0, 1) := by decide +kernel
theorem dX9_readNumber_35 : decode mX9_readNumber.2.1 35 = .ok (.getfield 39, 3) := by decide +kernel
theorem dX9_readNumber_38 : decode mX9_readNumber.2.1 38 = .ok (.bipush 10, 2) := by decide +kernel
theorem dX9_readNumber_40 : decode mX9_readNumber.2.1 40 = .ok (.imul, 1) := by decide +kernel
theorem dX9_readNumber_41 : decode mX9_readNumber.2.1 41 = .ok (.aload_n 0, 1) := by decide +kernel
theorem dX9_readNumber_42 : decode mX9_readNumber.2.1 42 = .ok (.invokevirtual 33, 3) := by decide +kernel
theorem dX9_readNumber_45 : decode mX9_readNumber.2.1 45 = .ok (.iadd, 1) := by decide +kernel
theorem dX9_readNumber_46 : decode mX9_readNumber.2.1 46 = .ok (.putfield 39, 3) := by decide +kernel
theorem dX9_readNumber_49 : decode mX9_readNumber.2.1 49 = .ok (.aload_n 0, 1) := by decide +kernel
theorem dX9_readNumber_50 : decode mX9_readNumber.2.1 50 = .ok (.dup, 1) := by decide +kernel
theorem dX9_readNumber_51 : decode mX9_readNumber.2.1 51 = .ok (.getfield 19, 3) := by decide +kernel
theorem dX9_readNumber_54 : decode mX9_readNumber.2.1 54 = .ok (.iconst 1, 1) := by decide +kernel
theorem dX9_readNumber_55 : decode mX9_readNumber.2.1 55 = .ok (.iadd, 1) := by decide +kernel
theorem dX9_readNumber_56 : decode mX9_readNumber.2.1 56 = .ok (.putfield 19, 3) := by decide +kernel
theorem dX9_readNumber_59 : decode mX9_readNumber.2.1 59 = .ok (.goto (-44), 3) := by decide +kernel
theorem dX9_readNumber_62 : decode mX9_readNumber.2.1 62 = .ok (.aload_n 0, 1) := by decide +kernel
theorem dX9_readNumber_63 : decode mX9_readNumber.2.1 63 = .ok (.getfield 19, 3) := by decide +kernel
theorem dX9_readNumber_66 : decode mX9_readNumber.2.1 66 = .ok (.iload_n 2, 1) := by decide +kernel
theorem dX9_readNumber_67 : decode mX9_readNumber.2.1 67 = .ok (.if_icmp .le 11, 3) := by decide +kernel
theorem dX9_readNumber_70 : decode mX9_readNumber.2.1 70 = .ok (.aload_n 0, 1) := by decide +kernel
theorem dX9_readNumber_71 : decode mX9_readNumber.2.1 71 = .ok (.invokevirtual 33, 3) := by decide +kernel
theorem dX9_readNumber_74 : decode mX9_readNumber.2.1 74 = .ok (.iconst (-1), 1) := by decide +kernel
theorem dX9_readNumber_75 : decode mX9_readNumber.2.1 75 = .ok (.if_icmp .eq 14, 3) := by decide +kernel
theorem dX9_readNumber_78 : decode mX9_readNumber.2.1 78 = .ok (.aload_n 0, 1) := by decide +kernel
theorem dX9_readNumber_79 : decode mX9_readNumber.2.1 79 = .ok (.aload_n 0, 1) := by decide +kernel
theorem dX9_readNumber_80 : decode mX9_readNumber.2.1 80 = .ok (.getfield 19, 3) := by decide +kernel
theorem dX9_readNumber_83 : decode mX9_readNumber.2.1 83 = .ok (.invokevirtual 29, 3) := by decide +kernel
theorem dX9_readNumber_86 : decode mX9_readNumber.2.1 86 = .ok (.ifCond .eq 7, 3) := by decide +kernel
theorem dX9_readNumber_89 : decode mX9_readNumber.2.1 89 = .ok (.iconst 1, 1) := by decide +kernel
theorem dX9_readNumber_90 : decode mX9_readNumber.2.1 90 = .ok (.goto 4, 3) := by decide +kernel
theorem dX9_readNumber_93 : decode mX9_readNumber.2.1 93 = .ok (.iconst 0, 1) := by decide +kernel
theorem dX9_readNumber_94 : decode mX9_readNumber.2.1 94 = .ok (.ireturn, 1) := by decide +kernel
abbrev mX9_refuse : gz_M := (yX9_refuse, cX9_refuse, 2, some .boolean)
theorem dX9_refuse_0 : decode mX9_refuse.2.1 0 = .ok (.aload_n 0, 1) := by decide +kernel
theorem dX9_refuse_1 : decode mX9_refuse.2.1 1 = .ok (.iload_n 1, 1) := by decide +kernel
theorem dX9_refuse_2 : decode mX9_refuse.2.1 2 = .ok (.putfield 22, 3) := by decide +kernel
theorem dX9_refuse_5 : decode mX9_refuse.2.1 5 = .ok (.iconst 0, 1) := by decide +kernel
theorem dX9_refuse_6 : decode mX9_refuse.2.1 6 = .ok (.ireturn, 1) := by decide +kernel
abbrev mX9_rewind : gz_M := (yX9_rewind, cX9_rewind, 1, none)
theorem dX9_rewind_0 : decode mX9_rewind.2.1 0 = .ok (.aload_n 0, 1) := by decide +kernel
theorem dX9_rewind_1 : decode mX9_rewind.2.1 1 = .ok (.iconst 0, 1) := by decide +kernel
theorem dX9_rewind_2 : decode mX9_rewind.2.1 2 = .ok (.putfield 19, 3) := by decide +kernel
theorem dX9_rewind_5 : decode mX9_rewind.2.1 5 = .ok (.aload_n 0, 1) := by decide +kernel
theorem dX9_rewind_6 : decode mX9_rewind.2.1 6 = .ok (.iconst (-1), 1) := by decide +kernel
theorem dX9_rewind_7 : decode mX9_rewind.2.1 7 = .ok (.putfield 22, 3) := by decide +kernel
theorem dX9_rewind_10 : decode mX9_rewind.2.1 10 = .ok (.return_, 1) := by decide +kernel
