theorem dJ13_bitCount_95d88_0 : decode cJ13_bitCount_95d88 0 = .ok (.lload_n 0, 1) := by decide +kernel
theorem dJ13_bitCount_95d88_1 : decode cJ13_bitCount_95d88 1 = .ok (.lload_n 0, 1) := by decide +kernel
theorem dJ13_bitCount_95d88_2 : decode cJ13_bitCount_95d88 2 = .ok (.iconst 1, 1) := by decide +kernel
theorem dJ13_bitCount_95d88_3 : decode cJ13_bitCount_95d88 3 = .ok (.lushr, 1) := by decide +kernel
theorem dJ13_bitCount_95d88_4 : decode cJ13_bitCount_95d88 4 = .ok (.ldc2_w 314, 3) := by decide +kernel
theorem dJ13_bitCount_95d88_7 : decode cJ13_bitCount_95d88 7 = .ok (.land, 1) := by decide +kernel
theorem dJ13_bitCount_95d88_8 : decode cJ13_bitCount_95d88 8 = .ok (.lsub, 1) := by decide +kernel
theorem dJ13_bitCount_95d88_9 : decode cJ13_bitCount_95d88 9 = .ok (.lstore_n 0, 1) := by decide +kernel
theorem dJ13_bitCount_95d88_10 : decode cJ13_bitCount_95d88 10 = .ok (.lload_n 0, 1) := by decide +kernel
theorem dJ13_bitCount_95d88_11 : decode cJ13_bitCount_95d88 11 = .ok (.ldc2_w 316, 3) := by decide +kernel
theorem dJ13_bitCount_95d88_14 : decode cJ13_bitCount_95d88 14 = .ok (.land, 1) := by decide +kernel
theorem dJ13_bitCount_95d88_15 : decode cJ13_bitCount_95d88 15 = .ok (.lload_n 0, 1) := by decide +kernel
theorem dJ13_bitCount_95d88_16 : decode cJ13_bitCount_95d88 16 = .ok (.iconst 2, 1) := by decide +kernel
theorem dJ13_bitCount_95d88_17 : decode cJ13_bitCount_95d88 17 = .ok (.lushr, 1) := by decide +kernel
theorem dJ13_bitCount_95d88_18 : decode cJ13_bitCount_95d88 18 = .ok (.ldc2_w 316, 3) := by decide +kernel
theorem dJ13_bitCount_95d88_21 : decode cJ13_bitCount_95d88 21 = .ok (.land, 1) := by decide +kernel
theorem dJ13_bitCount_95d88_22 : decode cJ13_bitCount_95d88 22 = .ok (.ladd, 1) := by decide +kernel
theorem dJ13_bitCount_95d88_23 : decode cJ13_bitCount_95d88 23 = .ok (.lstore_n 0, 1) := by decide +kernel
theorem dJ13_bitCount_95d88_24 : decode cJ13_bitCount_95d88 24 = .ok (.lload_n 0, 1) := by decide +kernel
theorem dJ13_bitCount_95d88_25 : decode cJ13_bitCount_95d88 25 = .ok (.lload_n 0, 1) := by decide +kernel
theorem dJ13_bitCount_95d88_26 : decode cJ13_bitCount_95d88 26 = .ok (.iconst 4, 1) := by decide +kernel
theorem dJ13_bitCount_95d88_27 : decode cJ13_bitCount_95d88 27 = .ok (.lushr, 1) := by decide +kernel
theorem dJ13_bitCount_95d88_28 : decode cJ13_bitCount_95d88 28 = .ok (.ladd, 1) := by decide +kernel
theorem dJ13_bitCount_95d88_29 : decode cJ13_bitCount_95d88 29 = .ok (.ldc2_w 318, 3) := by decide +kernel
theorem dJ13_bitCount_95d88_32 : decode cJ13_bitCount_95d88 32 = .ok (.land, 1) := by decide +kernel
theorem dJ13_bitCount_95d88_33 : decode cJ13_bitCount_95d88 33 = .ok (.lstore_n 0, 1) := by decide +kernel
theorem dJ13_bitCount_95d88_34 : decode cJ13_bitCount_95d88 34 = .ok (.lload_n 0, 1) := by decide +kernel
theorem dJ13_bitCount_95d88_35 : decode cJ13_bitCount_95d88 35 = .ok (.lload_n 0, 1) := by decide +kernel
theorem dJ13_bitCount_95d88_36 : decode cJ13_bitCount_95d88 36 = .ok (.bipush 8, 2) := by decide +kernel
theorem dJ13_bitCount_95d88_38 : decode cJ13_bitCount_95d88 38 = .ok (.lushr, 1) := by decide +kernel
theorem dJ13_bitCount_95d88_39 : decode cJ13_bitCount_95d88 39 = .ok (.ladd, 1) := by decide +kernel
theorem dJ13_bitCount_95d88_40 : decode cJ13_bitCount_95d88 40 = .ok (.lstore_n 0, 1) := by decide +kernel
theorem dJ13_bitCount_95d88_41 : decode cJ13_bitCount_95d88 41 = .ok (.lload_n 0, 1) := by decide +kernel
theorem dJ13_bitCount_95d88_42 : decode cJ13_bitCount_95d88 42 = .ok (.lload_n 0, 1) := by decide +kernel
theorem dJ13_bitCount_95d88_43 : decode cJ13_bitCount_95d88 43 = .ok (.bipush 16, 2) := by decide +kernel
theorem dJ13_bitCount_95d88_45 : decode cJ13_bitCount_95d88 45 = .ok (.lushr, 1) := by decide +kernel
theorem dJ13_bitCount_95d88_46 : decode cJ13_bitCount_95d88 46 = .ok (.ladd, 1) := by decide +kernel
theorem dJ13_bitCount_95d88_47 : decode cJ13_bitCount_95d88 47 = .ok (.lstore_n 0, 1) := by decide +kernel
theorem dJ13_bitCount_95d88_48 : decode cJ13_bitCount_95d88 48 = .ok (.lload_n 0, 1) := by decide +kernel
theorem dJ13_bitCount_95d88_49 : decode cJ13_bitCount_95d88 49 = .ok (.lload_n 0, 1) := by decide +kernel
theorem dJ13_bitCount_95d88_50 : decode cJ13_bitCount_95d88 50 = .ok (.bipush 32, 2) := by decide +kernel
theorem dJ13_bitCount_95d88_52 : decode cJ13_bitCount_95d88 52 = .ok (.lushr, 1) := by decide +kernel
theorem dJ13_bitCount_95d88_53 : decode cJ13_bitCount_95d88 53 = .ok (.ladd, 1) := by decide +kernel
theorem dJ13_bitCount_95d88_54 : decode cJ13_bitCount_95d88 54 = .ok (.lstore_n 0, 1) := by decide +kernel
theorem dJ13_bitCount_95d88_55 : decode cJ13_bitCount_95d88 55 = .ok (.lload_n 0, 1) := by decide +kernel
theorem dJ13_bitCount_95d88_56 : decode cJ13_bitCount_95d88 56 = .ok (.l2i, 1) := by decide +kernel
theorem dJ13_bitCount_95d88_57 : decode cJ13_bitCount_95d88 57 = .ok (.bipush 127, 2) := by decide +kernel
theorem dJ13_bitCount_95d88_59 : decode cJ13_bitCount_95d88 59 = .ok (.iand, 1) := by decide +kernel
theorem dJ13_bitCount_95d88_60 : decode cJ13_bitCount_95d88 60 = .ok (.ireturn, 1) := by decide +kernel
theorem dJ6_bitCount_0f7a4_0 : decode cJ6_bitCount_0f7a4 0 = .ok (.iload_n 0, 1) := by decide +kernel
theorem dJ6_bitCount_0f7a4_1 : decode cJ6_bitCount_0f7a4 1 = .ok (.iload_n 0, 1) := by decide +kernel
theorem dJ6_bitCount_0f7a4_2 : decode cJ6_bitCount_0f7a4 2 = .ok (.iconst 1, 1) := by decide +kernel
theorem dJ6_bitCount_0f7a4_3 : decode cJ6_bitCount_0f7a4 3 = .ok (.iushr, 1) := by decide +kernel
theorem dJ6_bitCount_0f7a4_4 : decode cJ6_bitCount_0f7a4 4 = .ok (.ldc_w 265, 3) := by decide +kernel
theorem dJ6_bitCount_0f7a4_7 : decode cJ6_bitCount_0f7a4 7 = .ok (.iand, 1) := by decide +kernel
theorem dJ6_bitCount_0f7a4_8 : decode cJ6_bitCount_0f7a4 8 = .ok (.isub, 1) := by decide +kernel
theorem dJ6_bitCount_0f7a4_9 : decode cJ6_bitCount_0f7a4 9 = .ok (.istore_n 0, 1) := by decide +kernel
theorem dJ6_bitCount_0f7a4_10 : decode cJ6_bitCount_0f7a4 10 = .ok (.iload_n 0, 1) := by decide +kernel
theorem dJ6_bitCount_0f7a4_11 : decode cJ6_bitCount_0f7a4 11 = .ok (.ldc_w 266, 3) := by decide +kernel
theorem dJ6_bitCount_0f7a4_14 : decode cJ6_bitCount_0f7a4 14 = .ok (.iand, 1) := by decide +kernel
theorem dJ6_bitCount_0f7a4_15 : decode cJ6_bitCount_0f7a4 15 = .ok (.iload_n 0, 1) := by decide +kernel
theorem dJ6_bitCount_0f7a4_16 : decode cJ6_bitCount_0f7a4 16 = .ok (.iconst 2, 1) := by decide +kernel
theorem dJ6_bitCount_0f7a4_17 : decode cJ6_bitCount_0f7a4 17 = .ok (.iushr, 1) := by decide +kernel
theorem dJ6_bitCount_0f7a4_18 : decode cJ6_bitCount_0f7a4 18 = .ok (.ldc_w 266, 3) := by decide +kernel
theorem dJ6_bitCount_0f7a4_21 : decode cJ6_bitCount_0f7a4 21 = .ok (.iand, 1) := by decide +kernel
theorem dJ6_bitCount_0f7a4_22 : decode cJ6_bitCount_0f7a4 22 = .ok (.iadd, 1) := by decide +kernel
theorem dJ6_bitCount_0f7a4_23 : decode cJ6_bitCount_0f7a4 23 = .ok (.istore_n 0, 1) := by decide +kernel
theorem dJ6_bitCount_0f7a4_24 : decode cJ6_bitCount_0f7a4 24 = .ok (.iload_n 0, 1) := by decide +kernel
theorem dJ6_bitCount_0f7a4_25 : decode cJ6_bitCount_0f7a4 25 = .ok (.iload_n 0, 1) := by decide +kernel
theorem dJ6_bitCount_0f7a4_26 : decode cJ6_bitCount_0f7a4 26 = .ok (.iconst 4, 1) := by decide +kernel
theorem dJ6_bitCount_0f7a4_27 : decode cJ6_bitCount_0f7a4 27 = .ok (.iushr, 1) := by decide +kernel
theorem dJ6_bitCount_0f7a4_28 : decode cJ6_bitCount_0f7a4 28 = .ok (.iadd, 1) := by decide +kernel
theorem dJ6_bitCount_0f7a4_29 : decode cJ6_bitCount_0f7a4 29 = .ok (.ldc_w 267, 3) := by decide +kernel
theorem dJ6_bitCount_0f7a4_32 : decode cJ6_bitCount_0f7a4 32 = .ok (.iand, 1) := by decide +kernel
theorem dJ6_bitCount_0f7a4_33 : decode cJ6_bitCount_0f7a4 33 = .ok (.istore_n 0, 1) := by decide +kernel
theorem dJ6_bitCount_0f7a4_34 : decode cJ6_bitCount_0f7a4 34 = .ok (.iload_n 0, 1) := by decide +kernel
theorem dJ6_bitCount_0f7a4_35 : decode cJ6_bitCount_0f7a4 35 = .ok (.iload_n 0, 1) := by decide +kernel
theorem dJ6_bitCount_0f7a4_36 : decode cJ6_bitCount_0f7a4 36 = .ok (.bipush 8, 2) := by decide +kernel
theorem dJ6_bitCount_0f7a4_38 : decode cJ6_bitCount_0f7a4 38 = .ok (.iushr, 1) := by decide +kernel
theorem dJ6_bitCount_0f7a4_39 : decode cJ6_bitCount_0f7a4 39 = .ok (.iadd, 1) := by decide +kernel
theorem dJ6_bitCount_0f7a4_40 : decode cJ6_bitCount_0f7a4 40 = .ok (.istore_n 0, 1) := by decide +kernel
theorem dJ6_bitCount_0f7a4_41 : decode cJ6_bitCount_0f7a4 41 = .ok (.iload_n 0, 1) := by decide +kernel
theorem dJ6_bitCount_0f7a4_42 : decode cJ6_bitCount_0f7a4 42 = .ok (.iload_n 0, 1) := by decide +kernel
theorem dJ6_bitCount_0f7a4_43 : decode cJ6_bitCount_0f7a4 43 = .ok (.bipush 16, 2) := by decide +kernel
theorem dJ6_bitCount_0f7a4_45 : decode cJ6_bitCount_0f7a4 45 = .ok (.iushr, 1) := by decide +kernel
theorem dJ6_bitCount_0f7a4_46 : decode cJ6_bitCount_0f7a4 46 = .ok (.iadd, 1) := by decide +kernel
theorem dJ6_bitCount_0f7a4_47 : decode cJ6_bitCount_0f7a4 47 = .ok (.istore_n 0, 1) := by decide +kernel
theorem dJ6_bitCount_0f7a4_48 : decode cJ6_bitCount_0f7a4 48 = .ok (.iload_n 0, 1) := by decide +kernel
theorem dJ6_bitCount_0f7a4_49 : decode cJ6_bitCount_0f7a4 49 = .ok (.bipush 63, 2) := by decide +kernel
theorem dJ6_bitCount_0f7a4_51 : decode cJ6_bitCount_0f7a4 51 = .ok (.iand, 1) := by decide +kernel
theorem dJ6_bitCount_0f7a4_52 : decode cJ6_bitCount_0f7a4 52 = .ok (.ireturn, 1) := by decide +kernel
theorem dJ7_copyOf_59c91_0 : decode cJ7_copyOf_59c91 0 = .ok (.iload_n 1, 1) := by decide +kernel
theorem dJ7_copyOf_59c91_1 : decode cJ7_copyOf_59c91 1 = .ok (.aload_n 0, 1) := by decide +kernel
theorem dJ7_copyOf_59c91_2 : decode cJ7_copyOf_59c91 2 = .ok (.arraylength, 1) := by decide +kernel
theorem dJ7_copyOf_59c91_3 : decode cJ7_copyOf_59c91 3 = .ok (.if_icmp .ne 11, 3) := by decide +kernel
theorem dJ7_copyOf_59c91_6 : decode cJ7_copyOf_59c91 6 = .ok (.aload_n 0, 1) := by decide +kernel
theorem dJ7_copyOf_59c91_7 : decode cJ7_copyOf_59c91 7 = .ok (.invokevirtual 316, 3) := by decide +kernel
theorem dJ7_copyOf_59c91_10 : decode cJ7_copyOf_59c91 10 = .ok (.checkcast 317, 3) := by decide +kernel
theorem dJ7_copyOf_59c91_13 : decode cJ7_copyOf_59c91 13 = .ok (.areturn, 1) := by decide +kernel
theorem dJ7_copyOf_59c91_14 : decode cJ7_copyOf_59c91 14 = .ok (.iload_n 1, 1) := by decide +kernel
theorem dJ7_copyOf_59c91_15 : decode cJ7_copyOf_59c91 15 = .ok (.newarray .int, 2) := by decide +kernel
theorem dJ7_copyOf_59c91_17 : decode cJ7_copyOf_59c91 17 = .ok (.astore_n 2, 1) := by decide +kernel
theorem dJ7_copyOf_59c91_18 : decode cJ7_copyOf_59c91 18 = .ok (.aload_n 0, 1) := by decide +kernel
theorem dJ7_copyOf_59c91_19 : decode cJ7_copyOf_59c91 19 = .ok (.iconst 0, 1) := by decide +kernel
theorem dJ7_copyOf_59c91_20 : decode cJ7_copyOf_59c91 20 = .ok (.aload_n 2, 1) := by decide +kernel
theorem dJ7_copyOf_59c91_21 : decode cJ7_copyOf_59c91 21 = .ok (.iconst 0, 1) := by decide +kernel
theorem dJ7_copyOf_59c91_22 : decode cJ7_copyOf_59c91 22 = .ok (.aload_n 0, 1) := by decide +kernel
theorem dJ7_copyOf_59c91_23 : decode cJ7_copyOf_59c91 23 = .ok (.arraylength, 1) := by decide +kernel
theorem dJ7_copyOf_59c91_24 : decode cJ7_copyOf_59c91 24 = .ok (.iload_n 1, 1) := by decide +kernel
theorem dJ7_copyOf_59c91_25 : decode cJ7_copyOf_59c91 25 = .ok (.invokestatic 304, 3) := by decide +kernel
theorem dJ7_copyOf_59c91_28 : decode cJ7_copyOf_59c91 28 = .ok (.invokestatic 150, 3) := by decide +kernel
theorem dJ7_copyOf_59c91_31 : decode cJ7_copyOf_59c91 31 = .ok (.aload_n 2, 1) := by decide +kernel
theorem dJ7_copyOf_59c91_32 : decode cJ7_copyOf_59c91 32 = .ok (.areturn, 1) := by decide +kernel
theorem dJ7_copyOf_c38d5_0 : decode cJ7_copyOf_c38d5 0 = .ok (.iload_n 1, 1) := by decide +kernel
theorem dJ7_copyOf_c38d5_1 : decode cJ7_copyOf_c38d5 1 = .ok (.aload_n 0, 1) := by decide +kernel
theorem dJ7_copyOf_c38d5_2 : decode cJ7_copyOf_c38d5 2 = .ok (.arraylength, 1) := by decide +kernel
theorem dJ7_copyOf_c38d5_3 : decode cJ7_copyOf_c38d5 3 = .ok (.if_icmp .ne 11, 3) := by decide +kernel
theorem dJ7_copyOf_c38d5_6 : decode cJ7_copyOf_c38d5 6 = .ok (.aload_n 0, 1) := by decide +kernel
theorem dJ7_copyOf_c38d5_7 : decode cJ7_copyOf_c38d5 7 = .ok (.invokevirtual 319, 3) := by decide +kernel
theorem dJ7_copyOf_c38d5_10 : decode cJ7_copyOf_c38d5 10 = .ok (.checkcast 320, 3) := by decide +kernel
theorem dJ7_copyOf_c38d5_13 : decode cJ7_copyOf_c38d5 13 = .ok (.areturn, 1) := by decide +kernel
theorem dJ7_copyOf_c38d5_14 : decode cJ7_copyOf_c38d5 14 = .ok (.iload_n 1, 1) := by decide +kernel
theorem dJ7_copyOf_c38d5_15 : decode cJ7_copyOf_c38d5 15 = .ok (.newarray .long, 2) := by decide +kernel
theorem dJ7_copyOf_c38d5_17 : decode cJ7_copyOf_c38d5 17 = .ok (.astore_n 2, 1) := by decide +kernel
theorem dJ7_copyOf_c38d5_18 : decode cJ7_copyOf_c38d5 18 = .ok (.aload_n 0, 1) := by decide +kernel
theorem dJ7_copyOf_c38d5_19 : decode cJ7_copyOf_c38d5 19 = .ok (.iconst 0, 1) := by decide +kernel
theorem dJ7_copyOf_c38d5_20 : decode cJ7_copyOf_c38d5 20 = .ok (.aload_n 2, 1) := by decide +kernel
theorem dJ7_copyOf_c38d5_21 : decode cJ7_copyOf_c38d5 21 = .ok (.iconst 0, 1) := by decide +kernel
theorem dJ7_copyOf_c38d5_22 : decode cJ7_copyOf_c38d5 22 = .ok (.aload_n 0, 1) := by decide +kernel
theorem dJ7_copyOf_c38d5_23 : decode cJ7_copyOf_c38d5 23 = .ok (.arraylength, 1) := by decide +kernel
theorem dJ7_copyOf_c38d5_24 : decode cJ7_copyOf_c38d5 24 = .ok (.iload_n 1, 1) := by decide +kernel
theorem dJ7_copyOf_c38d5_25 : decode cJ7_copyOf_c38d5 25 = .ok (.invokestatic 304, 3) := by decide +kernel
theorem dJ7_copyOf_c38d5_28 : decode cJ7_copyOf_c38d5 28 = .ok (.invokestatic 150, 3) := by decide +kernel
theorem dJ7_copyOf_c38d5_31 : decode cJ7_copyOf_c38d5 31 = .ok (.aload_n 2, 1) := by decide +kernel
theorem dJ7_copyOf_c38d5_32 : decode cJ7_copyOf_c38d5 32 = .ok (.areturn, 1) := by decide +kernel
theorem dJ7_fill_53178_0 : decode cJ7_fill_53178 0 = .ok (.iconst 0, 1) := by decide +kernel
theorem dJ7_fill_53178_1 : decode cJ7_fill_53178 1 = .ok (.istore_n 2, 1) := by decide +kernel
theorem dJ7_fill_53178_2 : decode cJ7_fill_53178 2 = .ok (.aload_n 0, 1) := by decide +kernel
theorem dJ7_fill_53178_3 : decode cJ7_fill_53178 3 = .ok (.arraylength, 1) := by decide +kernel
theorem dJ7_fill_53178_4 : decode cJ7_fill_53178 4 = .ok (.istore_n 3, 1) := by decide +kernel
theorem dJ7_fill_53178_5 : decode cJ7_fill_53178 5 = .ok (.iload_n 2, 1) := by decide +kernel
theorem dJ7_fill_53178_6 : decode cJ7_fill_53178 6 = .ok (.iload_n 3, 1) := by decide +kernel
theorem dJ7_fill_53178_7 : decode cJ7_fill_53178 7 = .ok (.if_icmp .ge 13, 3) := by decide +kernel
theorem dJ7_fill_53178_10 : decode cJ7_fill_53178 10 = .ok (.aload_n 0, 1) := by decide +kernel
theorem dJ7_fill_53178_11 : decode cJ7_fill_53178 11 = .ok (.iload_n 2, 1) := by decide +kernel
theorem dJ7_fill_53178_12 : decode cJ7_fill_53178 12 = .ok (.iload_n 1, 1) := by decide +kernel
theorem dJ7_fill_53178_13 : decode cJ7_fill_53178 13 = .ok (.iastore, 1) := by decide +kernel
theorem dJ7_fill_53178_14 : decode cJ7_fill_53178 14 = .ok (.iinc 2 1, 3) := by decide +kernel
theorem dJ7_fill_53178_17 : decode cJ7_fill_53178 17 = .ok (.goto (-12), 3) := by decide +kernel
theorem dJ7_fill_53178_20 : decode cJ7_fill_53178 20 = .ok (.return_, 1) := by decide +kernel
theorem dJ7_fill_d0a16_0 : decode cJ7_fill_d0a16 0 = .ok (.iconst 0, 1) := by decide +kernel
theorem dJ7_fill_d0a16_1 : decode cJ7_fill_d0a16 1 = .ok (.istore_n 3, 1) := by decide +kernel
theorem dJ7_fill_d0a16_2 : decode cJ7_fill_d0a16 2 = .ok (.aload_n 0, 1) := by decide +kernel
theorem dJ7_fill_d0a16_3 : decode cJ7_fill_d0a16 3 = .ok (.arraylength, 1) := by decide +kernel
theorem dJ7_fill_d0a16_4 : decode cJ7_fill_d0a16 4 = .ok (.istore 4, 2) := by decide +kernel
theorem dJ7_fill_d0a16_6 : decode cJ7_fill_d0a16 6 = .ok (.iload_n 3, 1) := by decide +kernel
theorem dJ7_fill_d0a16_7 : decode cJ7_fill_d0a16 7 = .ok (.iload 4, 2) := by decide +kernel
theorem dJ7_fill_d0a16_9 : decode cJ7_fill_d0a16 9 = .ok (.if_icmp .ge 13, 3) := by decide +kernel
theorem dJ7_fill_d0a16_12 : decode cJ7_fill_d0a16 12 = .ok (.aload_n 0, 1) := by decide +kernel
theorem dJ7_fill_d0a16_13 : decode cJ7_fill_d0a16 13 = .ok (.iload_n 3, 1) := by decide +kernel
theorem dJ7_fill_d0a16_14 : decode cJ7_fill_d0a16 14 = .ok (.lload_n 1, 1) := by decide +kernel
theorem dJ7_fill_d0a16_15 : decode cJ7_fill_d0a16 15 = .ok (.lastore, 1) := by decide +kernel
theorem dJ7_fill_d0a16_16 : decode cJ7_fill_d0a16 16 = .ok (.iinc 3 1, 3) := by decide +kernel
theorem dJ7_fill_d0a16_19 : decode cJ7_fill_d0a16 19 = .ok (.goto (-13), 3) := by decide +kernel
theorem dJ7_fill_d0a16_22 : decode cJ7_fill_d0a16 22 = .ok (.return_, 1) := by decide +kernel
theorem dJ9_max_7cf53_0 : decode cJ9_max_7cf53 0 = .ok (.iload_n 0, 1) := by decide +kernel
theorem dJ9_max_7cf53_1 : decode cJ9_max_7cf53 1 = .ok (.iload_n 1, 1) := by decide +kernel
theorem dJ9_max_7cf53_2 : decode cJ9_max_7cf53 2 = .ok (.if_icmp .lt 7, 3) := by decide +kernel
theorem dJ9_max_7cf53_5 : decode cJ9_max_7cf53 5 = .ok (.iload_n 0, 1) := by decide +kernel
theorem dJ9_max_7cf53_6 : decode cJ9_max_7cf53 6 = .ok (.goto 4, 3) := by decide +kernel
theorem dJ9_max_7cf53_9 : decode cJ9_max_7cf53 9 = .ok (.iload_n 1, 1) := by decide +kernel
theorem dJ9_max_7cf53_10 : decode cJ9_max_7cf53 10 = .ok (.ireturn, 1) := by decide +kernel
theorem dJ9_min_7cf53_0 : decode cJ9_min_7cf53 0 = .ok (.iload_n 0, 1) := by decide +kernel
theorem dJ9_min_7cf53_1 : decode cJ9_min_7cf53 1 = .ok (.iload_n 1, 1) := by decide +kernel
theorem dJ9_min_7cf53_2 : decode cJ9_min_7cf53 2 = .ok (.if_icmp .gt 7, 3) := by decide +kernel
theorem dJ9_min_7cf53_5 : decode cJ9_min_7cf53 5 = .ok (.iload_n 0, 1) := by decide +kernel
theorem dJ9_min_7cf53_6 : decode cJ9_min_7cf53 6 = .ok (.goto 4, 3) := by decide +kernel
theorem dJ9_min_7cf53_9 : decode cJ9_min_7cf53 9 = .ok (.iload_n 1, 1) := by decide +kernel
theorem dJ9_min_7cf53_10 : decode cJ9_min_7cf53 10 = .ok (.ireturn, 1) := by decide +kernel
theorem dX0_init_0 : decode cX0_init 0 = .ok (.aload_n 0, 1) := by decide +kernel
theorem dX0_init_1 : decode cX0_init 1 = .ok (.aload_n 1, 1) := by decide +kernel
theorem dX0_init_2 : decode cX0_init 2 = .ok (.iload_n 2, 1) := by decide +kernel
theorem dX0_init_3 : decode cX0_init 3 = .ok (.iload_n 3, 1) := by decide +kernel
theorem dX0_init_4 : decode cX0_init 4 = .ok (.invokespecial 1, 3) := by decide +kernel
theorem dX0_init_7 : decode cX0_init 7 = .ok (.return_, 1) := by decide +kernel
theorem dX0_passes_0 : decode cX0_passes 0 = .ok (.aload_n 0, 1) := by decide +kernel
theorem dX0_passes_1 : decode cX0_passes 1 = .ok (.getfield 7, 3) := by decide +kernel
theorem dX0_passes_4 : decode cX0_passes 4 = .ok (.dup, 1) := by decide +kernel
theorem dX0_passes_5 : decode cX0_passes 5 = .ok (.getfield 13, 3) := by decide +kernel
theorem dX0_passes_8 : decode cX0_passes 8 = .ok (.sipush 1000, 3) := by decide +kernel
theorem dX0_passes_11 : decode cX0_passes 11 = .ok (.iadd, 1) := by decide +kernel
theorem dX0_passes_12 : decode cX0_passes 12 = .ok (.putfield 13, 3) := by decide +kernel
theorem dX0_passes_15 : decode cX0_passes 15 = .ok (.aload_n 0, 1) := by decide +kernel
theorem dX0_passes_16 : decode cX0_passes 16 = .ok (.iload_n 1, 1) := by decide +kernel
theorem dX0_passes_17 : decode cX0_passes 17 = .ok (.iconst 3, 1) := by decide +kernel
theorem dX0_passes_18 : decode cX0_passes 18 = .ok (.invokevirtual 19, 3) := by decide +kernel
theorem dX0_passes_21 : decode cX0_passes 21 = .ok (.ireturn, 1) := by decide +kernel
theorem dX10_areJoined_0 : decode cX10_areJoined 0 = .ok (.iload_n 1, 1) := by decide +kernel
theorem dX10_areJoined_1 : decode cX10_areJoined 1 = .ok (.ifCond .lt 23, 3) := by decide +kernel
theorem dX10_areJoined_4 : decode cX10_areJoined 4 = .ok (.iload_n 1, 1) := by decide +kernel
theorem dX10_areJoined_5 : decode cX10_areJoined 5 = .ok (.bipush 60, 2) := by decide +kernel
theorem dX10_areJoined_7 : decode cX10_areJoined 7 = .ok (.if_icmp .ge 17, 3) := by decide +kernel
theorem dX10_areJoined_10 : decode cX10_areJoined 10 = .ok (.iload_n 2, 1) := by decide +kernel
theorem dX10_areJoined_11 : decode cX10_areJoined 11 = .ok (.ifCond .lt 13, 3) := by decide +kernel
theorem dX10_areJoined_14 : decode cX10_areJoined 14 = .ok (.iload_n 2, 1) := by decide +kernel
theorem dX10_areJoined_15 : decode cX10_areJoined 15 = .ok (.bipush 60, 2) := by decide +kernel
theorem dX10_areJoined_17 : decode cX10_areJoined 17 = .ok (.if_icmp .ge 7, 3) := by decide +kernel
theorem dX10_areJoined_20 : decode cX10_areJoined 20 = .ok (.iconst 1, 1) := by decide +kernel
theorem dX10_areJoined_21 : decode cX10_areJoined 21 = .ok (.goto 4, 3) := by decide +kernel
theorem dX10_areJoined_24 : decode cX10_areJoined 24 = .ok (.iconst 0, 1) := by decide +kernel
theorem dX10_areJoined_25 : decode cX10_areJoined 25 = .ok (.istore_n 3, 1) := by decide +kernel
theorem dX10_areJoined_26 : decode cX10_areJoined 26 = .ok (.iload_n 3, 1) := by decide +kernel
theorem dX10_areJoined_27 : decode cX10_areJoined 27 = .ok (.ifCond .eq 31, 3) := by decide +kernel
theorem dX10_areJoined_30 : decode cX10_areJoined 30 = .ok (.aload_n 0, 1) := by decide +kernel
theorem dX10_areJoined_31 : decode cX10_areJoined 31 = .ok (.getfield 11, 3) := by decide +kernel
theorem dX10_areJoined_34 : decode cX10_areJoined 34 = .ok (.iload_n 1, 1) := by decide +kernel
theorem dX10_areJoined_35 : decode cX10_areJoined 35 = .ok (.aaload, 1) := by decide +kernel
theorem dX10_areJoined_36 : decode cX10_areJoined 36 = .ok (.iload_n 2, 1) := by decide +kernel
theorem dX10_areJoined_37 : decode cX10_areJoined 37 = .ok (.iaload, 1) := by decide +kernel
theorem dX10_areJoined_38 : decode cX10_areJoined 38 = .ok (.iconst (-1), 1) := by decide +kernel
theorem dX10_areJoined_39 : decode cX10_areJoined 39 = .ok (.if_icmp .ne 15, 3) := by decide +kernel
theorem dX10_areJoined_42 : decode cX10_areJoined 42 = .ok (.aload_n 0, 1) := by decide +kernel
theorem dX10_areJoined_43 : decode cX10_areJoined 43 = .ok (.getfield 11, 3) := by decide +kernel
theorem dX10_areJoined_46 : decode cX10_areJoined 46 = .ok (.iload_n 2, 1) := by decide +kernel
theorem dX10_areJoined_47 : decode cX10_areJoined 47 = .ok (.aaload, 1) := by decide +kernel
theorem dX10_areJoined_48 : decode cX10_areJoined 48 = .ok (.iload_n 1, 1) := by decide +kernel
theorem dX10_areJoined_49 : decode cX10_areJoined 49 = .ok (.iaload, 1) := by decide +kernel
theorem dX10_areJoined_50 : decode cX10_areJoined 50 = .ok (.iconst (-1), 1) := by decide +kernel
theorem dX10_areJoined_51 : decode cX10_areJoined 51 = .ok (.if_icmp .eq 7, 3) := by decide +kernel
theorem dX10_areJoined_54 : decode cX10_areJoined 54 = .ok (.iconst 1, 1) := by decide +kernel
theorem dX10_areJoined_55 : decode cX10_areJoined 55 = .ok (.goto 4, 3) := by decide +kernel
theorem dX10_areJoined_58 : decode cX10_areJoined 58 = .ok (.iconst 0, 1) := by decide +kernel
theorem dX10_areJoined_59 : decode cX10_areJoined 59 = .ok (.ireturn, 1) := by decide +kernel
theorem dX10_between_0 : decode cX10_between 0 = .ok (.iload_n 1, 1) := by decide +kernel
theorem dX10_between_1 : decode cX10_between 1 = .ok (.ifCond .lt 23, 3) := by decide +kernel
theorem dX10_between_4 : decode cX10_between 4 = .ok (.iload_n 1, 1) := by decide +kernel
theorem dX10_between_5 : decode cX10_between 5 = .ok (.bipush 60, 2) := by decide +kernel
theorem dX10_between_7 : decode cX10_between 7 = .ok (.if_icmp .ge 17, 3) := by decide +kernel
theorem dX10_between_10 : decode cX10_between 10 = .ok (.iload_n 2, 1) := by decide +kernel
theorem dX10_between_11 : decode cX10_between 11 = .ok (.ifCond .lt 13, 3) := by decide +kernel
theorem dX10_between_14 : decode cX10_between 14 = .ok (.iload_n 2, 1) := by decide +kernel
theorem dX10_between_15 : decode cX10_between 15 = .ok (.bipush 60, 2) := by decide +kernel
theorem dX10_between_17 : decode cX10_between 17 = .ok (.if_icmp .ge 7, 3) := by decide +kernel
theorem dX10_between_20 : decode cX10_between 20 = .ok (.iconst 1, 1) := by decide +kernel
theorem dX10_between_21 : decode cX10_between 21 = .ok (.goto 4, 3) := by decide +kernel
theorem dX10_between_24 : decode cX10_between 24 = .ok (.iconst 0, 1) := by decide +kernel
theorem dX10_between_25 : decode cX10_between 25 = .ok (.istore_n 3, 1) := by decide +kernel
theorem dX10_between_26 : decode cX10_between 26 = .ok (.iload_n 3, 1) := by decide +kernel
theorem dX10_between_27 : decode cX10_between 27 = .ok (.ifCond .eq 14, 3) := by decide +kernel
theorem dX10_between_30 : decode cX10_between 30 = .ok (.aload_n 0, 1) := by decide +kernel
theorem dX10_between_31 : decode cX10_between 31 = .ok (.getfield 20, 3) := by decide +kernel
theorem dX10_between_34 : decode cX10_between 34 = .ok (.iload_n 2, 1) := by decide +kernel
theorem dX10_between_35 : decode cX10_between 35 = .ok (.aaload, 1) := by decide +kernel
theorem dX10_between_36 : decode cX10_between 36 = .ok (.iload_n 1, 1) := by decide +kernel
theorem dX10_between_37 : decode cX10_between 37 = .ok (.iaload, 1) := by decide +kernel
theorem dX10_between_38 : decode cX10_between 38 = .ok (.goto 5, 3) := by decide +kernel
theorem dX10_between_41 : decode cX10_between 41 = .ok (.ldc 76, 2) := by decide +kernel
theorem dX10_between_43 : decode cX10_between 43 = .ok (.ireturn, 1) := by decide +kernel
theorem dX10_forget_0 : decode cX10_forget 0 = .ok (.aload_n 0, 1) := by decide +kernel
theorem dX10_forget_1 : decode cX10_forget 1 = .ok (.iconst 0, 1) := by decide +kernel
theorem dX10_forget_2 : decode cX10_forget 2 = .ok (.putfield 27, 3) := by decide +kernel
theorem dX10_forget_5 : decode cX10_forget 5 = .ok (.return_, 1) := by decide +kernel
theorem dX10_init_0 : decode cX10_init 0 = .ok (.aload_n 0, 1) := by decide +kernel
theorem dX10_init_1 : decode cX10_init 1 = .ok (.invokespecial 3, 3) := by decide +kernel
theorem dX10_init_4 : decode cX10_init 4 = .ok (.aload_n 0, 1) := by decide +kernel
theorem dX10_init_5 : decode cX10_init 5 = .ok (.bipush 60, 2) := by decide +kernel
theorem dX10_init_7 : decode cX10_init 7 = .ok (.bipush 60, 2) := by decide +kernel
theorem dX10_init_9 : decode cX10_init 9 = .ok (.multianewarray 9 2, 4) := by decide +kernel
theorem dX10_init_13 : decode cX10_init 13 = .ok (.putfield 11, 3) := by decide +kernel
theorem dX10_init_16 : decode cX10_init 16 = .ok (.aload_n 0, 1) := by decide +kernel
theorem dX10_init_17 : decode cX10_init 17 = .ok (.bipush 60, 2) := by decide +kernel
theorem dX10_init_19 : decode cX10_init 19 = .ok (.newarray .long, 2) := by decide +kernel
theorem dX10_init_21 : decode cX10_init 21 = .ok (.putfield 16, 3) := by decide +kernel
theorem dX10_init_24 : decode cX10_init 24 = .ok (.aload_n 0, 1) := by decide +kernel
theorem dX10_init_25 : decode cX10_init 25 = .ok (.bipush 60, 2) := by decide +kernel
theorem dX10_init_27 : decode cX10_init 27 = .ok (.bipush 60, 2) := by decide +kernel
theorem dX10_init_29 : decode cX10_init 29 = .ok (.multianewarray 9 2, 4) := by decide +kernel
theorem dX10_init_33 : decode cX10_init 33 = .ok (.putfield 20, 3) := by decide +kernel
theorem dX10_init_36 : decode cX10_init 36 = .ok (.aload_n 0, 1) := by decide +kernel
theorem dX10_init_37 : decode cX10_init 37 = .ok (.lconst 0, 1) := by decide +kernel
theorem dX10_init_38 : decode cX10_init 38 = .ok (.putfield 23, 3) := by decide +kernel
theorem dX10_init_41 : decode cX10_init 41 = .ok (.aload_n 0, 1) := by decide +kernel
theorem dX10_init_42 : decode cX10_init 42 = .ok (.iconst 0, 1) := by decide +kernel
theorem dX10_init_43 : decode cX10_init 43 = .ok (.putfield 27, 3) := by decide +kernel
theorem dX10_init_46 : decode cX10_init 46 = .ok (.aload_n 0, 1) := by decide +kernel
theorem dX10_init_47 : decode cX10_init 47 = .ok (.aload_n 1, 1) := by decide +kernel
theorem dX10_init_48 : decode cX10_init 48 = .ok (.putfield 31, 3) := by decide +kernel
theorem dX10_init_51 : decode cX10_init 51 = .ok (.return_, 1) := by decide +kernel
theorem dX10_measure_0 : decode cX10_measure 0 = .ok (.aload_n 0, 1) := by decide +kernel
theorem dX10_measure_1 : decode cX10_measure 1 = .ok (.getfield 20, 3) := by decide +kernel
theorem dX10_measure_4 : decode cX10_measure 4 = .ok (.iload_n 1, 1) := by decide +kernel
theorem dX10_measure_5 : decode cX10_measure 5 = .ok (.aaload, 1) := by decide +kernel
theorem dX10_measure_6 : decode cX10_measure 6 = .ok (.astore_n 2, 1) := by decide +kernel
theorem dX10_measure_7 : decode cX10_measure 7 = .ok (.aload_n 2, 1) := by decide +kernel
theorem dX10_measure_8 : decode cX10_measure 8 = .ok (.ldc 76, 2) := by decide +kernel
theorem dX10_measure_10 : decode cX10_measure 10 = .ok (.invokestatic 35, 3) := by decide +kernel
theorem dX10_measure_13 : decode cX10_measure 13 = .ok (.aload_n 2, 1) := by decide +kernel
theorem dX10_measure_14 : decode cX10_measure 14 = .ok (.iload_n 1, 1) := by decide +kernel
theorem dX10_measure_15 : decode cX10_measure 15 = .ok (.iconst 0, 1) := by decide +kernel
theorem dX10_measure_16 : decode cX10_measure 16 = .ok (.iastore, 1) := by decide +kernel
theorem dX10_measure_17 : decode cX10_measure 17 = .ok (.lconst 1, 1) := by decide +kernel
theorem dX10_measure_18 : decode cX10_measure 18 = .ok (.iload_n 1, 1) := by decide +kernel
theorem dX10_measure_19 : decode cX10_measure 19 = .ok (.lshl, 1) := by decide +kernel
theorem dX10_measure_20 : decode cX10_measure 20 = .ok (.lstore_n 3, 1) := by decide +kernel
theorem dX10_measure_21 : decode cX10_measure 21 = .ok (.lconst 0, 1) := by decide +kernel
theorem dX10_measure_22 : decode cX10_measure 22 = .ok (.lstore 5, 2) := by decide +kernel
theorem dX10_measure_24 : decode cX10_measure 24 = .ok (.iconst 0, 1) := by decide +kernel
theorem dX10_measure_25 : decode cX10_measure 25 = .ok (.istore 7, 2) := by decide +kernel
theorem dX10_measure_27 : decode cX10_measure 27 = .ok (.iload 7, 2) := by decide +kernel
theorem dX10_measure_29 : decode cX10_measure 29 = .ok (.bipush 60, 2) := by decide +kernel
theorem dX10_measure_31 : decode cX10_measure 31 = .ok (.if_icmp .ge 136, 3) := by decide +kernel
theorem dX10_measure_34 : decode cX10_measure 34 = .ok (.lload_n 3, 1) := by decide +kernel
theorem dX10_measure_35 : decode cX10_measure 35 = .ok (.lconst 0, 1) := by decide +kernel
theorem dX10_measure_36 : decode cX10_measure 36 = .ok (.lcmp, 1) := by decide +kernel
theorem dX10_measure_37 : decode cX10_measure 37 = .ok (.ifCond .eq 130, 3) := by decide +kernel
theorem dX10_measure_40 : decode cX10_measure 40 = .ok (.aload_n 2, 1) := by decide +kernel
theorem dX10_measure_41 : decode cX10_measure 41 = .ok (.lload_n 3, 1) := by decide +kernel
theorem dX10_measure_42 : decode cX10_measure 42 = .ok (.invokestatic 77, 3) := by decide +kernel
theorem dX10_measure_45 : decode cX10_measure 45 = .ok (.istore 8, 2) := by decide +kernel
theorem dX10_measure_47 : decode cX10_measure 47 = .ok (.lload_n 3, 1) := by decide +kernel
theorem dX10_measure_48 : decode cX10_measure 48 = .ok (.lconst 1, 1) := by decide +kernel
theorem dX10_measure_49 : decode cX10_measure 49 = .ok (.iload 8, 2) := by decide +kernel
theorem dX10_measure_51 : decode cX10_measure 51 = .ok (.lshl, 1) := by decide +kernel
theorem dX10_measure_52 : decode cX10_measure 52 = .ok (.lxor, 1) := by decide +kernel
theorem dX10_measure_53 : decode cX10_measure 53 = .ok (.lstore_n 3, 1) := by decide +kernel
theorem dX10_measure_54 : decode cX10_measure 54 = .ok (.lload 5, 2) := by decide +kernel
theorem dX10_measure_56 : decode cX10_measure 56 = .ok (.lconst 1, 1) := by decide +kernel
theorem dX10_measure_57 : decode cX10_measure 57 = .ok (.iload 8, 2) := by decide +kernel
theorem dX10_measure_59 : decode cX10_measure 59 = .ok (.lshl, 1) := by decide +kernel
theorem dX10_measure_60 : decode cX10_measure 60 = .ok (.lor, 1) := by decide +kernel
theorem dX10_measure_61 : decode cX10_measure 61 = .ok (.lstore 5, 2) := by decide +kernel
theorem dX10_measure_63 : decode cX10_measure 63 = .ok (.aload_n 0, 1) := by decide +kernel
theorem dX10_measure_64 : decode cX10_measure 64 = .ok (.getfield 16, 3) := by decide +kernel
theorem dX10_measure_67 : decode cX10_measure 67 = .ok (.iload 8, 2) := by decide +kernel
theorem dX10_measure_69 : decode cX10_measure 69 = .ok (.laload, 1) := by decide +kernel
theorem dX10_measure_70 : decode cX10_measure 70 = .ok (.lload 5, 2) := by decide +kernel
theorem dX10_measure_72 : decode cX10_measure 72 = .ok (.ldc2_w 70, 3) := by decide +kernel
theorem dX10_measure_75 : decode cX10_measure 75 = .ok (.lxor, 1) := by decide +kernel
theorem dX10_measure_76 : decode cX10_measure 76 = .ok (.land, 1) := by decide +kernel
theorem dX10_measure_77 : decode cX10_measure 77 = .ok (.lstore 9, 2) := by decide +kernel
theorem dX10_measure_79 : decode cX10_measure 79 = .ok (.lload_n 3, 1) := by decide +kernel
theorem dX10_measure_80 : decode cX10_measure 80 = .ok (.lload 9, 2) := by decide +kernel
theorem dX10_measure_82 : decode cX10_measure 82 = .ok (.lor, 1) := by decide +kernel
theorem dX10_measure_83 : decode cX10_measure 83 = .ok (.lstore_n 3, 1) := by decide +kernel
theorem dX10_measure_84 : decode cX10_measure 84 = .ok (.iconst 0, 1) := by decide +kernel
theorem dX10_measure_85 : decode cX10_measure 85 = .ok (.istore 11, 2) := by decide +kernel
theorem dX10_measure_87 : decode cX10_measure 87 = .ok (.iload 11, 2) := by decide +kernel
theorem dX10_measure_89 : decode cX10_measure 89 = .ok (.bipush 60, 2) := by decide +kernel
theorem dX10_measure_91 : decode cX10_measure 91 = .ok (.if_icmp .ge 70, 3) := by decide +kernel
theorem dX10_measure_94 : decode cX10_measure 94 = .ok (.lload 9, 2) := by decide +kernel
theorem dX10_measure_96 : decode cX10_measure 96 = .ok (.lconst 0, 1) := by decide +kernel
theorem dX10_measure_97 : decode cX10_measure 97 = .ok (.lcmp, 1) := by decide +kernel
theorem dX10_measure_98 : decode cX10_measure 98 = .ok (.ifCond .eq 63, 3) := by decide +kernel
theorem dX10_measure_101 : decode cX10_measure 101 = .ok (.lload 9, 2) := by decide +kernel
theorem dX10_measure_103 : decode cX10_measure 103 = .ok (.invokestatic 81, 3) := by decide +kernel
theorem dX10_measure_106 : decode cX10_measure 106 = .ok (.istore 12, 2) := by decide +kernel
theorem dX10_measure_108 : decode cX10_measure 108 = .ok (.lload 9, 2) := by decide +kernel
theorem dX10_measure_110 : decode cX10_measure 110 = .ok (.lload 9, 2) := by decide +kernel
theorem dX10_measure_112 : decode cX10_measure 112 = .ok (.lconst 1, 1) := by decide +kernel
theorem dX10_measure_113 : decode cX10_measure 113 = .ok (.lsub, 1) := by decide +kernel
theorem dX10_measure_114 : decode cX10_measure 114 = .ok (.land, 1) := by decide +kernel
theorem dX10_measure_115 : decode cX10_measure 115 = .ok (.lstore 9, 2) := by decide +kernel
theorem dX10_measure_117 : decode cX10_measure 117 = .ok (.aload_n 2, 1) := by decide +kernel
theorem dX10_measure_118 : decode cX10_measure 118 = .ok (.iload 12, 2) := by decide +kernel
theorem dX10_measure_120 : decode cX10_measure 120 = .ok (.aload_n 2, 1) := by decide +kernel
theorem dX10_measure_121 : decode cX10_measure 121 = .ok (.iload 12, 2) := by decide +kernel
theorem dX10_measure_123 : decode cX10_measure 123 = .ok (.iaload, 1) := by decide +kernel
theorem dX10_measure_124 : decode cX10_measure 124 = .ok (.aload_n 2, 1) := by decide +kernel
theorem dX10_measure_125 : decode cX10_measure 125 = .ok (.iload 8, 2) := by decide +kernel
theorem dX10_measure_127 : decode cX10_measure 127 = .ok (.iaload, 1) := by decide +kernel
theorem dX10_measure_128 : decode cX10_measure 128 = .ok (.aload_n 0, 1) := by decide +kernel
theorem dX10_measure_129 : decode cX10_measure 129 = .ok (.getfield 31, 3) := by decide +kernel
theorem dX10_measure_132 : decode cX10_measure 132 = .ok (.getfield 44, 3) := by decide +kernel
theorem dX10_measure_135 : decode cX10_measure 135 = .ok (.aload_n 0, 1) := by decide +kernel
theorem dX10_measure_136 : decode cX10_measure 136 = .ok (.getfield 11, 3) := by decide +kernel
theorem dX10_measure_139 : decode cX10_measure 139 = .ok (.iload 12, 2) := by decide +kernel
theorem dX10_measure_141 : decode cX10_measure 141 = .ok (.aaload, 1) := by decide +kernel
theorem dX10_measure_142 : decode cX10_measure 142 = .ok (.iload 8, 2) := by decide +kernel
theorem dX10_measure_144 : decode cX10_measure 144 = .ok (.iaload, 1) := by decide +kernel
theorem dX10_measure_145 : decode cX10_measure 145 = .ok (.bipush 6, 2) := by decide +kernel
theorem dX10_measure_147 : decode cX10_measure 147 = .ok (.invokevirtual 56, 3) := by decide +kernel
theorem dX10_measure_150 : decode cX10_measure 150 = .ok (.iadd, 1) := by decide +kernel
theorem dX10_measure_151 : decode cX10_measure 151 = .ok (.invokestatic 85, 3) := by decide +kernel
theorem dX10_measure_154 : decode cX10_measure 154 = .ok (.iastore, 1) := by decide +kernel
theorem dX10_measure_155 : decode cX10_measure 155 = .ok (.iinc 11 1, 3) := by decide +kernel
theorem dX10_measure_158 : decode cX10_measure 158 = .ok (.goto (-71), 3) := by decide +kernel
theorem dX10_measure_161 : decode cX10_measure 161 = .ok (.iinc 7 1, 3) := by decide +kernel
theorem dX10_measure_164 : decode cX10_measure 164 = .ok (.goto (-137), 3) := by decide +kernel
theorem dX10_measure_167 : decode cX10_measure 167 = .ok (.return_, 1) := by decide +kernel
theorem dX10_measureEach_0 : decode cX10_measureEach 0 = .ok (.aload_n 0, 1) := by decide +kernel
theorem dX10_measureEach_1 : decode cX10_measureEach 1 = .ok (.invokevirtual 64, 3) := by decide +kernel
theorem dX10_measureEach_4 : decode cX10_measureEach 4 = .ok (.iconst 0, 1) := by decide +kernel
theorem dX10_measureEach_5 : decode cX10_measureEach 5 = .ok (.istore_n 3, 1) := by decide +kernel
theorem dX10_measureEach_6 : decode cX10_measureEach 6 = .ok (.iload_n 3, 1) := by decide +kernel
theorem dX10_measureEach_7 : decode cX10_measureEach 7 = .ok (.aload_n 0, 1) := by decide +kernel
theorem dX10_measureEach_8 : decode cX10_measureEach 8 = .ok (.getfield 31, 3) := by decide +kernel
theorem dX10_measureEach_11 : decode cX10_measureEach 11 = .ok (.getfield 67, 3) := by decide +kernel
theorem dX10_measureEach_14 : decode cX10_measureEach 14 = .ok (.if_icmp .ge 39, 3) := by decide +kernel
theorem dX10_measureEach_17 : decode cX10_measureEach 17 = .ok (.iload_n 3, 1) := by decide +kernel
theorem dX10_measureEach_18 : decode cX10_measureEach 18 = .ok (.bipush 60, 2) := by decide +kernel
theorem dX10_measureEach_20 : decode cX10_measureEach 20 = .ok (.if_icmp .ge 33, 3) := by decide +kernel
theorem dX10_measureEach_23 : decode cX10_measureEach 23 = .ok (.lload_n 1, 1) := by decide +kernel
theorem dX10_measureEach_24 : decode cX10_measureEach 24 = .ok (.aload_n 0, 1) := by decide +kernel
theorem dX10_measureEach_25 : decode cX10_measureEach 25 = .ok (.getfield 23, 3) := by decide +kernel
theorem dX10_measureEach_28 : decode cX10_measureEach 28 = .ok (.ldc2_w 70, 3) := by decide +kernel
theorem dX10_measureEach_31 : decode cX10_measureEach 31 = .ok (.lxor, 1) := by decide +kernel
theorem dX10_measureEach_32 : decode cX10_measureEach 32 = .ok (.land, 1) := by decide +kernel
theorem dX10_measureEach_33 : decode cX10_measureEach 33 = .ok (.iload_n 3, 1) := by decide +kernel
theorem dX10_measureEach_34 : decode cX10_measureEach 34 = .ok (.lshr, 1) := by decide +kernel
theorem dX10_measureEach_35 : decode cX10_measureEach 35 = .ok (.lconst 1, 1) := by decide +kernel
theorem dX10_measureEach_36 : decode cX10_measureEach 36 = .ok (.land, 1) := by decide +kernel
theorem dX10_measureEach_37 : decode cX10_measureEach 37 = .ok (.lconst 1, 1) := by decide +kernel
theorem dX10_measureEach_38 : decode cX10_measureEach 38 = .ok (.lcmp, 1) := by decide +kernel
theorem dX10_measureEach_39 : decode cX10_measureEach 39 = .ok (.ifCond .ne 8, 3) := by decide +kernel
theorem dX10_measureEach_42 : decode cX10_measureEach 42 = .ok (.aload_n 0, 1) := by decide +kernel
theorem dX10_measureEach_43 : decode cX10_measureEach 43 = .ok (.iload_n 3, 1) := by decide +kernel
theorem dX10_measureEach_44 : decode cX10_measureEach 44 = .ok (.invokevirtual 72, 3) := by decide +kernel
theorem dX10_measureEach_47 : decode cX10_measureEach 47 = .ok (.iinc 3 1, 3) := by decide +kernel
theorem dX10_measureEach_50 : decode cX10_measureEach 50 = .ok (.goto (-44), 3) := by decide +kernel
theorem dX10_measureEach_53 : decode cX10_measureEach 53 = .ok (.aload_n 0, 1) := by decide +kernel
theorem dX10_measureEach_54 : decode cX10_measureEach 54 = .ok (.dup, 1) := by decide +kernel
theorem dX10_measureEach_55 : decode cX10_measureEach 55 = .ok (.getfield 23, 3) := by decide +kernel
theorem dX10_measureEach_58 : decode cX10_measureEach 58 = .ok (.lload_n 1, 1) := by decide +kernel
theorem dX10_measureEach_59 : decode cX10_measureEach 59 = .ok (.lor, 1) := by decide +kernel
theorem dX10_measureEach_60 : decode cX10_measureEach 60 = .ok (.putfield 23, 3) := by decide +kernel
theorem dX10_measureEach_63 : decode cX10_measureEach 63 = .ok (.return_, 1) := by decide +kernel
theorem dX10_nearestOf_0 : decode cX10_nearestOf 0 = .ok (.lload_n 1, 1) := by decide +kernel
theorem dX10_nearestOf_1 : decode cX10_nearestOf 1 = .ok (.invokestatic 81, 3) := by decide +kernel
theorem dX10_nearestOf_4 : decode cX10_nearestOf 4 = .ok (.istore_n 3, 1) := by decide +kernel
theorem dX10_nearestOf_5 : decode cX10_nearestOf 5 = .ok (.lload_n 1, 1) := by decide +kernel
theorem dX10_nearestOf_6 : decode cX10_nearestOf 6 = .ok (.lload_n 1, 1) := by decide +kernel
theorem dX10_nearestOf_7 : decode cX10_nearestOf 7 = .ok (.lconst 1, 1) := by decide +kernel
theorem dX10_nearestOf_8 : decode cX10_nearestOf 8 = .ok (.lsub, 1) := by decide +kernel
theorem dX10_nearestOf_9 : decode cX10_nearestOf 9 = .ok (.land, 1) := by decide +kernel
theorem dX10_nearestOf_10 : decode cX10_nearestOf 10 = .ok (.lstore 4, 2) := by decide +kernel
theorem dX10_nearestOf_12 : decode cX10_nearestOf 12 = .ok (.iconst 0, 1) := by decide +kernel
theorem dX10_nearestOf_13 : decode cX10_nearestOf 13 = .ok (.istore 6, 2) := by decide +kernel
theorem dX10_nearestOf_15 : decode cX10_nearestOf 15 = .ok (.iload 6, 2) := by decide +kernel
theorem dX10_nearestOf_17 : decode cX10_nearestOf 17 = .ok (.bipush 60, 2) := by decide +kernel
theorem dX10_nearestOf_19 : decode cX10_nearestOf 19 = .ok (.if_icmp .ge 45, 3) := by decide +kernel
theorem dX10_nearestOf_22 : decode cX10_nearestOf 22 = .ok (.lload 4, 2) := by decide +kernel
theorem dX10_nearestOf_24 : decode cX10_nearestOf 24 = .ok (.lconst 0, 1) := by decide +kernel
theorem dX10_nearestOf_25 : decode cX10_nearestOf 25 = .ok (.lcmp, 1) := by decide +kernel
theorem dX10_nearestOf_26 : decode cX10_nearestOf 26 = .ok (.ifCond .eq 38, 3) := by decide +kernel
theorem dX10_nearestOf_29 : decode cX10_nearestOf 29 = .ok (.lload 4, 2) := by decide +kernel
theorem dX10_nearestOf_31 : decode cX10_nearestOf 31 = .ok (.invokestatic 81, 3) := by decide +kernel
theorem dX10_nearestOf_34 : decode cX10_nearestOf 34 = .ok (.istore 7, 2) := by decide +kernel
theorem dX10_nearestOf_36 : decode cX10_nearestOf 36 = .ok (.lload 4, 2) := by decide +kernel
theorem dX10_nearestOf_38 : decode cX10_nearestOf 38 = .ok (.lload 4, 2) := by decide +kernel
theorem dX10_nearestOf_40 : decode cX10_nearestOf 40 = .ok (.lconst 1, 1) := by decide +kernel
theorem dX10_nearestOf_41 : decode cX10_nearestOf 41 = .ok (.lsub, 1) := by decide +kernel
theorem dX10_nearestOf_42 : decode cX10_nearestOf 42 = .ok (.land, 1) := by decide +kernel
theorem dX10_nearestOf_43 : decode cX10_nearestOf 43 = .ok (.lstore 4, 2) := by decide +kernel
theorem dX10_nearestOf_45 : decode cX10_nearestOf 45 = .ok (.aload_n 0, 1) := by decide +kernel
theorem dX10_nearestOf_46 : decode cX10_nearestOf 46 = .ok (.iload 7, 2) := by decide +kernel
theorem dX10_nearestOf_48 : decode cX10_nearestOf 48 = .ok (.iaload, 1) := by decide +kernel
theorem dX10_nearestOf_49 : decode cX10_nearestOf 49 = .ok (.aload_n 0, 1) := by decide +kernel
theorem dX10_nearestOf_50 : decode cX10_nearestOf 50 = .ok (.iload_n 3, 1) := by decide +kernel
theorem dX10_nearestOf_51 : decode cX10_nearestOf 51 = .ok (.iaload, 1) := by decide +kernel
theorem dX10_nearestOf_52 : decode cX10_nearestOf 52 = .ok (.if_icmp .ge 6, 3) := by decide +kernel
theorem dX10_nearestOf_55 : decode cX10_nearestOf 55 = .ok (.iload 7, 2) := by decide +kernel
theorem dX10_nearestOf_57 : decode cX10_nearestOf 57 = .ok (.istore_n 3, 1) := by decide +kernel
theorem dX10_nearestOf_58 : decode cX10_nearestOf 58 = .ok (.iinc 6 1, 3) := by decide +kernel
theorem dX10_nearestOf_61 : decode cX10_nearestOf 61 = .ok (.goto (-46), 3) := by decide +kernel
theorem dX10_nearestOf_64 : decode cX10_nearestOf 64 = .ok (.iload_n 3, 1) := by decide +kernel
theorem dX10_nearestOf_65 : decode cX10_nearestOf 65 = .ok (.ireturn, 1) := by decide +kernel
theorem dX10_nextStreet_0 : decode cX10_nextStreet 0 = .ok (.aload_n 0, 1) := by decide +kernel
theorem dX10_nextStreet_1 : decode cX10_nextStreet 1 = .ok (.iload_n 1, 1) := by decide +kernel
theorem dX10_nextStreet_2 : decode cX10_nextStreet 2 = .ok (.iload_n 2, 1) := by decide +kernel
theorem dX10_nextStreet_3 : decode cX10_nextStreet 3 = .ok (.invokevirtual 90, 3) := by decide +kernel
theorem dX10_nextStreet_6 : decode cX10_nextStreet 6 = .ok (.istore_n 3, 1) := by decide +kernel
theorem dX10_nextStreet_7 : decode cX10_nextStreet 7 = .ok (.iload_n 3, 1) := by decide +kernel
theorem dX10_nextStreet_8 : decode cX10_nextStreet 8 = .ok (.ifCond .eq 9, 3) := by decide +kernel
theorem dX10_nextStreet_11 : decode cX10_nextStreet 11 = .ok (.iload_n 3, 1) := by decide +kernel
theorem dX10_nextStreet_12 : decode cX10_nextStreet 12 = .ok (.ldc 76, 2) := by decide +kernel
theorem dX10_nextStreet_14 : decode cX10_nextStreet 14 = .ok (.if_icmp .lt 5, 3) := by decide +kernel
theorem dX10_nextStreet_17 : decode cX10_nextStreet 17 = .ok (.iconst (-1), 1) := by decide +kernel
theorem dX10_nextStreet_18 : decode cX10_nextStreet 18 = .ok (.ireturn, 1) := by decide +kernel
theorem dX10_nextStreet_19 : decode cX10_nextStreet 19 = .ok (.iconst 0, 1) := by decide +kernel
theorem dX10_nextStreet_20 : decode cX10_nextStreet 20 = .ok (.istore 4, 2) := by decide +kernel
theorem dX10_nextStreet_22 : decode cX10_nextStreet 22 = .ok (.iload 4, 2) := by decide +kernel
theorem dX10_nextStreet_24 : decode cX10_nextStreet 24 = .ok (.bipush 60, 2) := by decide +kernel
theorem dX10_nextStreet_26 : decode cX10_nextStreet 26 = .ok (.if_icmp .ge 57, 3) := by decide +kernel
theorem dX10_nextStreet_29 : decode cX10_nextStreet 29 = .ok (.aload_n 0, 1) := by decide +kernel
theorem dX10_nextStreet_30 : decode cX10_nextStreet 30 = .ok (.getfield 11, 3) := by decide +kernel
theorem dX10_nextStreet_33 : decode cX10_nextStreet 33 = .ok (.iload_n 1, 1) := by decide +kernel
theorem dX10_nextStreet_34 : decode cX10_nextStreet 34 = .ok (.aaload, 1) := by decide +kernel
theorem dX10_nextStreet_35 : decode cX10_nextStreet 35 = .ok (.iload 4, 2) := by decide +kernel
theorem dX10_nextStreet_37 : decode cX10_nextStreet 37 = .ok (.iaload, 1) := by decide +kernel
theorem dX10_nextStreet_38 : decode cX10_nextStreet 38 = .ok (.istore 5, 2) := by decide +kernel
theorem dX10_nextStreet_40 : decode cX10_nextStreet 40 = .ok (.iload 5, 2) := by decide +kernel
theorem dX10_nextStreet_42 : decode cX10_nextStreet 42 = .ok (.iconst (-1), 1) := by decide +kernel
theorem dX10_nextStreet_43 : decode cX10_nextStreet 43 = .ok (.if_icmp .eq 34, 3) := by decide +kernel
theorem dX10_nextStreet_46 : decode cX10_nextStreet 46 = .ok (.aload_n 0, 1) := by decide +kernel
theorem dX10_nextStreet_47 : decode cX10_nextStreet 47 = .ok (.getfield 31, 3) := by decide +kernel
theorem dX10_nextStreet_50 : decode cX10_nextStreet 50 = .ok (.getfield 44, 3) := by decide +kernel
theorem dX10_nextStreet_53 : decode cX10_nextStreet 53 = .ok (.iload 5, 2) := by decide +kernel
theorem dX10_nextStreet_55 : decode cX10_nextStreet 55 = .ok (.bipush 6, 2) := by decide +kernel
theorem dX10_nextStreet_57 : decode cX10_nextStreet 57 = .ok (.invokevirtual 56, 3) := by decide +kernel
theorem dX10_nextStreet_60 : decode cX10_nextStreet 60 = .ok (.aload_n 0, 1) := by decide +kernel
theorem dX10_nextStreet_61 : decode cX10_nextStreet 61 = .ok (.getfield 20, 3) := by decide +kernel
theorem dX10_nextStreet_64 : decode cX10_nextStreet 64 = .ok (.iload_n 2, 1) := by decide +kernel
theorem dX10_nextStreet_65 : decode cX10_nextStreet 65 = .ok (.aaload, 1) := by decide +kernel
theorem dX10_nextStreet_66 : decode cX10_nextStreet 66 = .ok (.iload 4, 2) := by decide +kernel
theorem dX10_nextStreet_68 : decode cX10_nextStreet 68 = .ok (.iaload, 1) := by decide +kernel
theorem dX10_nextStreet_69 : decode cX10_nextStreet 69 = .ok (.iadd, 1) := by decide +kernel
theorem dX10_nextStreet_70 : decode cX10_nextStreet 70 = .ok (.iload_n 3, 1) := by decide +kernel
theorem dX10_nextStreet_71 : decode cX10_nextStreet 71 = .ok (.if_icmp .ne 6, 3) := by decide +kernel
theorem dX10_nextStreet_74 : decode cX10_nextStreet 74 = .ok (.iload 5, 2) := by decide +kernel
theorem dX10_nextStreet_76 : decode cX10_nextStreet 76 = .ok (.ireturn, 1) := by decide +kernel
theorem dX10_nextStreet_77 : decode cX10_nextStreet 77 = .ok (.iinc 4 1, 3) := by decide +kernel
theorem dX10_nextStreet_80 : decode cX10_nextStreet 80 = .ok (.goto (-58), 3) := by decide +kernel
theorem dX10_nextStreet_83 : decode cX10_nextStreet 83 = .ok (.iconst (-1), 1) := by decide +kernel
theorem dX10_nextStreet_84 : decode cX10_nextStreet 84 = .ok (.ireturn, 1) := by decide +kernel
theorem dX10_offer_0 : decode cX10_offer 0 = .ok (.iload_n 1, 1) := by decide +kernel
theorem dX10_offer_1 : decode cX10_offer 1 = .ok (.ifCond .lt 19, 3) := by decide +kernel
theorem dX10_offer_4 : decode cX10_offer 4 = .ok (.iload_n 1, 1) := by decide +kernel
theorem dX10_offer_5 : decode cX10_offer 5 = .ok (.bipush 60, 2) := by decide +kernel
theorem dX10_offer_7 : decode cX10_offer 7 = .ok (.if_icmp .ge 13, 3) := by decide +kernel
theorem dX10_offer_10 : decode cX10_offer 10 = .ok (.iload_n 2, 1) := by decide +kernel
theorem dX10_offer_11 : decode cX10_offer 11 = .ok (.ifCond .lt 9, 3) := by decide +kernel
theorem dX10_offer_14 : decode cX10_offer 14 = .ok (.iload_n 2, 1) := by decide +kernel
theorem dX10_offer_15 : decode cX10_offer 15 = .ok (.bipush 60, 2) := by decide +kernel
theorem dX10_offer_17 : decode cX10_offer 17 = .ok (.if_icmp .lt 4, 3) := by decide +kernel
theorem dX10_offer_20 : decode cX10_offer 20 = .ok (.return_, 1) := by decide +kernel
theorem dX10_offer_21 : decode cX10_offer 21 = .ok (.aload_n 0, 1) := by decide +kernel
theorem dX10_offer_22 : decode cX10_offer 22 = .ok (.getfield 11, 3) := by decide +kernel
theorem dX10_offer_25 : decode cX10_offer 25 = .ok (.iload_n 1, 1) := by decide +kernel
theorem dX10_offer_26 : decode cX10_offer 26 = .ok (.aaload, 1) := by decide +kernel
theorem dX10_offer_27 : decode cX10_offer 27 = .ok (.iload_n 2, 1) := by decide +kernel
theorem dX10_offer_28 : decode cX10_offer 28 = .ok (.iaload, 1) := by decide +kernel
theorem dX10_offer_29 : decode cX10_offer 29 = .ok (.istore 4, 2) := by decide +kernel
theorem dX10_offer_31 : decode cX10_offer 31 = .ok (.iload 4, 2) := by decide +kernel
theorem dX10_offer_33 : decode cX10_offer 33 = .ok (.iconst (-1), 1) := by decide +kernel
theorem dX10_offer_34 : decode cX10_offer 34 = .ok (.if_icmp .eq 33, 3) := by decide +kernel
theorem dX10_offer_37 : decode cX10_offer 37 = .ok (.aload_n 0, 1) := by decide +kernel
theorem dX10_offer_38 : decode cX10_offer 38 = .ok (.getfield 31, 3) := by decide +kernel
theorem dX10_offer_41 : decode cX10_offer 41 = .ok (.getfield 44, 3) := by decide +kernel
theorem dX10_offer_44 : decode cX10_offer 44 = .ok (.iload_n 3, 1) := by decide +kernel
theorem dX10_offer_45 : decode cX10_offer 45 = .ok (.bipush 6, 2) := by decide +kernel
theorem dX10_offer_47 : decode cX10_offer 47 = .ok (.invokevirtual 56, 3) := by decide +kernel
theorem dX10_offer_50 : decode cX10_offer 50 = .ok (.aload_n 0, 1) := by decide +kernel
theorem dX10_offer_51 : decode cX10_offer 51 = .ok (.getfield 31, 3) := by decide +kernel
theorem dX10_offer_54 : decode cX10_offer 54 = .ok (.getfield 44, 3) := by decide +kernel
theorem dX10_offer_57 : decode cX10_offer 57 = .ok (.iload 4, 2) := by decide +kernel
theorem dX10_offer_59 : decode cX10_offer 59 = .ok (.bipush 6, 2) := by decide +kernel
theorem dX10_offer_61 : decode cX10_offer 61 = .ok (.invokevirtual 56, 3) := by decide +kernel
theorem dX10_offer_64 : decode cX10_offer 64 = .ok (.if_icmp .ge 24, 3) := by decide +kernel
theorem dX10_offer_67 : decode cX10_offer 67 = .ok (.aload_n 0, 1) := by decide +kernel
theorem dX10_offer_68 : decode cX10_offer 68 = .ok (.getfield 11, 3) := by decide +kernel
theorem dX10_offer_71 : decode cX10_offer 71 = .ok (.iload_n 1, 1) := by decide +kernel
theorem dX10_offer_72 : decode cX10_offer 72 = .ok (.aaload, 1) := by decide +kernel
theorem dX10_offer_73 : decode cX10_offer 73 = .ok (.iload_n 2, 1) := by decide +kernel
theorem dX10_offer_74 : decode cX10_offer 74 = .ok (.iload_n 3, 1) := by decide +kernel
theorem dX10_offer_75 : decode cX10_offer 75 = .ok (.iastore, 1) := by decide +kernel
theorem dX10_offer_76 : decode cX10_offer 76 = .ok (.aload_n 0, 1) := by decide +kernel
theorem dX10_offer_77 : decode cX10_offer 77 = .ok (.getfield 16, 3) := by decide +kernel
theorem dX10_offer_80 : decode cX10_offer 80 = .ok (.iload_n 2, 1) := by decide +kernel
theorem dX10_offer_81 : decode cX10_offer 81 = .ok (.dup2, 1) := by decide +kernel
theorem dX10_offer_82 : decode cX10_offer 82 = .ok (.laload, 1) := by decide +kernel
theorem dX10_offer_83 : decode cX10_offer 83 = .ok (.lconst 1, 1) := by decide +kernel
theorem dX10_offer_84 : decode cX10_offer 84 = .ok (.iload_n 1, 1) := by decide +kernel
theorem dX10_offer_85 : decode cX10_offer 85 = .ok (.lshl, 1) := by decide +kernel
theorem dX10_offer_86 : decode cX10_offer 86 = .ok (.lor, 1) := by decide +kernel
theorem dX10_offer_87 : decode cX10_offer 87 = .ok (.lastore, 1) := by decide +kernel
theorem dX10_offer_88 : decode cX10_offer 88 = .ok (.return_, 1) := by decide +kernel
theorem dX10_prepare_0 : decode cX10_prepare 0 = .ok (.aload_n 0, 1) := by decide +kernel
theorem dX10_prepare_1 : decode cX10_prepare 1 = .ok (.getfield 27, 3) := by decide +kernel
theorem dX10_prepare_4 : decode cX10_prepare 4 = .ok (.ifCond .eq 4, 3) := by decide +kernel
theorem dX10_prepare_7 : decode cX10_prepare 7 = .ok (.return_, 1) := by decide +kernel
theorem dX10_prepare_8 : decode cX10_prepare 8 = .ok (.iconst 0, 1) := by decide +kernel
theorem dX10_prepare_9 : decode cX10_prepare 9 = .ok (.istore_n 1, 1) := by decide +kernel
theorem dX10_prepare_10 : decode cX10_prepare 10 = .ok (.iload_n 1, 1) := by decide +kernel
theorem dX10_prepare_11 : decode cX10_prepare 11 = .ok (.bipush 60, 2) := by decide +kernel
theorem dX10_prepare_13 : decode cX10_prepare 13 = .ok (.if_icmp .ge 19, 3) := by decide +kernel
theorem dX10_prepare_16 : decode cX10_prepare 16 = .ok (.aload_n 0, 1) := by decide +kernel
theorem dX10_prepare_17 : decode cX10_prepare 17 = .ok (.getfield 11, 3) := by decide +kernel
theorem dX10_prepare_20 : decode cX10_prepare 20 = .ok (.iload_n 1, 1) := by decide +kernel
theorem dX10_prepare_21 : decode cX10_prepare 21 = .ok (.aaload, 1) := by decide +kernel
theorem dX10_prepare_22 : decode cX10_prepare 22 = .ok (.iconst (-1), 1) := by decide +kernel
theorem dX10_prepare_23 : decode cX10_prepare 23 = .ok (.invokestatic 35, 3) := by decide +kernel
theorem dX10_prepare_26 : decode cX10_prepare 26 = .ok (.iinc 1 1, 3) := by decide +kernel
theorem dX10_prepare_29 : decode cX10_prepare 29 = .ok (.goto (-19), 3) := by decide +kernel
theorem dX10_prepare_32 : decode cX10_prepare 32 = .ok (.aload_n 0, 1) := by decide +kernel
theorem dX10_prepare_33 : decode cX10_prepare 33 = .ok (.getfield 16, 3) := by decide +kernel
theorem dX10_prepare_36 : decode cX10_prepare 36 = .ok (.lconst 0, 1) := by decide +kernel
theorem dX10_prepare_37 : decode cX10_prepare 37 = .ok (.invokestatic 41, 3) := by decide +kernel
theorem dX10_prepare_40 : decode cX10_prepare 40 = .ok (.iconst 0, 1) := by decide +kernel
theorem dX10_prepare_41 : decode cX10_prepare 41 = .ok (.istore_n 1, 1) := by decide +kernel
theorem dX10_prepare_42 : decode cX10_prepare 42 = .ok (.iload_n 1, 1) := by decide +kernel
theorem dX10_prepare_43 : decode cX10_prepare 43 = .ok (.aload_n 0, 1) := by decide +kernel
theorem dX10_prepare_44 : decode cX10_prepare 44 = .ok (.getfield 31, 3) := by decide +kernel
theorem dX10_prepare_47 : decode cX10_prepare 47 = .ok (.getfield 44, 3) := by decide +kernel
theorem dX10_prepare_50 : decode cX10_prepare 50 = .ok (.getfield 50, 3) := by decide +kernel
theorem dX10_prepare_53 : decode cX10_prepare 53 = .ok (.if_icmp .ge 81, 3) := by decide +kernel
theorem dX10_prepare_56 : decode cX10_prepare 56 = .ok (.aload_n 0, 1) := by decide +kernel
theorem dX10_prepare_57 : decode cX10_prepare 57 = .ok (.getfield 31, 3) := by decide +kernel
theorem dX10_prepare_60 : decode cX10_prepare 60 = .ok (.getfield 44, 3) := by decide +kernel
theorem dX10_prepare_63 : decode cX10_prepare 63 = .ok (.iload_n 1, 1) := by decide +kernel
theorem dX10_prepare_64 : decode cX10_prepare 64 = .ok (.bipush 7, 2) := by decide +kernel
theorem dX10_prepare_66 : decode cX10_prepare 66 = .ok (.invokevirtual 56, 3) := by decide +kernel
theorem dX10_prepare_69 : decode cX10_prepare 69 = .ok (.istore_n 2, 1) := by decide +kernel
theorem dX10_prepare_70 : decode cX10_prepare 70 = .ok (.aload_n 0, 1) := by decide +kernel
theorem dX10_prepare_71 : decode cX10_prepare 71 = .ok (.getfield 31, 3) := by decide +kernel
theorem dX10_prepare_74 : decode cX10_prepare 74 = .ok (.getfield 44, 3) := by decide +kernel
theorem dX10_prepare_77 : decode cX10_prepare 77 = .ok (.iload_n 1, 1) := by decide +kernel
theorem dX10_prepare_78 : decode cX10_prepare 78 = .ok (.bipush 8, 2) := by decide +kernel
theorem dX10_prepare_80 : decode cX10_prepare 80 = .ok (.invokevirtual 56, 3) := by decide +kernel
theorem dX10_prepare_83 : decode cX10_prepare 83 = .ok (.istore_n 3, 1) := by decide +kernel
theorem dX10_prepare_84 : decode cX10_prepare 84 = .ok (.aload_n 0, 1) := by decide +kernel
theorem dX10_prepare_85 : decode cX10_prepare 85 = .ok (.getfield 31, 3) := by decide +kernel
theorem dX10_prepare_88 : decode cX10_prepare 88 = .ok (.getfield 44, 3) := by decide +kernel
theorem dX10_prepare_91 : decode cX10_prepare 91 = .ok (.iload_n 1, 1) := by decide +kernel
theorem dX10_prepare_92 : decode cX10_prepare 92 = .ok (.iconst 4, 1) := by decide +kernel
theorem dX10_prepare_93 : decode cX10_prepare 93 = .ok (.invokevirtual 56, 3) := by decide +kernel
theorem dX10_prepare_96 : decode cX10_prepare 96 = .ok (.ifCond .ne 32, 3) := by decide +kernel
theorem dX10_prepare_99 : decode cX10_prepare 99 = .ok (.aload_n 0, 1) := by decide +kernel
theorem dX10_prepare_100 : decode cX10_prepare 100 = .ok (.iload_n 2, 1) := by decide +kernel
theorem dX10_prepare_101 : decode cX10_prepare 101 = .ok (.iload_n 3, 1) := by decide +kernel
theorem dX10_prepare_102 : decode cX10_prepare 102 = .ok (.iload_n 1, 1) := by decide +kernel
theorem dX10_prepare_103 : decode cX10_prepare 103 = .ok (.invokevirtual 60, 3) := by decide +kernel
theorem dX10_prepare_106 : decode cX10_prepare 106 = .ok (.aload_n 0, 1) := by decide +kernel
theorem dX10_prepare_107 : decode cX10_prepare 107 = .ok (.getfield 31, 3) := by decide +kernel
theorem dX10_prepare_110 : decode cX10_prepare 110 = .ok (.getfield 44, 3) := by decide +kernel
theorem dX10_prepare_113 : decode cX10_prepare 113 = .ok (.iload_n 1, 1) := by decide +kernel
theorem dX10_prepare_114 : decode cX10_prepare 114 = .ok (.iconst 5, 1) := by decide +kernel
theorem dX10_prepare_115 : decode cX10_prepare 115 = .ok (.invokevirtual 56, 3) := by decide +kernel
theorem dX10_prepare_118 : decode cX10_prepare 118 = .ok (.ifCond .ne 10, 3) := by decide +kernel
theorem dX10_prepare_121 : decode cX10_prepare 121 = .ok (.aload_n 0, 1) := by decide +kernel
theorem dX10_prepare_122 : decode cX10_prepare 122 = .ok (.iload_n 3, 1) := by decide +kernel
theorem dX10_prepare_123 : decode cX10_prepare 123 = .ok (.iload_n 2, 1) := by decide +kernel
theorem dX10_prepare_124 : decode cX10_prepare 124 = .ok (.iload_n 1, 1) := by decide +kernel
theorem dX10_prepare_125 : decode cX10_prepare 125 = .ok (.invokevirtual 60, 3) := by decide +kernel
theorem dX10_prepare_128 : decode cX10_prepare 128 = .ok (.iinc 1 1, 3) := by decide +kernel
theorem dX10_prepare_131 : decode cX10_prepare 131 = .ok (.goto (-89), 3) := by decide +kernel
theorem dX10_prepare_134 : decode cX10_prepare 134 = .ok (.aload_n 0, 1) := by decide +kernel
theorem dX10_prepare_135 : decode cX10_prepare 135 = .ok (.lconst 0, 1) := by decide +kernel
theorem dX10_prepare_136 : decode cX10_prepare 136 = .ok (.putfield 23, 3) := by decide +kernel
theorem dX10_prepare_139 : decode cX10_prepare 139 = .ok (.aload_n 0, 1) := by decide +kernel
theorem dX10_prepare_140 : decode cX10_prepare 140 = .ok (.iconst 1, 1) := by decide +kernel
theorem dX10_prepare_141 : decode cX10_prepare 141 = .ok (.putfield 27, 3) := by decide +kernel
theorem dX10_prepare_144 : decode cX10_prepare 144 = .ok (.return_, 1) := by decide +kernel
theorem dX10_streetAt_0 : decode cX10_streetAt 0 = .ok (.iload_n 3, 1) := by decide +kernel
theorem dX10_streetAt_1 : decode cX10_streetAt 1 = .ok (.ifCond .lt 9, 3) := by decide +kernel
theorem dX10_streetAt_4 : decode cX10_streetAt 4 = .ok (.iload_n 3, 1) := by decide +kernel
theorem dX10_streetAt_5 : decode cX10_streetAt 5 = .ok (.bipush 60, 2) := by decide +kernel
theorem dX10_streetAt_7 : decode cX10_streetAt 7 = .ok (.if_icmp .lt 5, 3) := by decide +kernel
theorem dX10_streetAt_10 : decode cX10_streetAt 10 = .ok (.iconst (-1), 1) := by decide +kernel
theorem dX10_streetAt_11 : decode cX10_streetAt 11 = .ok (.ireturn, 1) := by decide +kernel
theorem dX10_streetAt_12 : decode cX10_streetAt 12 = .ok (.iload_n 1, 1) := by decide +kernel
theorem dX10_streetAt_13 : decode cX10_streetAt 13 = .ok (.istore 4, 2) := by decide +kernel
theorem dX10_streetAt_15 : decode cX10_streetAt 15 = .ok (.aload_n 0, 1) := by decide +kernel
theorem dX10_streetAt_16 : decode cX10_streetAt 16 = .ok (.iload 4, 2) := by decide +kernel
theorem dX10_streetAt_18 : decode cX10_streetAt 18 = .ok (.iload_n 2, 1) := by decide +kernel
theorem dX10_streetAt_19 : decode cX10_streetAt 19 = .ok (.invokevirtual 93, 3) := by decide +kernel
theorem dX10_streetAt_22 : decode cX10_streetAt 22 = .ok (.istore 5, 2) := by decide +kernel
theorem dX10_streetAt_24 : decode cX10_streetAt 24 = .ok (.iconst 0, 1) := by decide +kernel
theorem dX10_streetAt_25 : decode cX10_streetAt 25 = .ok (.istore 6, 2) := by decide +kernel
theorem dX10_streetAt_27 : decode cX10_streetAt 27 = .ok (.iload 6, 2) := by decide +kernel
theorem dX10_streetAt_29 : decode cX10_streetAt 29 = .ok (.iload_n 3, 1) := by decide +kernel
theorem dX10_streetAt_30 : decode cX10_streetAt 30 = .ok (.if_icmp .ge 37, 3) := by decide +kernel
theorem dX10_streetAt_33 : decode cX10_streetAt 33 = .ok (.iload 5, 2) := by decide +kernel
theorem dX10_streetAt_35 : decode cX10_streetAt 35 = .ok (.iconst (-1), 1) := by decide +kernel
theorem dX10_streetAt_36 : decode cX10_streetAt 36 = .ok (.if_icmp .eq 31, 3) := by decide +kernel
theorem dX10_streetAt_39 : decode cX10_streetAt 39 = .ok (.aload_n 0, 1) := by decide +kernel
theorem dX10_streetAt_40 : decode cX10_streetAt 40 = .ok (.getfield 31, 3) := by decide +kernel
theorem dX10_streetAt_43 : decode cX10_streetAt 43 = .ok (.iload 5, 2) := by decide +kernel
theorem dX10_streetAt_45 : decode cX10_streetAt 45 = .ok (.iload 4, 2) := by decide +kernel
theorem dX10_streetAt_47 : decode cX10_streetAt 47 = .ok (.invokevirtual 96, 3) := by decide +kernel
theorem dX10_streetAt_50 : decode cX10_streetAt 50 = .ok (.istore 4, 2) := by decide +kernel
theorem dX10_streetAt_52 : decode cX10_streetAt 52 = .ok (.aload_n 0, 1) := by decide +kernel
theorem dX10_streetAt_53 : decode cX10_streetAt 53 = .ok (.iload 4, 2) := by decide +kernel
theorem dX10_streetAt_55 : decode cX10_streetAt 55 = .ok (.iload_n 2, 1) := by decide +kernel
theorem dX10_streetAt_56 : decode cX10_streetAt 56 = .ok (.invokevirtual 93, 3) := by decide +kernel
theorem dX10_streetAt_59 : decode cX10_streetAt 59 = .ok (.istore 5, 2) := by decide +kernel
theorem dX10_streetAt_61 : decode cX10_streetAt 61 = .ok (.iinc 6 1, 3) := by decide +kernel
theorem dX10_streetAt_64 : decode cX10_streetAt 64 = .ok (.goto (-37), 3) := by decide +kernel
theorem dX10_streetAt_67 : decode cX10_streetAt 67 = .ok (.iload 5, 2) := by decide +kernel
theorem dX10_streetAt_69 : decode cX10_streetAt 69 = .ok (.ireturn, 1) := by decide +kernel
theorem dX11_answer_0 : decode cX11_answer 0 = .ok (.aload_n 0, 1) := by decide +kernel
theorem dX11_answer_1 : decode cX11_answer 1 = .ok (.getfield 10, 3) := by decide +kernel
theorem dX11_answer_4 : decode cX11_answer 4 = .ok (.iconst 0, 1) := by decide +kernel
theorem dX11_answer_5 : decode cX11_answer 5 = .ok (.putfield 312, 3) := by decide +kernel
theorem dX11_answer_8 : decode cX11_answer 8 = .ok (.iload_n 1, 1) := by decide +kernel
theorem dX11_answer_9 : decode cX11_answer 9 = .ok (.ireturn, 1) := by decide +kernel
theorem dX11_asks_0 : decode cX11_asks 0 = .ok (.aload_n 0, 1) := by decide +kernel
theorem dX11_asks_1 : decode cX11_asks 1 = .ok (.getfield 19, 3) := by decide +kernel
theorem dX11_asks_4 : decode cX11_asks 4 = .ok (.getfield 203, 3) := by decide +kernel
theorem dX11_asks_7 : decode cX11_asks 7 = .ok (.iload_n 1, 1) := by decide +kernel
theorem dX11_asks_8 : decode cX11_asks 8 = .ok (.invokevirtual 126, 3) := by decide +kernel
theorem dX11_asks_11 : decode cX11_asks 11 = .ok (.ifCond .eq 26, 3) := by decide +kernel
theorem dX11_asks_14 : decode cX11_asks 14 = .ok (.aload_n 0, 1) := by decide +kernel
theorem dX11_asks_15 : decode cX11_asks 15 = .ok (.getfield 19, 3) := by decide +kernel
theorem dX11_asks_18 : decode cX11_asks 18 = .ok (.getfield 105, 3) := by decide +kernel
theorem dX11_asks_21 : decode cX11_asks 21 = .ok (.iload_n 2, 1) := by decide +kernel
theorem dX11_asks_22 : decode cX11_asks 22 = .ok (.invokevirtual 126, 3) := by decide +kernel
theorem dX11_asks_25 : decode cX11_asks 25 = .ok (.ifCond .eq 12, 3) := by decide +kernel
theorem dX11_asks_28 : decode cX11_asks 28 = .ok (.iload_n 3, 1) := by decide +kernel
theorem dX11_asks_29 : decode cX11_asks 29 = .ok (.ifCond .lt 8, 3) := by decide +kernel
theorem dX11_asks_32 : decode cX11_asks 32 = .ok (.iload_n 3, 1) := by decide +kernel
theorem dX11_asks_33 : decode cX11_asks 33 = .ok (.iconst 3, 1) := by decide +kernel
theorem dX11_asks_34 : decode cX11_asks 34 = .ok (.if_icmp .le 10, 3) := by decide +kernel
theorem dX11_asks_37 : decode cX11_asks 37 = .ok (.aload_n 0, 1) := by decide +kernel
theorem dX11_asks_38 : decode cX11_asks 38 = .ok (.bipush (-2), 2) := by decide +kernel
theorem dX11_asks_40 : decode cX11_asks 40 = .ok (.invokevirtual 88, 3) := by decide +kernel
theorem dX11_asks_43 : decode cX11_asks 43 = .ok (.ireturn, 1) := by decide +kernel
theorem dX11_asks_44 : decode cX11_asks 44 = .ok (.aload_n 0, 1) := by decide +kernel
theorem dX11_asks_45 : decode cX11_asks 45 = .ok (.getfield 19, 3) := by decide +kernel
theorem dX11_asks_48 : decode cX11_asks 48 = .ok (.iload_n 1, 1) := by decide +kernel
theorem dX11_asks_49 : decode cX11_asks 49 = .ok (.invokevirtual 225, 3) := by decide +kernel
theorem dX11_asks_52 : decode cX11_asks 52 = .ok (.ifCond .eq 10, 3) := by decide +kernel
theorem dX11_asks_55 : decode cX11_asks 55 = .ok (.aload_n 0, 1) := by decide +kernel
theorem dX11_asks_56 : decode cX11_asks 56 = .ok (.bipush (-4), 2) := by decide +kernel
theorem dX11_asks_58 : decode cX11_asks 58 = .ok (.invokevirtual 88, 3) := by decide +kernel
theorem dX11_asks_61 : decode cX11_asks 61 = .ok (.ireturn, 1) := by decide +kernel
theorem dX11_asks_62 : decode cX11_asks 62 = .ok (.aload_n 0, 1) := by decide +kernel
theorem dX11_asks_63 : decode cX11_asks 63 = .ok (.getfield 55, 3) := by decide +kernel
theorem dX11_asks_66 : decode cX11_asks 66 = .ok (.iload_n 1, 1) := by decide +kernel
theorem dX11_asks_67 : decode cX11_asks 67 = .ok (.aaload, 1) := by decide +kernel
theorem dX11_asks_68 : decode cX11_asks 68 = .ok (.astore 4, 2) := by decide +kernel
theorem dX11_asks_70 : decode cX11_asks 70 = .ok (.iload_n 3, 1) := by decide +kernel
theorem dX11_asks_71 : decode cX11_asks 71 = .ok (.tableswitch 68 0 2 #[25, 35, 45], 25) := by decide +kernel
theorem dX11_asks_96 : decode cX11_asks 96 = .ok (.aload_n 0, 1) := by decide +kernel
theorem dX11_asks_97 : decode cX11_asks 97 = .ok (.aload 4, 2) := by decide +kernel
theorem dX11_asks_99 : decode cX11_asks 99 = .ok (.getfield 228, 3) := by decide +kernel
theorem dX11_asks_102 : decode cX11_asks 102 = .ok (.invokevirtual 98, 3) := by decide +kernel
theorem dX11_asks_105 : decode cX11_asks 105 = .ok (.ireturn, 1) := by decide +kernel
theorem dX11_asks_106 : decode cX11_asks 106 = .ok (.aload_n 0, 1) := by decide +kernel
theorem dX11_asks_107 : decode cX11_asks 107 = .ok (.aload 4, 2) := by decide +kernel
theorem dX11_asks_109 : decode cX11_asks 109 = .ok (.getfield 231, 3) := by decide +kernel
theorem dX11_asks_112 : decode cX11_asks 112 = .ok (.invokevirtual 98, 3) := by decide +kernel
theorem dX11_asks_115 : decode cX11_asks 115 = .ok (.ireturn, 1) := by decide +kernel
theorem dX11_asks_116 : decode cX11_asks 116 = .ok (.aload_n 0, 1) := by decide +kernel
theorem dX11_asks_117 : decode cX11_asks 117 = .ok (.aload 4, 2) := by decide +kernel
theorem dX11_asks_119 : decode cX11_asks 119 = .ok (.aload_n 0, 1) := by decide +kernel
theorem dX11_asks_120 : decode cX11_asks 120 = .ok (.getfield 19, 3) := by decide +kernel
theorem dX11_asks_123 : decode cX11_asks 123 = .ok (.getfield 105, 3) := by decide +kernel
theorem dX11_asks_126 : decode cX11_asks 126 = .ok (.iload_n 2, 1) := by decide +kernel
theorem dX11_asks_127 : decode cX11_asks 127 = .ok (.bipush 6, 2) := by decide +kernel
theorem dX11_asks_129 : decode cX11_asks 129 = .ok (.invokevirtual 129, 3) := by decide +kernel
theorem dX11_asks_132 : decode cX11_asks 132 = .ok (.invokevirtual 234, 3) := by decide +kernel
theorem dX11_asks_135 : decode cX11_asks 135 = .ok (.invokevirtual 98, 3) := by decide +kernel
theorem dX11_asks_138 : decode cX11_asks 138 = .ok (.ireturn, 1) := by decide +kernel
theorem dX11_asks_139 : decode cX11_asks 139 = .ok (.aload 4, 2) := by decide +kernel
theorem dX11_asks_141 : decode cX11_asks 141 = .ok (.aload_n 0, 1) := by decide +kernel
theorem dX11_asks_142 : decode cX11_asks 142 = .ok (.getfield 19, 3) := by decide +kernel
theorem dX11_asks_145 : decode cX11_asks 145 = .ok (.getfield 105, 3) := by decide +kernel
theorem dX11_asks_148 : decode cX11_asks 148 = .ok (.iload_n 2, 1) := by decide +kernel
theorem dX11_asks_149 : decode cX11_asks 149 = .ok (.iconst 0, 1) := by decide +kernel
theorem dX11_asks_150 : decode cX11_asks 150 = .ok (.invokevirtual 129, 3) := by decide +kernel
theorem dX11_asks_153 : decode cX11_asks 153 = .ok (.invokevirtual 237, 3) := by decide +kernel
theorem dX11_asks_156 : decode cX11_asks 156 = .ok (.istore 5, 2) := by decide +kernel
theorem dX11_asks_158 : decode cX11_asks 158 = .ok (.iload 5, 2) := by decide +kernel
theorem dX11_asks_160 : decode cX11_asks 160 = .ok (.ifCond .ne 12, 3) := by decide +kernel
theorem dX11_asks_163 : decode cX11_asks 163 = .ok (.aload_n 0, 1) := by decide +kernel
theorem dX11_asks_164 : decode cX11_asks 164 = .ok (.bipush (-9), 2) := by decide +kernel
theorem dX11_asks_166 : decode cX11_asks 166 = .ok (.invokevirtual 88, 3) := by decide +kernel
theorem dX11_asks_169 : decode cX11_asks 169 = .ok (.goto 9, 3) := by decide +kernel
theorem dX11_asks_172 : decode cX11_asks 172 = .ok (.aload_n 0, 1) := by decide +kernel
theorem dX11_asks_173 : decode cX11_asks 173 = .ok (.iload 5, 2) := by decide +kernel
theorem dX11_asks_175 : decode cX11_asks 175 = .ok (.invokevirtual 98, 3) := by decide +kernel
theorem dX11_asks_178 : decode cX11_asks 178 = .ok (.ireturn, 1) := by decide +kernel
theorem dX11_at_0 : decode cX11_at 0 = .ok (.iload_n 2, 1) := by decide +kernel
theorem dX11_at_1 : decode cX11_at 1 = .ok (.ifCond .lt 8, 3) := by decide +kernel
theorem dX11_at_4 : decode cX11_at 4 = .ok (.iload_n 2, 1) := by decide +kernel
theorem dX11_at_5 : decode cX11_at 5 = .ok (.iconst 4, 1) := by decide +kernel
theorem dX11_at_6 : decode cX11_at 6 = .ok (.if_icmp .lt 10, 3) := by decide +kernel
theorem dX11_at_9 : decode cX11_at 9 = .ok (.aload_n 0, 1) := by decide +kernel
theorem dX11_at_10 : decode cX11_at 10 = .ok (.bipush (-2), 2) := by decide +kernel
theorem dX11_at_12 : decode cX11_at 12 = .ok (.invokevirtual 88, 3) := by decide +kernel
theorem dX11_at_15 : decode cX11_at 15 = .ok (.ireturn, 1) := by decide +kernel
theorem dX11_at_16 : decode cX11_at 16 = .ok (.aload_n 0, 1) := by decide +kernel
theorem dX11_at_17 : decode cX11_at 17 = .ok (.aload_n 0, 1) := by decide +kernel
theorem dX11_at_18 : decode cX11_at 18 = .ok (.getfield 19, 3) := by decide +kernel
theorem dX11_at_21 : decode cX11_at 21 = .ok (.getfield 274, 3) := by decide +kernel
theorem dX11_at_24 : decode cX11_at 24 = .ok (.iload_n 1, 1) := by decide +kernel
theorem dX11_at_25 : decode cX11_at 25 = .ok (.invokevirtual 126, 3) := by decide +kernel
theorem dX11_at_28 : decode cX11_at 28 = .ok (.ifCond .eq 18, 3) := by decide +kernel
theorem dX11_at_31 : decode cX11_at 31 = .ok (.aload_n 0, 1) := by decide +kernel
theorem dX11_at_32 : decode cX11_at 32 = .ok (.getfield 19, 3) := by decide +kernel
theorem dX11_at_35 : decode cX11_at 35 = .ok (.getfield 274, 3) := by decide +kernel
theorem dX11_at_38 : decode cX11_at 38 = .ok (.iload_n 1, 1) := by decide +kernel
theorem dX11_at_39 : decode cX11_at 39 = .ok (.iload_n 2, 1) := by decide +kernel
theorem dX11_at_40 : decode cX11_at 40 = .ok (.invokevirtual 129, 3) := by decide +kernel
theorem dX11_at_43 : decode cX11_at 43 = .ok (.goto 4, 3) := by decide +kernel
theorem dX11_at_46 : decode cX11_at 46 = .ok (.iconst (-1), 1) := by decide +kernel
theorem dX11_at_47 : decode cX11_at 47 = .ok (.invokevirtual 98, 3) := by decide +kernel
theorem dX11_at_50 : decode cX11_at 50 = .ok (.ireturn, 1) := by decide +kernel
theorem dX11_become_0 : decode cX11_become 0 = .ok (.aload_n 0, 1) := by decide +kernel
theorem dX11_become_1 : decode cX11_become 1 = .ok (.getfield 19, 3) := by decide +kernel
theorem dX11_become_4 : decode cX11_become 4 = .ok (.getfield 105, 3) := by decide +kernel
theorem dX11_become_7 : decode cX11_become 7 = .ok (.iload_n 1, 1) := by decide +kernel
theorem dX11_become_8 : decode cX11_become 8 = .ok (.invokevirtual 126, 3) := by decide +kernel
theorem dX11_become_11 : decode cX11_become 11 = .ok (.ifCond .ne 10, 3) := by decide +kernel
theorem dX11_become_14 : decode cX11_become 14 = .ok (.aload_n 0, 1) := by decide +kernel
theorem dX11_become_15 : decode cX11_become 15 = .ok (.bipush (-2), 2) := by decide +kernel
theorem dX11_become_17 : decode cX11_become 17 = .ok (.invokevirtual 88, 3) := by decide +kernel
theorem dX11_become_20 : decode cX11_become 20 = .ok (.ireturn, 1) := by decide +kernel
theorem dX11_become_21 : decode cX11_become 21 = .ok (.aload_n 0, 1) := by decide +kernel
theorem dX11_become_22 : decode cX11_become 22 = .ok (.getfield 19, 3) := by decide +kernel
theorem dX11_become_25 : decode cX11_become 25 = .ok (.getfield 105, 3) := by decide +kernel
theorem dX11_become_28 : decode cX11_become 28 = .ok (.iload_n 1, 1) := by decide +kernel
theorem dX11_become_29 : decode cX11_become 29 = .ok (.iload_n 2, 1) := by decide +kernel
theorem dX11_become_30 : decode cX11_become 30 = .ok (.invokevirtual 129, 3) := by decide +kernel
theorem dX11_become_33 : decode cX11_become 33 = .ok (.istore 4, 2) := by decide +kernel
theorem dX11_become_35 : decode cX11_become 35 = .ok (.aload_n 0, 1) := by decide +kernel
theorem dX11_become_36 : decode cX11_become 36 = .ok (.invokevirtual 95, 3) := by decide +kernel
theorem dX11_become_39 : decode cX11_become 39 = .ok (.aload_n 0, 1) := by decide +kernel
theorem dX11_become_40 : decode cX11_become 40 = .ok (.getfield 19, 3) := by decide +kernel
theorem dX11_become_43 : decode cX11_become 43 = .ok (.getfield 105, 3) := by decide +kernel
theorem dX11_become_46 : decode cX11_become 46 = .ok (.iload_n 1, 1) := by decide +kernel
theorem dX11_become_47 : decode cX11_become 47 = .ok (.iload_n 2, 1) := by decide +kernel
theorem dX11_become_48 : decode cX11_become 48 = .ok (.iload_n 3, 1) := by decide +kernel
theorem dX11_become_49 : decode cX11_become 49 = .ok (.invokevirtual 118, 3) := by decide +kernel
theorem dX11_become_52 : decode cX11_become 52 = .ok (.aload_n 0, 1) := by decide +kernel
theorem dX11_become_53 : decode cX11_become 53 = .ok (.iload 4, 2) := by decide +kernel
theorem dX11_become_55 : decode cX11_become 55 = .ok (.invokevirtual 98, 3) := by decide +kernel
theorem dX11_become_58 : decode cX11_become 58 = .ok (.ireturn, 1) := by decide +kernel
theorem dX11_bodyOf_0 : decode cX11_bodyOf 0 = .ok (.iload_n 1, 1) := by decide +kernel
theorem dX11_bodyOf_1 : decode cX11_bodyOf 1 = .ok (.tableswitch 78 1 3 #[27, 44, 61], 27) := by decide +kernel
theorem dX11_bodyOf_28 : decode cX11_bodyOf 28 = .ok (.new 355, 3) := by decide +kernel
theorem dX11_bodyOf_31 : decode cX11_bodyOf 31 = .ok (.dup, 1) := by decide +kernel
theorem dX11_bodyOf_32 : decode cX11_bodyOf 32 = .ok (.aload_n 0, 1) := by decide +kernel
theorem dX11_bodyOf_33 : decode cX11_bodyOf 33 = .ok (.getfield 10, 3) := by decide +kernel
theorem dX11_bodyOf_36 : decode cX11_bodyOf 36 = .ok (.bipush 30, 2) := by decide +kernel
theorem dX11_bodyOf_38 : decode cX11_bodyOf 38 = .ok (.sipush 600, 3) := by decide +kernel
theorem dX11_bodyOf_41 : decode cX11_bodyOf 41 = .ok (.invokespecial 357, 3) := by decide +kernel
theorem dX11_bodyOf_44 : decode cX11_bodyOf 44 = .ok (.areturn, 1) := by decide +kernel
theorem dX11_bodyOf_45 : decode cX11_bodyOf 45 = .ok (.new 240, 3) := by decide +kernel
theorem dX11_bodyOf_48 : decode cX11_bodyOf 48 = .ok (.dup, 1) := by decide +kernel
theorem dX11_bodyOf_49 : decode cX11_bodyOf 49 = .ok (.aload_n 0, 1) := by decide +kernel
theorem dX11_bodyOf_50 : decode cX11_bodyOf 50 = .ok (.getfield 10, 3) := by decide +kernel
theorem dX11_bodyOf_53 : decode cX11_bodyOf 53 = .ok (.bipush 45, 2) := by decide +kernel
theorem dX11_bodyOf_55 : decode cX11_bodyOf 55 = .ok (.sipush 200, 3) := by decide +kernel
theorem dX11_bodyOf_58 : decode cX11_bodyOf 58 = .ok (.invokespecial 358, 3) := by decide +kernel
theorem dX11_bodyOf_61 : decode cX11_bodyOf 61 = .ok (.areturn, 1) := by decide +kernel
theorem dX11_bodyOf_62 : decode cX11_bodyOf 62 = .ok (.new 359, 3) := by decide +kernel
theorem dX11_bodyOf_65 : decode cX11_bodyOf 65 = .ok (.dup, 1) := by decide +kernel
theorem dX11_bodyOf_66 : decode cX11_bodyOf 66 = .ok (.aload_n 0, 1) := by decide +kernel
theorem dX11_bodyOf_67 : decode cX11_bodyOf 67 = .ok (.getfield 10, 3) := by decide +kernel
theorem dX11_bodyOf_70 : decode cX11_bodyOf 70 = .ok (.bipush 20, 2) := by decide +kernel
theorem dX11_bodyOf_72 : decode cX11_bodyOf 72 = .ok (.sipush 400, 3) := by decide +kernel
theorem dX11_bodyOf_75 : decode cX11_bodyOf 75 = .ok (.invokespecial 361, 3) := by decide +kernel
theorem dX11_bodyOf_78 : decode cX11_bodyOf 78 = .ok (.areturn, 1) := by decide +kernel
theorem dX11_bodyOf_79 : decode cX11_bodyOf 79 = .ok (.new 53, 3) := by decide +kernel
theorem dX11_bodyOf_82 : decode cX11_bodyOf 82 = .ok (.dup, 1) := by decide +kernel
theorem dX11_bodyOf_83 : decode cX11_bodyOf 83 = .ok (.aload_n 0, 1) := by decide +kernel
theorem dX11_bodyOf_84 : decode cX11_bodyOf 84 = .ok (.getfield 10, 3) := by decide +kernel
theorem dX11_bodyOf_87 : decode cX11_bodyOf 87 = .ok (.bipush 50, 2) := by decide +kernel
theorem dX11_bodyOf_89 : decode cX11_bodyOf 89 = .ok (.sipush 200, 3) := by decide +kernel
theorem dX11_bodyOf_92 : decode cX11_bodyOf 92 = .ok (.invokespecial 85, 3) := by decide +kernel
theorem dX11_bodyOf_95 : decode cX11_bodyOf 95 = .ok (.areturn, 1) := by decide +kernel
theorem dX11_change_0 : decode cX11_change 0 = .ok (.aload_n 0, 1) := by decide +kernel
theorem dX11_change_1 : decode cX11_change 1 = .ok (.getfield 23, 3) := by decide +kernel
theorem dX11_change_4 : decode cX11_change 4 = .ok (.aload_n 0, 1) := by decide +kernel
theorem dX11_change_5 : decode cX11_change 5 = .ok (.getfield 19, 3) := by decide +kernel
theorem dX11_change_8 : decode cX11_change 8 = .ok (.invokevirtual 304, 3) := by decide +kernel
theorem dX11_change_11 : decode cX11_change 11 = .ok (.aload_n 0, 1) := by decide +kernel
theorem dX11_change_12 : decode cX11_change 12 = .ok (.iconst 1, 1) := by decide +kernel
theorem dX11_change_13 : decode cX11_change 13 = .ok (.putfield 81, 3) := by decide +kernel
theorem dX11_change_16 : decode cX11_change 16 = .ok (.aload_n 0, 1) := by decide +kernel
theorem dX11_change_17 : decode cX11_change 17 = .ok (.invokevirtual 306, 3) := by decide +kernel
theorem dX11_change_20 : decode cX11_change 20 = .ok (.return_, 1) := by decide +kernel
theorem dX11_copies_0 : decode cX11_copies 0 = .ok (.iconst 0, 1) := by decide +kernel
theorem dX11_copies_1 : decode cX11_copies 1 = .ok (.istore 4, 2) := by decide +kernel
theorem dX11_copies_3 : decode cX11_copies 3 = .ok (.iconst 0, 1) := by decide +kernel
theorem dX11_copies_4 : decode cX11_copies 4 = .ok (.istore 5, 2) := by decide +kernel
theorem dX11_copies_6 : decode cX11_copies 6 = .ok (.iload 5, 2) := by decide +kernel
theorem dX11_copies_8 : decode cX11_copies 8 = .ok (.aload_n 0, 1) := by decide +kernel
theorem dX11_copies_9 : decode cX11_copies 9 = .ok (.getfield 19, 3) := by decide +kernel
theorem dX11_copies_12 : decode cX11_copies 12 = .ok (.getfield 144, 3) := by decide +kernel
theorem dX11_copies_15 : decode cX11_copies 15 = .ok (.getfield 109, 3) := by decide +kernel
theorem dX11_copies_18 : decode cX11_copies 18 = .ok (.if_icmp .ge 66, 3) := by decide +kernel
theorem dX11_copies_21 : decode cX11_copies 21 = .ok (.aload_n 0, 1) := by decide +kernel
theorem dX11_copies_22 : decode cX11_copies 22 = .ok (.getfield 19, 3) := by decide +kernel
theorem dX11_copies_25 : decode cX11_copies 25 = .ok (.iload 5, 2) := by decide +kernel
theorem dX11_copies_27 : decode cX11_copies 27 = .ok (.iload_n 1, 1) := by decide +kernel
theorem dX11_copies_28 : decode cX11_copies 28 = .ok (.iload 5, 2) := by decide +kernel
theorem dX11_copies_30 : decode cX11_copies 30 = .ok (.iload_n 2, 1) := by decide +kernel
theorem dX11_copies_31 : decode cX11_copies 31 = .ok (.iload_n 3, 1) := by decide +kernel
theorem dX11_copies_32 : decode cX11_copies 32 = .ok (.invokevirtual 179, 3) := by decide +kernel
theorem dX11_copies_35 : decode cX11_copies 35 = .ok (.istore 6, 2) := by decide +kernel
theorem dX11_copies_37 : decode cX11_copies 37 = .ok (.iload 6, 2) := by decide +kernel
theorem dX11_copies_39 : decode cX11_copies 39 = .ok (.ifCond .eq 13, 3) := by decide +kernel
theorem dX11_copies_42 : decode cX11_copies 42 = .ok (.aload_n 0, 1) := by decide +kernel
theorem dX11_copies_43 : decode cX11_copies 43 = .ok (.iload 6, 2) := by decide +kernel
theorem dX11_copies_45 : decode cX11_copies 45 = .ok (.invokevirtual 88, 3) := by decide +kernel
theorem dX11_copies_48 : decode cX11_copies 48 = .ok (.pop, 1) := by decide +kernel
theorem dX11_copies_49 : decode cX11_copies 49 = .ok (.iload 4, 2) := by decide +kernel
theorem dX11_copies_51 : decode cX11_copies 51 = .ok (.ireturn, 1) := by decide +kernel
theorem dX11_copies_52 : decode cX11_copies 52 = .ok (.iload 4, 2) := by decide +kernel
theorem dX11_copies_54 : decode cX11_copies 54 = .ok (.ifCond .ne 7, 3) := by decide +kernel
theorem dX11_copies_57 : decode cX11_copies 57 = .ok (.aload_n 0, 1) := by decide +kernel
theorem dX11_copies_58 : decode cX11_copies 58 = .ok (.invokevirtual 95, 3) := by decide +kernel
theorem dX11_copies_61 : decode cX11_copies 61 = .ok (.aload_n 0, 1) := by decide +kernel
theorem dX11_copies_62 : decode cX11_copies 62 = .ok (.getfield 19, 3) := by decide +kernel
theorem dX11_copies_65 : decode cX11_copies 65 = .ok (.iload 5, 2) := by decide +kernel
theorem dX11_copies_67 : decode cX11_copies 67 = .ok (.iload_n 1, 1) := by decide +kernel
theorem dX11_copies_68 : decode cX11_copies 68 = .ok (.iload 5, 2) := by decide +kernel
theorem dX11_copies_70 : decode cX11_copies 70 = .ok (.iload_n 2, 1) := by decide +kernel
theorem dX11_copies_71 : decode cX11_copies 71 = .ok (.iload_n 3, 1) := by decide +kernel
theorem dX11_copies_72 : decode cX11_copies 72 = .ok (.invokevirtual 183, 3) := by decide +kernel
theorem dX11_copies_75 : decode cX11_copies 75 = .ok (.iinc 4 1, 3) := by decide +kernel
theorem dX11_copies_78 : decode cX11_copies 78 = .ok (.iinc 5 1, 3) := by decide +kernel
theorem dX11_copies_81 : decode cX11_copies 81 = .ok (.goto (-75), 3) := by decide +kernel
theorem dX11_copies_84 : decode cX11_copies 84 = .ok (.aload_n 0, 1) := by decide +kernel
theorem dX11_copies_85 : decode cX11_copies 85 = .ok (.iload 4, 2) := by decide +kernel
theorem dX11_copies_87 : decode cX11_copies 87 = .ok (.invokevirtual 98, 3) := by decide +kernel
theorem dX11_copies_90 : decode cX11_copies 90 = .ok (.ireturn, 1) := by decide +kernel
theorem dX11_copy_0 : decode cX11_copy 0 = .ok (.aload_n 0, 1) := by decide +kernel
theorem dX11_copy_1 : decode cX11_copy 1 = .ok (.getfield 19, 3) := by decide +kernel
theorem dX11_copy_4 : decode cX11_copy 4 = .ok (.getfield 144, 3) := by decide +kernel
theorem dX11_copy_7 : decode cX11_copy 7 = .ok (.iload_n 1, 1) := by decide +kernel
theorem dX11_copy_8 : decode cX11_copy 8 = .ok (.invokevirtual 126, 3) := by decide +kernel
theorem dX11_copy_11 : decode cX11_copy 11 = .ok (.ifCond .eq 36, 3) := by decide +kernel
theorem dX11_copy_14 : decode cX11_copy 14 = .ok (.aload_n 0, 1) := by decide +kernel
theorem dX11_copy_15 : decode cX11_copy 15 = .ok (.getfield 19, 3) := by decide +kernel
theorem dX11_copy_18 : decode cX11_copy 18 = .ok (.getfield 144, 3) := by decide +kernel
theorem dX11_copy_21 : decode cX11_copy 21 = .ok (.iload_n 3, 1) := by decide +kernel
theorem dX11_copy_22 : decode cX11_copy 22 = .ok (.invokevirtual 126, 3) := by decide +kernel
theorem dX11_copy_25 : decode cX11_copy 25 = .ok (.ifCond .eq 22, 3) := by decide +kernel
theorem dX11_copy_28 : decode cX11_copy 28 = .ok (.aload_n 0, 1) := by decide +kernel
theorem dX11_copy_29 : decode cX11_copy 29 = .ok (.getfield 19, 3) := by decide +kernel
theorem dX11_copy_32 : decode cX11_copy 32 = .ok (.iload_n 1, 1) := by decide +kernel
theorem dX11_copy_33 : decode cX11_copy 33 = .ok (.invokevirtual 158, 3) := by decide +kernel
theorem dX11_copy_36 : decode cX11_copy 36 = .ok (.aload_n 0, 1) := by decide +kernel
theorem dX11_copy_37 : decode cX11_copy 37 = .ok (.getfield 19, 3) := by decide +kernel
theorem dX11_copy_40 : decode cX11_copy 40 = .ok (.iload_n 3, 1) := by decide +kernel
theorem dX11_copy_41 : decode cX11_copy 41 = .ok (.invokevirtual 158, 3) := by decide +kernel
theorem dX11_copy_44 : decode cX11_copy 44 = .ok (.if_icmp .eq 10, 3) := by decide +kernel
theorem dX11_copy_47 : decode cX11_copy 47 = .ok (.aload_n 0, 1) := by decide +kernel
theorem dX11_copy_48 : decode cX11_copy 48 = .ok (.bipush (-2), 2) := by decide +kernel
theorem dX11_copy_50 : decode cX11_copy 50 = .ok (.invokevirtual 88, 3) := by decide +kernel
theorem dX11_copy_53 : decode cX11_copy 53 = .ok (.ireturn, 1) := by decide +kernel
theorem dX11_copy_54 : decode cX11_copy 54 = .ok (.aload_n 0, 1) := by decide +kernel
theorem dX11_copy_55 : decode cX11_copy 55 = .ok (.getfield 19, 3) := by decide +kernel
theorem dX11_copy_58 : decode cX11_copy 58 = .ok (.iload_n 1, 1) := by decide +kernel
theorem dX11_copy_59 : decode cX11_copy 59 = .ok (.iload_n 2, 1) := by decide +kernel
theorem dX11_copy_60 : decode cX11_copy 60 = .ok (.iload_n 3, 1) := by decide +kernel
theorem dX11_copy_61 : decode cX11_copy 61 = .ok (.iload 4, 2) := by decide +kernel
theorem dX11_copy_63 : decode cX11_copy 63 = .ok (.iload 5, 2) := by decide +kernel
theorem dX11_copy_65 : decode cX11_copy 65 = .ok (.invokevirtual 179, 3) := by decide +kernel
theorem dX11_copy_68 : decode cX11_copy 68 = .ok (.istore 6, 2) := by decide +kernel
theorem dX11_copy_70 : decode cX11_copy 70 = .ok (.iload 6, 2) := by decide +kernel
theorem dX11_copy_72 : decode cX11_copy 72 = .ok (.ifCond .eq 10, 3) := by decide +kernel
theorem dX11_copy_75 : decode cX11_copy 75 = .ok (.aload_n 0, 1) := by decide +kernel
theorem dX11_copy_76 : decode cX11_copy 76 = .ok (.iload 6, 2) := by decide +kernel
theorem dX11_copy_78 : decode cX11_copy 78 = .ok (.invokevirtual 88, 3) := by decide +kernel
theorem dX11_copy_81 : decode cX11_copy 81 = .ok (.ireturn, 1) := by decide +kernel
theorem dX11_copy_82 : decode cX11_copy 82 = .ok (.aload_n 0, 1) := by decide +kernel
theorem dX11_copy_83 : decode cX11_copy 83 = .ok (.invokevirtual 95, 3) := by decide +kernel
theorem dX11_copy_86 : decode cX11_copy 86 = .ok (.aload_n 0, 1) := by decide +kernel
theorem dX11_copy_87 : decode cX11_copy 87 = .ok (.getfield 19, 3) := by decide +kernel
theorem dX11_copy_90 : decode cX11_copy 90 = .ok (.iload_n 1, 1) := by decide +kernel
theorem dX11_copy_91 : decode cX11_copy 91 = .ok (.iload_n 2, 1) := by decide +kernel
theorem dX11_copy_92 : decode cX11_copy 92 = .ok (.iload_n 3, 1) := by decide +kernel
theorem dX11_copy_93 : decode cX11_copy 93 = .ok (.iload 4, 2) := by decide +kernel
theorem dX11_copy_95 : decode cX11_copy 95 = .ok (.iload 5, 2) := by decide +kernel
theorem dX11_copy_97 : decode cX11_copy 97 = .ok (.invokevirtual 183, 3) := by decide +kernel
theorem dX11_copy_100 : decode cX11_copy 100 = .ok (.aload_n 0, 1) := by decide +kernel
theorem dX11_copy_101 : decode cX11_copy 101 = .ok (.iconst 1, 1) := by decide +kernel
theorem dX11_copy_102 : decode cX11_copy 102 = .ok (.invokevirtual 98, 3) := by decide +kernel
theorem dX11_copy_105 : decode cX11_copy 105 = .ok (.ireturn, 1) := by decide +kernel
theorem dX11_count_0 : decode cX11_count 0 = .ok (.iload_n 1, 1) := by decide +kernel
theorem dX11_count_1 : decode cX11_count 1 = .ok (.tableswitch 72 0 3 #[31, 39, 50, 61], 31) := by decide +kernel
theorem dX11_count_32 : decode cX11_count 32 = .ok (.aload_n 0, 1) := by decide +kernel
theorem dX11_count_33 : decode cX11_count 33 = .ok (.getfield 19, 3) := by decide +kernel
theorem dX11_count_36 : decode cX11_count 36 = .ok (.getfield 92, 3) := by decide +kernel
theorem dX11_count_39 : decode cX11_count 39 = .ok (.ireturn, 1) := by decide +kernel
theorem dX11_count_40 : decode cX11_count 40 = .ok (.aload_n 0, 1) := by decide +kernel
theorem dX11_count_41 : decode cX11_count 41 = .ok (.getfield 19, 3) := by decide +kernel
theorem dX11_count_44 : decode cX11_count 44 = .ok (.getfield 105, 3) := by decide +kernel
theorem dX11_count_47 : decode cX11_count 47 = .ok (.getfield 109, 3) := by decide +kernel
theorem dX11_count_50 : decode cX11_count 50 = .ok (.ireturn, 1) := by decide +kernel
theorem dX11_count_51 : decode cX11_count 51 = .ok (.aload_n 0, 1) := by decide +kernel
theorem dX11_count_52 : decode cX11_count 52 = .ok (.getfield 19, 3) := by decide +kernel
theorem dX11_count_55 : decode cX11_count 55 = .ok (.getfield 144, 3) := by decide +kernel
theorem dX11_count_58 : decode cX11_count 58 = .ok (.getfield 109, 3) := by decide +kernel
theorem dX11_count_61 : decode cX11_count 61 = .ok (.ireturn, 1) := by decide +kernel
theorem dX11_count_62 : decode cX11_count 62 = .ok (.aload_n 0, 1) := by decide +kernel
theorem dX11_count_63 : decode cX11_count 63 = .ok (.getfield 19, 3) := by decide +kernel
theorem dX11_count_66 : decode cX11_count 66 = .ok (.getfield 203, 3) := by decide +kernel
theorem dX11_count_69 : decode cX11_count 69 = .ok (.getfield 109, 3) := by decide +kernel
theorem dX11_count_72 : decode cX11_count 72 = .ok (.ireturn, 1) := by decide +kernel
theorem dX11_count_73 : decode cX11_count 73 = .ok (.bipush (-2), 2) := by decide +kernel
theorem dX11_count_75 : decode cX11_count 75 = .ok (.ireturn, 1) := by decide +kernel
theorem dX11_crossings_0 : decode cX11_crossings 0 = .ok (.iload_n 1, 1) := by decide +kernel
theorem dX11_crossings_1 : decode cX11_crossings 1 = .ok (.iconst 1, 1) := by decide +kernel
theorem dX11_crossings_2 : decode cX11_crossings 2 = .ok (.if_icmp .lt 9, 3) := by decide +kernel
theorem dX11_crossings_5 : decode cX11_crossings 5 = .ok (.iload_n 1, 1) := by decide +kernel
theorem dX11_crossings_6 : decode cX11_crossings 6 = .ok (.bipush 20, 2) := by decide +kernel
theorem dX11_crossings_8 : decode cX11_crossings 8 = .ok (.if_icmp .le 10, 3) := by decide +kernel
theorem dX11_crossings_11 : decode cX11_crossings 11 = .ok (.aload_n 0, 1) := by decide +kernel
theorem dX11_crossings_12 : decode cX11_crossings 12 = .ok (.bipush (-2), 2) := by decide +kernel
theorem dX11_crossings_14 : decode cX11_crossings 14 = .ok (.invokevirtual 88, 3) := by decide +kernel
theorem dX11_crossings_17 : decode cX11_crossings 17 = .ok (.ireturn, 1) := by decide +kernel
theorem dX11_crossings_18 : decode cX11_crossings 18 = .ok (.aload_n 0, 1) := by decide +kernel
theorem dX11_crossings_19 : decode cX11_crossings 19 = .ok (.getfield 19, 3) := by decide +kernel
theorem dX11_crossings_22 : decode cX11_crossings 22 = .ok (.getfield 92, 3) := by decide +kernel
theorem dX11_crossings_25 : decode cX11_crossings 25 = .ok (.iload_n 1, 1) := by decide +kernel
theorem dX11_crossings_26 : decode cX11_crossings 26 = .ok (.iadd, 1) := by decide +kernel
theorem dX11_crossings_27 : decode cX11_crossings 27 = .ok (.bipush 60, 2) := by decide +kernel
theorem dX11_crossings_29 : decode cX11_crossings 29 = .ok (.if_icmp .le 10, 3) := by decide +kernel
theorem dX11_crossings_32 : decode cX11_crossings 32 = .ok (.aload_n 0, 1) := by decide +kernel
theorem dX11_crossings_33 : decode cX11_crossings 33 = .ok (.bipush (-3), 2) := by decide +kernel
theorem dX11_crossings_35 : decode cX11_crossings 35 = .ok (.invokevirtual 88, 3) := by decide +kernel
theorem dX11_crossings_38 : decode cX11_crossings 38 = .ok (.ireturn, 1) := by decide +kernel
theorem dX11_crossings_39 : decode cX11_crossings 39 = .ok (.aload_n 0, 1) := by decide +kernel
theorem dX11_crossings_40 : decode cX11_crossings 40 = .ok (.invokevirtual 95, 3) := by decide +kernel
theorem dX11_crossings_43 : decode cX11_crossings 43 = .ok (.aload_n 0, 1) := by decide +kernel
theorem dX11_crossings_44 : decode cX11_crossings 44 = .ok (.getfield 19, 3) := by decide +kernel
theorem dX11_crossings_47 : decode cX11_crossings 47 = .ok (.dup, 1) := by decide +kernel
theorem dX11_crossings_48 : decode cX11_crossings 48 = .ok (.getfield 92, 3) := by decide +kernel
theorem dX11_crossings_51 : decode cX11_crossings 51 = .ok (.iload_n 1, 1) := by decide +kernel
theorem dX11_crossings_52 : decode cX11_crossings 52 = .ok (.iadd, 1) := by decide +kernel
theorem dX11_crossings_53 : decode cX11_crossings 53 = .ok (.putfield 92, 3) := by decide +kernel
theorem dX11_crossings_56 : decode cX11_crossings 56 = .ok (.aload_n 0, 1) := by decide +kernel
theorem dX11_crossings_57 : decode cX11_crossings 57 = .ok (.aload_n 0, 1) := by decide +kernel
theorem dX11_crossings_58 : decode cX11_crossings 58 = .ok (.getfield 19, 3) := by decide +kernel
theorem dX11_crossings_61 : decode cX11_crossings 61 = .ok (.getfield 92, 3) := by decide +kernel
theorem dX11_crossings_64 : decode cX11_crossings 64 = .ok (.invokevirtual 98, 3) := by decide +kernel
theorem dX11_crossings_67 : decode cX11_crossings 67 = .ok (.ireturn, 1) := by decide +kernel
theorem dX11_digest_0 : decode cX11_digest 0 = .ok (.sipush 217, 3) := by decide +kernel
theorem dX11_digest_3 : decode cX11_digest 3 = .ok (.aload_n 0, 1) := by decide +kernel
theorem dX11_digest_4 : decode cX11_digest 4 = .ok (.getfield 19, 3) := by decide +kernel
theorem dX11_digest_7 : decode cX11_digest 7 = .ok (.getfield 92, 3) := by decide +kernel
theorem dX11_digest_10 : decode cX11_digest 10 = .ok (.iadd, 1) := by decide +kernel
theorem dX11_digest_11 : decode cX11_digest 11 = .ok (.istore_n 1, 1) := by decide +kernel
theorem dX11_digest_12 : decode cX11_digest 12 = .ok (.aload_n 0, 1) := by decide +kernel
theorem dX11_digest_13 : decode cX11_digest 13 = .ok (.getfield 19, 3) := by decide +kernel
theorem dX11_digest_16 : decode cX11_digest 16 = .ok (.getfield 105, 3) := by decide +kernel
theorem dX11_digest_19 : decode cX11_digest 19 = .ok (.iload_n 1, 1) := by decide +kernel
theorem dX11_digest_20 : decode cX11_digest 20 = .ok (.invokevirtual 301, 3) := by decide +kernel
theorem dX11_digest_23 : decode cX11_digest 23 = .ok (.istore_n 1, 1) := by decide +kernel
theorem dX11_digest_24 : decode cX11_digest 24 = .ok (.iconst 0, 1) := by decide +kernel
theorem dX11_digest_25 : decode cX11_digest 25 = .ok (.istore_n 2, 1) := by decide +kernel
theorem dX11_digest_26 : decode cX11_digest 26 = .ok (.iload_n 2, 1) := by decide +kernel
theorem dX11_digest_27 : decode cX11_digest 27 = .ok (.aload_n 0, 1) := by decide +kernel
theorem dX11_digest_28 : decode cX11_digest 28 = .ok (.getfield 19, 3) := by decide +kernel
theorem dX11_digest_31 : decode cX11_digest 31 = .ok (.getfield 144, 3) := by decide +kernel
theorem dX11_digest_34 : decode cX11_digest 34 = .ok (.getfield 109, 3) := by decide +kernel
theorem dX11_digest_37 : decode cX11_digest 37 = .ok (.if_icmp .ge 76, 3) := by decide +kernel
theorem dX11_digest_40 : decode cX11_digest 40 = .ok (.aload_n 0, 1) := by decide +kernel
theorem dX11_digest_41 : decode cX11_digest 41 = .ok (.getfield 19, 3) := by decide +kernel
theorem dX11_digest_44 : decode cX11_digest 44 = .ok (.getfield 144, 3) := by decide +kernel
theorem dX11_digest_47 : decode cX11_digest 47 = .ok (.iload_n 2, 1) := by decide +kernel
theorem dX11_digest_48 : decode cX11_digest 48 = .ok (.iconst 2, 1) := by decide +kernel
theorem dX11_digest_49 : decode cX11_digest 49 = .ok (.invokevirtual 129, 3) := by decide +kernel
theorem dX11_digest_52 : decode cX11_digest 52 = .ok (.istore_n 3, 1) := by decide +kernel
theorem dX11_digest_53 : decode cX11_digest 53 = .ok (.bipush 31, 2) := by decide +kernel
theorem dX11_digest_55 : decode cX11_digest 55 = .ok (.bipush 31, 2) := by decide +kernel
theorem dX11_digest_57 : decode cX11_digest 57 = .ok (.iload_n 1, 1) := by decide +kernel
theorem dX11_digest_58 : decode cX11_digest 58 = .ok (.imul, 1) := by decide +kernel
theorem dX11_digest_59 : decode cX11_digest 59 = .ok (.aload_n 0, 1) := by decide +kernel
theorem dX11_digest_60 : decode cX11_digest 60 = .ok (.getfield 19, 3) := by decide +kernel
theorem dX11_digest_63 : decode cX11_digest 63 = .ok (.getfield 144, 3) := by decide +kernel
theorem dX11_digest_66 : decode cX11_digest 66 = .ok (.iload_n 2, 1) := by decide +kernel
theorem dX11_digest_67 : decode cX11_digest 67 = .ok (.iconst 0, 1) := by decide +kernel
theorem dX11_digest_68 : decode cX11_digest 68 = .ok (.invokevirtual 129, 3) := by decide +kernel
theorem dX11_digest_71 : decode cX11_digest 71 = .ok (.iadd, 1) := by decide +kernel
theorem dX11_digest_72 : decode cX11_digest 72 = .ok (.imul, 1) := by decide +kernel
theorem dX11_digest_73 : decode cX11_digest 73 = .ok (.iload_n 3, 1) := by decide +kernel
theorem dX11_digest_74 : decode cX11_digest 74 = .ok (.iadd, 1) := by decide +kernel
theorem dX11_digest_75 : decode cX11_digest 75 = .ok (.istore_n 1, 1) := by decide +kernel
theorem dX11_digest_76 : decode cX11_digest 76 = .ok (.iconst 0, 1) := by decide +kernel
theorem dX11_digest_77 : decode cX11_digest 77 = .ok (.istore 4, 2) := by decide +kernel
theorem dX11_digest_79 : decode cX11_digest 79 = .ok (.iload 4, 2) := by decide +kernel
theorem dX11_digest_81 : decode cX11_digest 81 = .ok (.iload_n 3, 1) := by decide +kernel
theorem dX11_digest_82 : decode cX11_digest 82 = .ok (.if_icmp .ge 25, 3) := by decide +kernel
theorem dX11_digest_85 : decode cX11_digest 85 = .ok (.bipush 31, 2) := by decide +kernel
theorem dX11_digest_87 : decode cX11_digest 87 = .ok (.iload_n 1, 1) := by decide +kernel
theorem dX11_digest_88 : decode cX11_digest 88 = .ok (.imul, 1) := by decide +kernel
theorem dX11_digest_89 : decode cX11_digest 89 = .ok (.aload_n 0, 1) := by decide +kernel
theorem dX11_digest_90 : decode cX11_digest 90 = .ok (.getfield 19, 3) := by decide +kernel
theorem dX11_digest_93 : decode cX11_digest 93 = .ok (.iload_n 2, 1) := by decide +kernel
theorem dX11_digest_94 : decode cX11_digest 94 = .ok (.iload 4, 2) := by decide +kernel
theorem dX11_digest_96 : decode cX11_digest 96 = .ok (.invokevirtual 176, 3) := by decide +kernel
theorem dX11_digest_99 : decode cX11_digest 99 = .ok (.iadd, 1) := by decide +kernel
theorem dX11_digest_100 : decode cX11_digest 100 = .ok (.istore_n 1, 1) := by decide +kernel
theorem dX11_digest_101 : decode cX11_digest 101 = .ok (.iinc 4 1, 3) := by decide +kernel
theorem dX11_digest_104 : decode cX11_digest 104 = .ok (.goto (-25), 3) := by decide +kernel
theorem dX11_digest_107 : decode cX11_digest 107 = .ok (.iinc 2 1, 3) := by decide +kernel
theorem dX11_digest_110 : decode cX11_digest 110 = .ok (.goto (-84), 3) := by decide +kernel
theorem dX11_digest_113 : decode cX11_digest 113 = .ok (.aload_n 0, 1) := by decide +kernel
theorem dX11_digest_114 : decode cX11_digest 114 = .ok (.getfield 19, 3) := by decide +kernel
theorem dX11_digest_117 : decode cX11_digest 117 = .ok (.getfield 203, 3) := by decide +kernel
theorem dX11_digest_120 : decode cX11_digest 120 = .ok (.iload_n 1, 1) := by decide +kernel
theorem dX11_digest_121 : decode cX11_digest 121 = .ok (.invokevirtual 301, 3) := by decide +kernel
theorem dX11_digest_124 : decode cX11_digest 124 = .ok (.istore_n 1, 1) := by decide +kernel
theorem dX11_digest_125 : decode cX11_digest 125 = .ok (.aload_n 0, 1) := by decide +kernel
theorem dX11_digest_126 : decode cX11_digest 126 = .ok (.aload_n 0, 1) := by decide +kernel
theorem dX11_digest_127 : decode cX11_digest 127 = .ok (.getfield 19, 3) := by decide +kernel
theorem dX11_digest_130 : decode cX11_digest 130 = .ok (.getfield 274, 3) := by decide +kernel
theorem dX11_digest_133 : decode cX11_digest 133 = .ok (.iload_n 1, 1) := by decide +kernel
theorem dX11_digest_134 : decode cX11_digest 134 = .ok (.invokevirtual 301, 3) := by decide +kernel
theorem dX11_digest_137 : decode cX11_digest 137 = .ok (.invokevirtual 98, 3) := by decide +kernel
theorem dX11_digest_140 : decode cX11_digest 140 = .ok (.ireturn, 1) := by decide +kernel
theorem dX11_driveNext_0 : decode cX11_driveNext 0 = .ok (.aload_n 0, 1) := by decide +kernel
theorem dX11_driveNext_1 : decode cX11_driveNext 1 = .ok (.getfield 19, 3) := by decide +kernel
theorem dX11_driveNext_4 : decode cX11_driveNext 4 = .ok (.iload_n 1, 1) := by decide +kernel
theorem dX11_driveNext_5 : decode cX11_driveNext 5 = .ok (.invokevirtual 362, 3) := by decide +kernel
theorem dX11_driveNext_8 : decode cX11_driveNext 8 = .ok (.istore_n 2, 1) := by decide +kernel
theorem dX11_driveNext_9 : decode cX11_driveNext 9 = .ok (.aload_n 0, 1) := by decide +kernel
theorem dX11_driveNext_10 : decode cX11_driveNext 10 = .ok (.getfield 19, 3) := by decide +kernel
theorem dX11_driveNext_13 : decode cX11_driveNext 13 = .ok (.getfield 274, 3) := by decide +kernel
theorem dX11_driveNext_16 : decode cX11_driveNext 16 = .ok (.iload_n 2, 1) := by decide +kernel
theorem dX11_driveNext_17 : decode cX11_driveNext 17 = .ok (.iconst 0, 1) := by decide +kernel
theorem dX11_driveNext_18 : decode cX11_driveNext 18 = .ok (.invokevirtual 129, 3) := by decide +kernel
theorem dX11_driveNext_21 : decode cX11_driveNext 21 = .ok (.istore_n 3, 1) := by decide +kernel
theorem dX11_driveNext_22 : decode cX11_driveNext 22 = .ok (.aload_n 0, 1) := by decide +kernel
theorem dX11_driveNext_23 : decode cX11_driveNext 23 = .ok (.getfield 19, 3) := by decide +kernel
theorem dX11_driveNext_26 : decode cX11_driveNext 26 = .ok (.getfield 274, 3) := by decide +kernel
theorem dX11_driveNext_29 : decode cX11_driveNext 29 = .ok (.iload_n 2, 1) := by decide +kernel
theorem dX11_driveNext_30 : decode cX11_driveNext 30 = .ok (.iconst 3, 1) := by decide +kernel
theorem dX11_driveNext_31 : decode cX11_driveNext 31 = .ok (.invokevirtual 129, 3) := by decide +kernel
theorem dX11_driveNext_34 : decode cX11_driveNext 34 = .ok (.iconst 1, 1) := by decide +kernel
theorem dX11_driveNext_35 : decode cX11_driveNext 35 = .ok (.if_icmp .ne 7, 3) := by decide +kernel
theorem dX11_driveNext_38 : decode cX11_driveNext 38 = .ok (.iconst 1, 1) := by decide +kernel
theorem dX11_driveNext_39 : decode cX11_driveNext 39 = .ok (.goto 4, 3) := by decide +kernel
theorem dX11_driveNext_42 : decode cX11_driveNext 42 = .ok (.iconst 0, 1) := by decide +kernel
theorem dX11_driveNext_43 : decode cX11_driveNext 43 = .ok (.istore 4, 2) := by decide +kernel
theorem dX11_driveNext_45 : decode cX11_driveNext 45 = .ok (.iload 4, 2) := by decide +kernel
theorem dX11_driveNext_47 : decode cX11_driveNext 47 = .ok (.ifCond .eq 27, 3) := by decide +kernel
theorem dX11_driveNext_50 : decode cX11_driveNext 50 = .ok (.aload_n 0, 1) := by decide +kernel
theorem dX11_driveNext_51 : decode cX11_driveNext 51 = .ok (.getfield 55, 3) := by decide +kernel
theorem dX11_driveNext_54 : decode cX11_driveNext 54 = .ok (.iload_n 1, 1) := by decide +kernel
theorem dX11_driveNext_55 : decode cX11_driveNext 55 = .ok (.aaload, 1) := by decide +kernel
theorem dX11_driveNext_56 : decode cX11_driveNext 56 = .ok (.aload_n 0, 1) := by decide +kernel
theorem dX11_driveNext_57 : decode cX11_driveNext 57 = .ok (.getfield 19, 3) := by decide +kernel
theorem dX11_driveNext_60 : decode cX11_driveNext 60 = .ok (.getfield 105, 3) := by decide +kernel
theorem dX11_driveNext_63 : decode cX11_driveNext 63 = .ok (.iload_n 3, 1) := by decide +kernel
theorem dX11_driveNext_64 : decode cX11_driveNext 64 = .ok (.iconst 0, 1) := by decide +kernel
theorem dX11_driveNext_65 : decode cX11_driveNext 65 = .ok (.invokevirtual 129, 3) := by decide +kernel
theorem dX11_driveNext_68 : decode cX11_driveNext 68 = .ok (.invokevirtual 237, 3) := by decide +kernel
theorem dX11_driveNext_71 : decode cX11_driveNext 71 = .ok (.goto 4, 3) := by decide +kernel
theorem dX11_driveNext_74 : decode cX11_driveNext 74 = .ok (.iconst 1, 1) := by decide +kernel
theorem dX11_driveNext_75 : decode cX11_driveNext 75 = .ok (.istore 5, 2) := by decide +kernel
theorem dX11_driveNext_77 : decode cX11_driveNext 77 = .ok (.iconst 1, 1) := by decide +kernel
theorem dX11_driveNext_78 : decode cX11_driveNext 78 = .ok (.iload 5, 2) := by decide +kernel
theorem dX11_driveNext_80 : decode cX11_driveNext 80 = .ok (.invokestatic 365, 3) := by decide +kernel
theorem dX11_driveNext_83 : decode cX11_driveNext 83 = .ok (.aload_n 0, 1) := by decide +kernel
theorem dX11_driveNext_84 : decode cX11_driveNext 84 = .ok (.getfield 55, 3) := by decide +kernel
theorem dX11_driveNext_87 : decode cX11_driveNext 87 = .ok (.iload_n 1, 1) := by decide +kernel
theorem dX11_driveNext_88 : decode cX11_driveNext 88 = .ok (.aaload, 1) := by decide +kernel
theorem dX11_driveNext_89 : decode cX11_driveNext 89 = .ok (.aload_n 0, 1) := by decide +kernel
theorem dX11_driveNext_90 : decode cX11_driveNext 90 = .ok (.getfield 19, 3) := by decide +kernel
theorem dX11_driveNext_93 : decode cX11_driveNext 93 = .ok (.getfield 105, 3) := by decide +kernel
theorem dX11_driveNext_96 : decode cX11_driveNext 96 = .ok (.iload_n 3, 1) := by decide +kernel
theorem dX11_driveNext_97 : decode cX11_driveNext 97 = .ok (.bipush 6, 2) := by decide +kernel
theorem dX11_driveNext_99 : decode cX11_driveNext 99 = .ok (.invokevirtual 129, 3) := by decide +kernel
theorem dX11_driveNext_102 : decode cX11_driveNext 102 = .ok (.invokevirtual 234, 3) := by decide +kernel
theorem dX11_driveNext_105 : decode cX11_driveNext 105 = .ok (.imul, 1) := by decide +kernel
theorem dX11_driveNext_106 : decode cX11_driveNext 106 = .ok (.istore 6, 2) := by decide +kernel
theorem dX11_driveNext_108 : decode cX11_driveNext 108 = .ok (.iload 5, 2) := by decide +kernel
theorem dX11_driveNext_110 : decode cX11_driveNext 110 = .ok (.ifCond .ne 15, 3) := by decide +kernel
theorem dX11_driveNext_113 : decode cX11_driveNext 113 = .ok (.aload_n 0, 1) := by decide +kernel
theorem dX11_driveNext_114 : decode cX11_driveNext 114 = .ok (.getfield 10, 3) := by decide +kernel
theorem dX11_driveNext_117 : decode cX11_driveNext 117 = .ok (.bipush (-9), 2) := by decide +kernel
theorem dX11_driveNext_119 : decode cX11_driveNext 119 = .ok (.invokevirtual 324, 3) := by decide +kernel
theorem dX11_driveNext_122 : decode cX11_driveNext 122 = .ok (.goto 16, 3) := by decide +kernel
theorem dX11_driveNext_125 : decode cX11_driveNext 125 = .ok (.iload 4, 2) := by decide +kernel
theorem dX11_driveNext_127 : decode cX11_driveNext 127 = .ok (.ifCond .eq 11, 3) := by decide +kernel
theorem dX11_driveNext_130 : decode cX11_driveNext 130 = .ok (.aload_n 0, 1) := by decide +kernel
theorem dX11_driveNext_131 : decode cX11_driveNext 131 = .ok (.getfield 19, 3) := by decide +kernel
theorem dX11_driveNext_134 : decode cX11_driveNext 134 = .ok (.iload_n 3, 1) := by decide +kernel
theorem dX11_driveNext_135 : decode cX11_driveNext 135 = .ok (.invokevirtual 368, 3) := by decide +kernel
theorem dX11_driveNext_138 : decode cX11_driveNext 138 = .ok (.aload_n 0, 1) := by decide +kernel
theorem dX11_driveNext_139 : decode cX11_driveNext 139 = .ok (.getfield 19, 3) := by decide +kernel
theorem dX11_driveNext_142 : decode cX11_driveNext 142 = .ok (.getfield 203, 3) := by decide +kernel
theorem dX11_driveNext_145 : decode cX11_driveNext 145 = .ok (.iload_n 1, 1) := by decide +kernel
theorem dX11_driveNext_146 : decode cX11_driveNext 146 = .ok (.iconst 2, 1) := by decide +kernel
theorem dX11_driveNext_147 : decode cX11_driveNext 147 = .ok (.iconst 1, 1) := by decide +kernel
theorem dX11_driveNext_148 : decode cX11_driveNext 148 = .ok (.invokevirtual 371, 3) := by decide +kernel
theorem dX11_driveNext_151 : decode cX11_driveNext 151 = .ok (.aload_n 0, 1) := by decide +kernel
theorem dX11_driveNext_152 : decode cX11_driveNext 152 = .ok (.getfield 19, 3) := by decide +kernel
theorem dX11_driveNext_155 : decode cX11_driveNext 155 = .ok (.getfield 203, 3) := by decide +kernel
theorem dX11_driveNext_158 : decode cX11_driveNext 158 = .ok (.iload_n 1, 1) := by decide +kernel
theorem dX11_driveNext_159 : decode cX11_driveNext 159 = .ok (.iconst 3, 1) := by decide +kernel
theorem dX11_driveNext_160 : decode cX11_driveNext 160 = .ok (.iload 6, 2) := by decide +kernel
theorem dX11_driveNext_162 : decode cX11_driveNext 162 = .ok (.invokevirtual 371, 3) := by decide +kernel
theorem dX11_driveNext_165 : decode cX11_driveNext 165 = .ok (.aload_n 0, 1) := by decide +kernel
theorem dX11_driveNext_166 : decode cX11_driveNext 166 = .ok (.getfield 19, 3) := by decide +kernel
theorem dX11_driveNext_169 : decode cX11_driveNext 169 = .ok (.getfield 203, 3) := by decide +kernel
theorem dX11_driveNext_172 : decode cX11_driveNext 172 = .ok (.iload_n 1, 1) := by decide +kernel
theorem dX11_driveNext_173 : decode cX11_driveNext 173 = .ok (.bipush 7, 2) := by decide +kernel
theorem dX11_driveNext_175 : decode cX11_driveNext 175 = .ok (.iload 5, 2) := by decide +kernel
theorem dX11_driveNext_177 : decode cX11_driveNext 177 = .ok (.iconst 1, 1) := by decide +kernel
theorem dX11_driveNext_178 : decode cX11_driveNext 178 = .ok (.if_icmp .le 7, 3) := by decide +kernel
theorem dX11_driveNext_181 : decode cX11_driveNext 181 = .ok (.iconst 1, 1) := by decide +kernel
theorem dX11_driveNext_182 : decode cX11_driveNext 182 = .ok (.goto 4, 3) := by decide +kernel
theorem dX11_driveNext_185 : decode cX11_driveNext 185 = .ok (.iconst 0, 1) := by decide +kernel
theorem dX11_driveNext_186 : decode cX11_driveNext 186 = .ok (.invokevirtual 371, 3) := by decide +kernel
theorem dX11_driveNext_189 : decode cX11_driveNext 189 = .ok (.aload_n 0, 1) := by decide +kernel
theorem dX11_driveNext_190 : decode cX11_driveNext 190 = .ok (.getfield 19, 3) := by decide +kernel
theorem dX11_driveNext_193 : decode cX11_driveNext 193 = .ok (.getfield 203, 3) := by decide +kernel
theorem dX11_driveNext_196 : decode cX11_driveNext 196 = .ok (.iload_n 1, 1) := by decide +kernel
theorem dX11_driveNext_197 : decode cX11_driveNext 197 = .ok (.iconst 3, 1) := by decide +kernel
theorem dX11_driveNext_198 : decode cX11_driveNext 198 = .ok (.invokevirtual 129, 3) := by decide +kernel
theorem dX11_driveNext_201 : decode cX11_driveNext 201 = .ok (.aload_n 0, 1) := by decide +kernel
theorem dX11_driveNext_202 : decode cX11_driveNext 202 = .ok (.getfield 19, 3) := by decide +kernel
theorem dX11_driveNext_205 : decode cX11_driveNext 205 = .ok (.getfield 203, 3) := by decide +kernel
theorem dX11_driveNext_208 : decode cX11_driveNext 208 = .ok (.iload_n 1, 1) := by decide +kernel
theorem dX11_driveNext_209 : decode cX11_driveNext 209 = .ok (.iconst 5, 1) := by decide +kernel
theorem dX11_driveNext_210 : decode cX11_driveNext 210 = .ok (.invokevirtual 129, 3) := by decide +kernel
theorem dX11_driveNext_213 : decode cX11_driveNext 213 = .ok (.if_icmp .le 7, 3) := by decide +kernel
theorem dX11_driveNext_216 : decode cX11_driveNext 216 = .ok (.iconst 1, 1) := by decide +kernel
theorem dX11_driveNext_217 : decode cX11_driveNext 217 = .ok (.goto 4, 3) := by decide +kernel
theorem dX11_driveNext_220 : decode cX11_driveNext 220 = .ok (.iconst 0, 1) := by decide +kernel
theorem dX11_driveNext_221 : decode cX11_driveNext 221 = .ok (.istore 7, 2) := by decide +kernel
theorem dX11_driveNext_223 : decode cX11_driveNext 223 = .ok (.aload_n 0, 1) := by decide +kernel
theorem dX11_driveNext_224 : decode cX11_driveNext 224 = .ok (.getfield 19, 3) := by decide +kernel
theorem dX11_driveNext_227 : decode cX11_driveNext 227 = .ok (.getfield 203, 3) := by decide +kernel
theorem dX11_driveNext_230 : decode cX11_driveNext 230 = .ok (.iload_n 1, 1) := by decide +kernel
theorem dX11_driveNext_231 : decode cX11_driveNext 231 = .ok (.bipush 8, 2) := by decide +kernel
theorem dX11_driveNext_233 : decode cX11_driveNext 233 = .ok (.iload 7, 2) := by decide +kernel
theorem dX11_driveNext_235 : decode cX11_driveNext 235 = .ok (.ifCond .eq 7, 3) := by decide +kernel
theorem dX11_driveNext_238 : decode cX11_driveNext 238 = .ok (.iconst 1, 1) := by decide +kernel
theorem dX11_driveNext_239 : decode cX11_driveNext 239 = .ok (.goto 4, 3) := by decide +kernel
theorem dX11_driveNext_242 : decode cX11_driveNext 242 = .ok (.iconst 0, 1) := by decide +kernel
theorem dX11_driveNext_243 : decode cX11_driveNext 243 = .ok (.invokevirtual 371, 3) := by decide +kernel
theorem dX11_driveNext_246 : decode cX11_driveNext 246 = .ok (.return_, 1) := by decide +kernel
theorem dX11_enlist_0 : decode cX11_enlist 0 = .ok (.aload_n 0, 1) := by decide +kernel
theorem dX11_enlist_1 : decode cX11_enlist 1 = .ok (.getfield 19, 3) := by decide +kernel
theorem dX11_enlist_4 : decode cX11_enlist 4 = .ok (.getfield 203, 3) := by decide +kernel
theorem dX11_enlist_7 : decode cX11_enlist 7 = .ok (.invokevirtual 114, 3) := by decide +kernel
theorem dX11_enlist_10 : decode cX11_enlist 10 = .ok (.istore 4, 2) := by decide +kernel
theorem dX11_enlist_12 : decode cX11_enlist 12 = .ok (.aload_n 0, 1) := by decide +kernel
theorem dX11_enlist_13 : decode cX11_enlist 13 = .ok (.getfield 55, 3) := by decide +kernel
theorem dX11_enlist_16 : decode cX11_enlist 16 = .ok (.iload 4, 2) := by decide +kernel
theorem dX11_enlist_18 : decode cX11_enlist 18 = .ok (.aload_n 1, 1) := by decide +kernel
theorem dX11_enlist_19 : decode cX11_enlist 19 = .ok (.aastore, 1) := by decide +kernel
theorem dX11_enlist_20 : decode cX11_enlist 20 = .ok (.aload_n 0, 1) := by decide +kernel
theorem dX11_enlist_21 : decode cX11_enlist 21 = .ok (.getfield 19, 3) := by decide +kernel
theorem dX11_enlist_24 : decode cX11_enlist 24 = .ok (.getfield 203, 3) := by decide +kernel
theorem dX11_enlist_27 : decode cX11_enlist 27 = .ok (.iload 4, 2) := by decide +kernel
theorem dX11_enlist_29 : decode cX11_enlist 29 = .ok (.bipush 6, 2) := by decide +kernel
theorem dX11_enlist_31 : decode cX11_enlist 31 = .ok (.iload_n 2, 1) := by decide +kernel
theorem dX11_enlist_32 : decode cX11_enlist 32 = .ok (.invokevirtual 118, 3) := by decide +kernel
theorem dX11_enlist_35 : decode cX11_enlist 35 = .ok (.aload_n 0, 1) := by decide +kernel
theorem dX11_enlist_36 : decode cX11_enlist 36 = .ok (.getfield 19, 3) := by decide +kernel
theorem dX11_enlist_39 : decode cX11_enlist 39 = .ok (.getfield 203, 3) := by decide +kernel
theorem dX11_enlist_42 : decode cX11_enlist 42 = .ok (.iload 4, 2) := by decide +kernel
theorem dX11_enlist_44 : decode cX11_enlist 44 = .ok (.iconst 5, 1) := by decide +kernel
theorem dX11_enlist_45 : decode cX11_enlist 45 = .ok (.iload_n 3, 1) := by decide +kernel
theorem dX11_enlist_46 : decode cX11_enlist 46 = .ok (.invokevirtual 118, 3) := by decide +kernel
theorem dX11_enlist_49 : decode cX11_enlist 49 = .ok (.iload 4, 2) := by decide +kernel
theorem dX11_enlist_51 : decode cX11_enlist 51 = .ok (.ireturn, 1) := by decide +kernel
theorem dX11_fallOn_0 : decode cX11_fallOn 0 = .ok (.fconst 0, 1) := by decide +kernel
theorem dX11_fallOn_1 : decode cX11_fallOn 1 = .ok (.fstore_n 2, 1) := by decide +kernel
theorem dX11_fallOn_2 : decode cX11_fallOn 2 = .ok (.fconst 0, 1) := by decide +kernel
theorem dX11_fallOn_3 : decode cX11_fallOn 3 = .ok (.fstore_n 3, 1) := by decide +kernel
theorem dX11_fallOn_4 : decode cX11_fallOn 4 = .ok (.iconst 0, 1) := by decide +kernel
theorem dX11_fallOn_5 : decode cX11_fallOn 5 = .ok (.istore 4, 2) := by decide +kernel
theorem dX11_fallOn_7 : decode cX11_fallOn 7 = .ok (.iload 4, 2) := by decide +kernel
theorem dX11_fallOn_9 : decode cX11_fallOn 9 = .ok (.aload_n 0, 1) := by decide +kernel
theorem dX11_fallOn_10 : decode cX11_fallOn 10 = .ok (.getfield 19, 3) := by decide +kernel
theorem dX11_fallOn_13 : decode cX11_fallOn 13 = .ok (.getfield 144, 3) := by decide +kernel
theorem dX11_fallOn_16 : decode cX11_fallOn 16 = .ok (.getfield 109, 3) := by decide +kernel
theorem dX11_fallOn_19 : decode cX11_fallOn 19 = .ok (.if_icmp .ge 59, 3) := by decide +kernel
theorem dX11_fallOn_22 : decode cX11_fallOn 22 = .ok (.aload_n 0, 1) := by decide +kernel
theorem dX11_fallOn_23 : decode cX11_fallOn 23 = .ok (.getfield 59, 3) := by decide +kernel
theorem dX11_fallOn_26 : decode cX11_fallOn 26 = .ok (.iload 4, 2) := by decide +kernel
theorem dX11_fallOn_28 : decode cX11_fallOn 28 = .ok (.faload, 1) := by decide +kernel
theorem dX11_fallOn_29 : decode cX11_fallOn 29 = .ok (.fconst 0, 1) := by decide +kernel
theorem dX11_fallOn_30 : decode cX11_fallOn 30 = .ok (.fcmp .g, 1) := by decide +kernel
theorem dX11_fallOn_31 : decode cX11_fallOn 31 = .ok (.ifCond .ge 7, 3) := by decide +kernel
theorem dX11_fallOn_34 : decode cX11_fallOn 34 = .ok (.iconst 0, 1) := by decide +kernel
theorem dX11_fallOn_35 : decode cX11_fallOn 35 = .ok (.goto 10, 3) := by decide +kernel
theorem dX11_fallOn_38 : decode cX11_fallOn 38 = .ok (.aload_n 0, 1) := by decide +kernel
theorem dX11_fallOn_39 : decode cX11_fallOn 39 = .ok (.iload 4, 2) := by decide +kernel
theorem dX11_fallOn_41 : decode cX11_fallOn 41 = .ok (.iload_n 1, 1) := by decide +kernel
theorem dX11_fallOn_42 : decode cX11_fallOn 42 = .ok (.invokevirtual 340, 3) := by decide +kernel
theorem dX11_fallOn_45 : decode cX11_fallOn 45 = .ok (.istore 5, 2) := by decide +kernel
theorem dX11_fallOn_47 : decode cX11_fallOn 47 = .ok (.iload 5, 2) := by decide +kernel
theorem dX11_fallOn_49 : decode cX11_fallOn 49 = .ok (.ifCond .le 23, 3) := by decide +kernel
theorem dX11_fallOn_52 : decode cX11_fallOn 52 = .ok (.fload_n 2, 1) := by decide +kernel
theorem dX11_fallOn_53 : decode cX11_fallOn 53 = .ok (.aload_n 0, 1) := by decide +kernel
theorem dX11_fallOn_54 : decode cX11_fallOn 54 = .ok (.getfield 59, 3) := by decide +kernel
theorem dX11_fallOn_57 : decode cX11_fallOn 57 = .ok (.iload 4, 2) := by decide +kernel
theorem dX11_fallOn_59 : decode cX11_fallOn 59 = .ok (.faload, 1) := by decide +kernel
theorem dX11_fallOn_60 : decode cX11_fallOn 60 = .ok (.iload 5, 2) := by decide +kernel
theorem dX11_fallOn_62 : decode cX11_fallOn 62 = .ok (.i2f, 1) := by decide +kernel
theorem dX11_fallOn_63 : decode cX11_fallOn 63 = .ok (.fmul, 1) := by decide +kernel
theorem dX11_fallOn_64 : decode cX11_fallOn 64 = .ok (.fadd, 1) := by decide +kernel
theorem dX11_fallOn_65 : decode cX11_fallOn 65 = .ok (.fstore_n 2, 1) := by decide +kernel
theorem dX11_fallOn_66 : decode cX11_fallOn 66 = .ok (.fload_n 3, 1) := by decide +kernel
theorem dX11_fallOn_67 : decode cX11_fallOn 67 = .ok (.iload 5, 2) := by decide +kernel
theorem dX11_fallOn_69 : decode cX11_fallOn 69 = .ok (.i2f, 1) := by decide +kernel
theorem dX11_fallOn_70 : decode cX11_fallOn 70 = .ok (.fadd, 1) := by decide +kernel
theorem dX11_fallOn_71 : decode cX11_fallOn 71 = .ok (.fstore_n 3, 1) := by decide +kernel
theorem dX11_fallOn_72 : decode cX11_fallOn 72 = .ok (.iinc 4 1, 3) := by decide +kernel
theorem dX11_fallOn_75 : decode cX11_fallOn 75 = .ok (.goto (-68), 3) := by decide +kernel
theorem dX11_fallOn_78 : decode cX11_fallOn 78 = .ok (.fload_n 3, 1) := by decide +kernel
theorem dX11_fallOn_79 : decode cX11_fallOn 79 = .ok (.fconst 0, 1) := by decide +kernel
theorem dX11_fallOn_80 : decode cX11_fallOn 80 = .ok (.fcmp .l, 1) := by decide +kernel
theorem dX11_fallOn_81 : decode cX11_fallOn 81 = .ok (.ifCond .le 7, 3) := by decide +kernel
theorem dX11_fallOn_84 : decode cX11_fallOn 84 = .ok (.iconst 1, 1) := by decide +kernel
theorem dX11_fallOn_85 : decode cX11_fallOn 85 = .ok (.goto 4, 3) := by decide +kernel
theorem dX11_fallOn_88 : decode cX11_fallOn 88 = .ok (.iconst 0, 1) := by decide +kernel
theorem dX11_fallOn_89 : decode cX11_fallOn 89 = .ok (.istore 4, 2) := by decide +kernel
theorem dX11_fallOn_91 : decode cX11_fallOn 91 = .ok (.iload 4, 2) := by decide +kernel
theorem dX11_fallOn_93 : decode cX11_fallOn 93 = .ok (.ifCond .eq 52, 3) := by decide +kernel
theorem dX11_fallOn_96 : decode cX11_fallOn 96 = .ok (.ldc_w 343, 3) := by decide +kernel
theorem dX11_fallOn_99 : decode cX11_fallOn 99 = .ok (.fload_n 2, 1) := by decide +kernel
theorem dX11_fallOn_100 : decode cX11_fallOn 100 = .ok (.fload_n 3, 1) := by decide +kernel
theorem dX11_fallOn_101 : decode cX11_fallOn 101 = .ok (.fdiv, 1) := by decide +kernel
theorem dX11_fallOn_102 : decode cX11_fallOn 102 = .ok (.ldc_w 344, 3) := by decide +kernel
theorem dX11_fallOn_105 : decode cX11_fallOn 105 = .ok (.fmul, 1) := by decide +kernel
theorem dX11_fallOn_106 : decode cX11_fallOn 106 = .ok (.f2i, 1) := by decide +kernel
theorem dX11_fallOn_107 : decode cX11_fallOn 107 = .ok (.invokestatic 345, 3) := by decide +kernel
theorem dX11_fallOn_110 : decode cX11_fallOn 110 = .ok (.istore 5, 2) := by decide +kernel
theorem dX11_fallOn_112 : decode cX11_fallOn 112 = .ok (.aload_n 0, 1) := by decide +kernel
theorem dX11_fallOn_113 : decode cX11_fallOn 113 = .ok (.getfield 19, 3) := by decide +kernel
theorem dX11_fallOn_116 : decode cX11_fallOn 116 = .ok (.getfield 105, 3) := by decide +kernel
theorem dX11_fallOn_119 : decode cX11_fallOn 119 = .ok (.iload_n 1, 1) := by decide +kernel
theorem dX11_fallOn_120 : decode cX11_fallOn 120 = .ok (.iconst 0, 1) := by decide +kernel
theorem dX11_fallOn_121 : decode cX11_fallOn 121 = .ok (.ldc_w 343, 3) := by decide +kernel
theorem dX11_fallOn_124 : decode cX11_fallOn 124 = .ok (.aload_n 0, 1) := by decide +kernel
theorem dX11_fallOn_125 : decode cX11_fallOn 125 = .ok (.getfield 19, 3) := by decide +kernel
theorem dX11_fallOn_128 : decode cX11_fallOn 128 = .ok (.getfield 105, 3) := by decide +kernel
theorem dX11_fallOn_131 : decode cX11_fallOn 131 = .ok (.iload_n 1, 1) := by decide +kernel
theorem dX11_fallOn_132 : decode cX11_fallOn 132 = .ok (.iconst 0, 1) := by decide +kernel
theorem dX11_fallOn_133 : decode cX11_fallOn 133 = .ok (.invokevirtual 129, 3) := by decide +kernel
theorem dX11_fallOn_136 : decode cX11_fallOn 136 = .ok (.iload 5, 2) := by decide +kernel
theorem dX11_fallOn_138 : decode cX11_fallOn 138 = .ok (.iadd, 1) := by decide +kernel
theorem dX11_fallOn_139 : decode cX11_fallOn 139 = .ok (.invokestatic 345, 3) := by decide +kernel
theorem dX11_fallOn_142 : decode cX11_fallOn 142 = .ok (.invokevirtual 118, 3) := by decide +kernel
theorem dX11_fallOn_145 : decode cX11_fallOn 145 = .ok (.aload_n 0, 1) := by decide +kernel
theorem dX11_fallOn_146 : decode cX11_fallOn 146 = .ok (.getfield 19, 3) := by decide +kernel
theorem dX11_fallOn_149 : decode cX11_fallOn 149 = .ok (.getfield 105, 3) := by decide +kernel
theorem dX11_fallOn_152 : decode cX11_fallOn 152 = .ok (.iload_n 1, 1) := by decide +kernel
theorem dX11_fallOn_153 : decode cX11_fallOn 153 = .ok (.iconst 1, 1) := by decide +kernel
theorem dX11_fallOn_154 : decode cX11_fallOn 154 = .ok (.iload 4, 2) := by decide +kernel
theorem dX11_fallOn_156 : decode cX11_fallOn 156 = .ok (.ifCond .eq 7, 3) := by decide +kernel
theorem dX11_fallOn_159 : decode cX11_fallOn 159 = .ok (.iconst 0, 1) := by decide +kernel
theorem dX11_fallOn_160 : decode cX11_fallOn 160 = .ok (.goto 4, 3) := by decide +kernel
theorem dX11_fallOn_163 : decode cX11_fallOn 163 = .ok (.iconst 1, 1) := by decide +kernel
theorem dX11_fallOn_164 : decode cX11_fallOn 164 = .ok (.invokevirtual 118, 3) := by decide +kernel
theorem dX11_fallOn_167 : decode cX11_fallOn 167 = .ok (.iload 4, 2) := by decide +kernel
theorem dX11_fallOn_169 : decode cX11_fallOn 169 = .ok (.ireturn, 1) := by decide +kernel
theorem dX11_findings_0 : decode cX11_findings 0 = .ok (.iload_n 1, 1) := by decide +kernel
theorem dX11_findings_1 : decode cX11_findings 1 = .ok (.ifCond .lt 27, 3) := by decide +kernel
theorem dX11_findings_4 : decode cX11_findings 4 = .ok (.iload_n 1, 1) := by decide +kernel
theorem dX11_findings_5 : decode cX11_findings 5 = .ok (.aload_n 0, 1) := by decide +kernel
theorem dX11_findings_6 : decode cX11_findings 6 = .ok (.getfield 10, 3) := by decide +kernel
theorem dX11_findings_9 : decode cX11_findings 9 = .ok (.getfield 309, 3) := by decide +kernel
theorem dX11_findings_12 : decode cX11_findings 12 = .ok (.arraylength, 1) := by decide +kernel
theorem dX11_findings_13 : decode cX11_findings 13 = .ok (.if_icmp .ge 15, 3) := by decide +kernel
theorem dX11_findings_16 : decode cX11_findings 16 = .ok (.aload_n 0, 1) := by decide +kernel
theorem dX11_findings_17 : decode cX11_findings 17 = .ok (.getfield 10, 3) := by decide +kernel
theorem dX11_findings_20 : decode cX11_findings 20 = .ok (.getfield 309, 3) := by decide +kernel
theorem dX11_findings_23 : decode cX11_findings 23 = .ok (.iload_n 1, 1) := by decide +kernel
theorem dX11_findings_24 : decode cX11_findings 24 = .ok (.iaload, 1) := by decide +kernel
theorem dX11_findings_25 : decode cX11_findings 25 = .ok (.goto 5, 3) := by decide +kernel
theorem dX11_findings_28 : decode cX11_findings 28 = .ok (.bipush (-2), 2) := by decide +kernel
theorem dX11_findings_30 : decode cX11_findings 30 = .ok (.ireturn, 1) := by decide +kernel
theorem dX11_forgetWays_0 : decode cX11_forgetWays 0 = .ok (.aload_n 0, 1) := by decide +kernel
theorem dX11_forgetWays_1 : decode cX11_forgetWays 1 = .ok (.getfield 31, 3) := by decide +kernel
theorem dX11_forgetWays_4 : decode cX11_forgetWays 4 = .ok (.invokevirtual 327, 3) := by decide +kernel
theorem dX11_forgetWays_7 : decode cX11_forgetWays 7 = .ok (.aload_n 0, 1) := by decide +kernel
theorem dX11_forgetWays_8 : decode cX11_forgetWays 8 = .ok (.getfield 40, 3) := by decide +kernel
theorem dX11_forgetWays_11 : decode cX11_forgetWays 11 = .ok (.invokevirtual 330, 3) := by decide +kernel
theorem dX11_forgetWays_14 : decode cX11_forgetWays 14 = .ok (.return_, 1) := by decide +kernel
theorem dX11_gauge_0 : decode cX11_gauge 0 = .ok (.aload_n 0, 1) := by decide +kernel
theorem dX11_gauge_1 : decode cX11_gauge 1 = .ok (.getfield 19, 3) := by decide +kernel
theorem dX11_gauge_4 : decode cX11_gauge 4 = .ok (.iload_n 1, 1) := by decide +kernel
theorem dX11_gauge_5 : decode cX11_gauge 5 = .ok (.invokevirtual 101, 3) := by decide +kernel
theorem dX11_gauge_8 : decode cX11_gauge 8 = .ok (.ifCond .ne 10, 3) := by decide +kernel
theorem dX11_gauge_11 : decode cX11_gauge 11 = .ok (.aload_n 0, 1) := by decide +kernel
theorem dX11_gauge_12 : decode cX11_gauge 12 = .ok (.bipush (-2), 2) := by decide +kernel
theorem dX11_gauge_14 : decode cX11_gauge 14 = .ok (.invokevirtual 88, 3) := by decide +kernel
theorem dX11_gauge_17 : decode cX11_gauge 17 = .ok (.ireturn, 1) := by decide +kernel
theorem dX11_gauge_18 : decode cX11_gauge 18 = .ok (.aload_n 0, 1) := by decide +kernel
theorem dX11_gauge_19 : decode cX11_gauge 19 = .ok (.getfield 19, 3) := by decide +kernel
theorem dX11_gauge_22 : decode cX11_gauge 22 = .ok (.getfield 144, 3) := by decide +kernel
theorem dX11_gauge_25 : decode cX11_gauge 25 = .ok (.getfield 109, 3) := by decide +kernel
theorem dX11_gauge_28 : decode cX11_gauge 28 = .ok (.bipush 20, 2) := by decide +kernel
theorem dX11_gauge_30 : decode cX11_gauge 30 = .ok (.if_icmp .lt 10, 3) := by decide +kernel
theorem dX11_gauge_33 : decode cX11_gauge 33 = .ok (.aload_n 0, 1) := by decide +kernel
theorem dX11_gauge_34 : decode cX11_gauge 34 = .ok (.bipush (-3), 2) := by decide +kernel
theorem dX11_gauge_36 : decode cX11_gauge 36 = .ok (.invokevirtual 88, 3) := by decide +kernel
theorem dX11_gauge_39 : decode cX11_gauge 39 = .ok (.ireturn, 1) := by decide +kernel
theorem dX11_gauge_40 : decode cX11_gauge 40 = .ok (.aload_n 0, 1) := by decide +kernel
theorem dX11_gauge_41 : decode cX11_gauge 41 = .ok (.invokevirtual 95, 3) := by decide +kernel
theorem dX11_gauge_44 : decode cX11_gauge 44 = .ok (.aload_n 0, 1) := by decide +kernel
theorem dX11_gauge_45 : decode cX11_gauge 45 = .ok (.aload_n 0, 1) := by decide +kernel
theorem dX11_gauge_46 : decode cX11_gauge 46 = .ok (.getfield 19, 3) := by decide +kernel
theorem dX11_gauge_49 : decode cX11_gauge 49 = .ok (.iload_n 1, 1) := by decide +kernel
theorem dX11_gauge_50 : decode cX11_gauge 50 = .ok (.iload_n 2, 1) := by decide +kernel
theorem dX11_gauge_51 : decode cX11_gauge 51 = .ok (.invokevirtual 147, 3) := by decide +kernel
theorem dX11_gauge_54 : decode cX11_gauge 54 = .ok (.invokevirtual 98, 3) := by decide +kernel
theorem dX11_gauge_57 : decode cX11_gauge 57 = .ok (.ireturn, 1) := by decide +kernel
theorem dX11_go_0 : decode cX11_go 0 = .ok (.aload_n 0, 1) := by decide +kernel
theorem dX11_go_1 : decode cX11_go 1 = .ok (.getfield 19, 3) := by decide +kernel
theorem dX11_go_4 : decode cX11_go 4 = .ok (.getfield 203, 3) := by decide +kernel
theorem dX11_go_7 : decode cX11_go 7 = .ok (.iload_n 1, 1) := by decide +kernel
theorem dX11_go_8 : decode cX11_go 8 = .ok (.invokevirtual 126, 3) := by decide +kernel
theorem dX11_go_11 : decode cX11_go 11 = .ok (.ifCond .eq 14, 3) := by decide +kernel
theorem dX11_go_14 : decode cX11_go 14 = .ok (.iload_n 2, 1) := by decide +kernel
theorem dX11_go_15 : decode cX11_go 15 = .ok (.iconst 1, 1) := by decide +kernel
theorem dX11_go_16 : decode cX11_go 16 = .ok (.if_icmp .lt 9, 3) := by decide +kernel
theorem dX11_go_19 : decode cX11_go 19 = .ok (.iload_n 2, 1) := by decide +kernel
theorem dX11_go_20 : decode cX11_go 20 = .ok (.bipush 50, 2) := by decide +kernel
theorem dX11_go_22 : decode cX11_go 22 = .ok (.if_icmp .le 10, 3) := by decide +kernel
theorem dX11_go_25 : decode cX11_go 25 = .ok (.aload_n 0, 1) := by decide +kernel
theorem dX11_go_26 : decode cX11_go 26 = .ok (.bipush (-2), 2) := by decide +kernel
theorem dX11_go_28 : decode cX11_go 28 = .ok (.invokevirtual 88, 3) := by decide +kernel
theorem dX11_go_31 : decode cX11_go 31 = .ok (.ireturn, 1) := by decide +kernel
theorem dX11_go_32 : decode cX11_go 32 = .ok (.aload_n 0, 1) := by decide +kernel
theorem dX11_go_33 : decode cX11_go 33 = .ok (.getfield 19, 3) := by decide +kernel
theorem dX11_go_36 : decode cX11_go 36 = .ok (.iload_n 1, 1) := by decide +kernel
theorem dX11_go_37 : decode cX11_go 37 = .ok (.invokevirtual 225, 3) := by decide +kernel
theorem dX11_go_40 : decode cX11_go 40 = .ok (.ifCond .eq 10, 3) := by decide +kernel
theorem dX11_go_43 : decode cX11_go 43 = .ok (.aload_n 0, 1) := by decide +kernel
theorem dX11_go_44 : decode cX11_go 44 = .ok (.bipush (-4), 2) := by decide +kernel
theorem dX11_go_46 : decode cX11_go 46 = .ok (.invokevirtual 88, 3) := by decide +kernel
theorem dX11_go_49 : decode cX11_go 49 = .ok (.ireturn, 1) := by decide +kernel
theorem dX11_go_50 : decode cX11_go 50 = .ok (.aload_n 0, 1) := by decide +kernel
theorem dX11_go_51 : decode cX11_go 51 = .ok (.getfield 19, 3) := by decide +kernel
theorem dX11_go_54 : decode cX11_go 54 = .ok (.iload_n 1, 1) := by decide +kernel
theorem dX11_go_55 : decode cX11_go 55 = .ok (.invokevirtual 286, 3) := by decide +kernel
theorem dX11_go_58 : decode cX11_go 58 = .ok (.ifCond .ne 10, 3) := by decide +kernel
theorem dX11_go_61 : decode cX11_go 61 = .ok (.aload_n 0, 1) := by decide +kernel
theorem dX11_go_62 : decode cX11_go 62 = .ok (.bipush (-8), 2) := by decide +kernel
theorem dX11_go_64 : decode cX11_go 64 = .ok (.invokevirtual 88, 3) := by decide +kernel
theorem dX11_go_67 : decode cX11_go 67 = .ok (.ireturn, 1) := by decide +kernel
theorem dX11_go_68 : decode cX11_go 68 = .ok (.aload_n 0, 1) := by decide +kernel
theorem dX11_go_69 : decode cX11_go 69 = .ok (.getfield 19, 3) := by decide +kernel
theorem dX11_go_72 : decode cX11_go 72 = .ok (.iload_n 1, 1) := by decide +kernel
theorem dX11_go_73 : decode cX11_go 73 = .ok (.invokevirtual 289, 3) := by decide +kernel
theorem dX11_go_76 : decode cX11_go 76 = .ok (.ifCond .eq 22, 3) := by decide +kernel
theorem dX11_go_79 : decode cX11_go 79 = .ok (.aload_n 0, 1) := by decide +kernel
theorem dX11_go_80 : decode cX11_go 80 = .ok (.getfield 10, 3) := by decide +kernel
theorem dX11_go_83 : decode cX11_go 83 = .ok (.dup, 1) := by decide +kernel
theorem dX11_go_84 : decode cX11_go 84 = .ok (.getfield 292, 3) := by decide +kernel
theorem dX11_go_87 : decode cX11_go 87 = .ok (.iconst 1, 1) := by decide +kernel
theorem dX11_go_88 : decode cX11_go 88 = .ok (.iadd, 1) := by decide +kernel
theorem dX11_go_89 : decode cX11_go 89 = .ok (.putfield 292, 3) := by decide +kernel
theorem dX11_go_92 : decode cX11_go 92 = .ok (.aload_n 0, 1) := by decide +kernel
theorem dX11_go_93 : decode cX11_go 93 = .ok (.iconst 0, 1) := by decide +kernel
theorem dX11_go_94 : decode cX11_go 94 = .ok (.invokevirtual 98, 3) := by decide +kernel
theorem dX11_go_97 : decode cX11_go 97 = .ok (.ireturn, 1) := by decide +kernel
theorem dX11_go_98 : decode cX11_go 98 = .ok (.aload_n 0, 1) := by decide +kernel
theorem dX11_go_99 : decode cX11_go 99 = .ok (.invokevirtual 95, 3) := by decide +kernel
theorem dX11_go_102 : decode cX11_go 102 = .ok (.iconst 0, 1) := by decide +kernel
theorem dX11_go_103 : decode cX11_go 103 = .ok (.istore_n 3, 1) := by decide +kernel
theorem dX11_go_104 : decode cX11_go 104 = .ok (.iload_n 3, 1) := by decide +kernel
theorem dX11_go_105 : decode cX11_go 105 = .ok (.iload_n 2, 1) := by decide +kernel
theorem dX11_go_106 : decode cX11_go 106 = .ok (.if_icmp .ge 52, 3) := by decide +kernel
theorem dX11_go_109 : decode cX11_go 109 = .ok (.aload_n 0, 1) := by decide +kernel
theorem dX11_go_110 : decode cX11_go 110 = .ok (.getfield 19, 3) := by decide +kernel
theorem dX11_go_113 : decode cX11_go 113 = .ok (.iload_n 1, 1) := by decide +kernel
theorem dX11_go_114 : decode cX11_go 114 = .ok (.invokevirtual 286, 3) := by decide +kernel
theorem dX11_go_117 : decode cX11_go 117 = .ok (.ifCond .eq 41, 3) := by decide +kernel
theorem dX11_go_120 : decode cX11_go 120 = .ok (.aload_n 0, 1) := by decide +kernel
theorem dX11_go_121 : decode cX11_go 121 = .ok (.getfield 10, 3) := by decide +kernel
theorem dX11_go_124 : decode cX11_go 124 = .ok (.dup, 1) := by decide +kernel
theorem dX11_go_125 : decode cX11_go 125 = .ok (.getfield 292, 3) := by decide +kernel
theorem dX11_go_128 : decode cX11_go 128 = .ok (.iconst 1, 1) := by decide +kernel
theorem dX11_go_129 : decode cX11_go 129 = .ok (.iadd, 1) := by decide +kernel
theorem dX11_go_130 : decode cX11_go 130 = .ok (.putfield 292, 3) := by decide +kernel
theorem dX11_go_133 : decode cX11_go 133 = .ok (.aload_n 0, 1) := by decide +kernel
theorem dX11_go_134 : decode cX11_go 134 = .ok (.getfield 19, 3) := by decide +kernel
theorem dX11_go_137 : decode cX11_go 137 = .ok (.iload_n 1, 1) := by decide +kernel
theorem dX11_go_138 : decode cX11_go 138 = .ok (.invokevirtual 289, 3) := by decide +kernel
theorem dX11_go_141 : decode cX11_go 141 = .ok (.ifCond .eq 6, 3) := by decide +kernel
theorem dX11_go_144 : decode cX11_go 144 = .ok (.goto 14, 3) := by decide +kernel
theorem dX11_go_147 : decode cX11_go 147 = .ok (.aload_n 0, 1) := by decide +kernel
theorem dX11_go_148 : decode cX11_go 148 = .ok (.iload_n 1, 1) := by decide +kernel
theorem dX11_go_149 : decode cX11_go 149 = .ok (.invokevirtual 295, 3) := by decide +kernel
theorem dX11_go_152 : decode cX11_go 152 = .ok (.iinc 3 1, 3) := by decide +kernel
theorem dX11_go_155 : decode cX11_go 155 = .ok (.goto (-51), 3) := by decide +kernel
theorem dX11_go_158 : decode cX11_go 158 = .ok (.aload_n 0, 1) := by decide +kernel
theorem dX11_go_159 : decode cX11_go 159 = .ok (.iload_n 3, 1) := by decide +kernel
theorem dX11_go_160 : decode cX11_go 160 = .ok (.invokevirtual 98, 3) := by decide +kernel
theorem dX11_go_163 : decode cX11_go 163 = .ok (.ireturn, 1) := by decide +kernel
theorem dX11_init_0 : decode cX11_init 0 = .ok (.aload_n 0, 1) := by decide +kernel
theorem dX11_init_1 : decode cX11_init 1 = .ok (.invokespecial 1, 3) := by decide +kernel
theorem dX11_init_4 : decode cX11_init 4 = .ok (.aload_n 0, 1) := by decide +kernel
theorem dX11_init_5 : decode cX11_init 5 = .ok (.new 7, 3) := by decide +kernel
theorem dX11_init_8 : decode cX11_init 8 = .ok (.dup, 1) := by decide +kernel
theorem dX11_init_9 : decode cX11_init 9 = .ok (.invokespecial 9, 3) := by decide +kernel
theorem dX11_init_12 : decode cX11_init 12 = .ok (.putfield 10, 3) := by decide +kernel
theorem dX11_init_15 : decode cX11_init 15 = .ok (.aload_n 0, 1) := by decide +kernel
theorem dX11_init_16 : decode cX11_init 16 = .ok (.new 16, 3) := by decide +kernel
theorem dX11_init_19 : decode cX11_init 19 = .ok (.dup, 1) := by decide +kernel
theorem dX11_init_20 : decode cX11_init 20 = .ok (.invokespecial 18, 3) := by decide +kernel
theorem dX11_init_23 : decode cX11_init 23 = .ok (.putfield 19, 3) := by decide +kernel
theorem dX11_init_26 : decode cX11_init 26 = .ok (.aload_n 0, 1) := by decide +kernel
theorem dX11_init_27 : decode cX11_init 27 = .ok (.new 16, 3) := by decide +kernel
theorem dX11_init_30 : decode cX11_init 30 = .ok (.dup, 1) := by decide +kernel
theorem dX11_init_31 : decode cX11_init 31 = .ok (.invokespecial 18, 3) := by decide +kernel
theorem dX11_init_34 : decode cX11_init 34 = .ok (.putfield 23, 3) := by decide +kernel
theorem dX11_init_37 : decode cX11_init 37 = .ok (.aload_n 0, 1) := by decide +kernel
theorem dX11_init_38 : decode cX11_init 38 = .ok (.new 26, 3) := by decide +kernel
theorem dX11_init_41 : decode cX11_init 41 = .ok (.dup, 1) := by decide +kernel
theorem dX11_init_42 : decode cX11_init 42 = .ok (.aload_n 0, 1) := by decide +kernel
theorem dX11_init_43 : decode cX11_init 43 = .ok (.getfield 19, 3) := by decide +kernel
theorem dX11_init_46 : decode cX11_init 46 = .ok (.invokespecial 28, 3) := by decide +kernel
theorem dX11_init_49 : decode cX11_init 49 = .ok (.putfield 31, 3) := by decide +kernel
theorem dX11_init_52 : decode cX11_init 52 = .ok (.aload_n 0, 1) := by decide +kernel
theorem dX11_init_53 : decode cX11_init 53 = .ok (.new 35, 3) := by decide +kernel
theorem dX11_init_56 : decode cX11_init 56 = .ok (.dup, 1) := by decide +kernel
theorem dX11_init_57 : decode cX11_init 57 = .ok (.aload_n 0, 1) := by decide +kernel
theorem dX11_init_58 : decode cX11_init 58 = .ok (.getfield 19, 3) := by decide +kernel
theorem dX11_init_61 : decode cX11_init 61 = .ok (.aload_n 0, 1) := by decide +kernel
theorem dX11_init_62 : decode cX11_init 62 = .ok (.getfield 31, 3) := by decide +kernel
theorem dX11_init_65 : decode cX11_init 65 = .ok (.invokespecial 37, 3) := by decide +kernel
theorem dX11_init_68 : decode cX11_init 68 = .ok (.putfield 40, 3) := by decide +kernel
theorem dX11_init_71 : decode cX11_init 71 = .ok (.aload_n 0, 1) := by decide +kernel
theorem dX11_init_72 : decode cX11_init 72 = .ok (.new 44, 3) := by decide +kernel
theorem dX11_init_75 : decode cX11_init 75 = .ok (.dup, 1) := by decide +kernel
theorem dX11_init_76 : decode cX11_init 76 = .ok (.aload_n 0, 1) := by decide +kernel
theorem dX11_init_77 : decode cX11_init 77 = .ok (.getfield 19, 3) := by decide +kernel
theorem dX11_init_80 : decode cX11_init 80 = .ok (.aload_n 0, 1) := by decide +kernel
theorem dX11_init_81 : decode cX11_init 81 = .ok (.getfield 31, 3) := by decide +kernel
theorem dX11_init_84 : decode cX11_init 84 = .ok (.aload_n 0, 1) := by decide +kernel
theorem dX11_init_85 : decode cX11_init 85 = .ok (.getfield 40, 3) := by decide +kernel
theorem dX11_init_88 : decode cX11_init 88 = .ok (.invokespecial 46, 3) := by decide +kernel
theorem dX11_init_91 : decode cX11_init 91 = .ok (.putfield 49, 3) := by decide +kernel
theorem dX11_init_94 : decode cX11_init 94 = .ok (.aload_n 0, 1) := by decide +kernel
theorem dX11_init_95 : decode cX11_init 95 = .ok (.bipush 12, 2) := by decide +kernel
theorem dX11_init_97 : decode cX11_init 97 = .ok (.anewarray 53, 3) := by decide +kernel
theorem dX11_init_100 : decode cX11_init 100 = .ok (.putfield 55, 3) := by decide +kernel
theorem dX11_init_103 : decode cX11_init 103 = .ok (.aload_n 0, 1) := by decide +kernel
theorem dX11_init_104 : decode cX11_init 104 = .ok (.bipush 20, 2) := by decide +kernel
theorem dX11_init_106 : decode cX11_init 106 = .ok (.newarray .float, 2) := by decide +kernel
theorem dX11_init_108 : decode cX11_init 108 = .ok (.putfield 59, 3) := by decide +kernel
theorem dX11_init_111 : decode cX11_init 111 = .ok (.aload_n 0, 1) := by decide +kernel
theorem dX11_init_112 : decode cX11_init 112 = .ok (.bipush 12, 2) := by decide +kernel
theorem dX11_init_114 : decode cX11_init 114 = .ok (.newarray .int, 2) := by decide +kernel
theorem dX11_init_116 : decode cX11_init 116 = .ok (.putfield 63, 3) := by decide +kernel
theorem dX11_init_119 : decode cX11_init 119 = .ok (.aload_n 0, 1) := by decide +kernel
theorem dX11_init_120 : decode cX11_init 120 = .ok (.bipush 12, 2) := by decide +kernel
theorem dX11_init_122 : decode cX11_init 122 = .ok (.newarray .int, 2) := by decide +kernel
theorem dX11_init_124 : decode cX11_init 124 = .ok (.putfield 67, 3) := by decide +kernel
theorem dX11_init_127 : decode cX11_init 127 = .ok (.aload_n 0, 1) := by decide +kernel
theorem dX11_init_128 : decode cX11_init 128 = .ok (.bipush 12, 2) := by decide +kernel
theorem dX11_init_130 : decode cX11_init 130 = .ok (.newarray .int, 2) := by decide +kernel
theorem dX11_init_132 : decode cX11_init 132 = .ok (.putfield 70, 3) := by decide +kernel
theorem dX11_init_135 : decode cX11_init 135 = .ok (.aload_n 0, 1) := by decide +kernel
theorem dX11_init_136 : decode cX11_init 136 = .ok (.bipush 16, 2) := by decide +kernel
theorem dX11_init_138 : decode cX11_init 138 = .ok (.newarray .char, 2) := by decide +kernel
theorem dX11_init_140 : decode cX11_init 140 = .ok (.putfield 73, 3) := by decide +kernel
theorem dX11_init_143 : decode cX11_init 143 = .ok (.aload_n 0, 1) := by decide +kernel
theorem dX11_init_144 : decode cX11_init 144 = .ok (.iconst 0, 1) := by decide +kernel
theorem dX11_init_145 : decode cX11_init 145 = .ok (.putfield 77, 3) := by decide +kernel
theorem dX11_init_148 : decode cX11_init 148 = .ok (.aload_n 0, 1) := by decide +kernel
theorem dX11_init_149 : decode cX11_init 149 = .ok (.iconst 0, 1) := by decide +kernel
theorem dX11_init_150 : decode cX11_init 150 = .ok (.putfield 81, 3) := by decide +kernel
theorem dX11_init_153 : decode cX11_init 153 = .ok (.new 53, 3) := by decide +kernel
theorem dX11_init_156 : decode cX11_init 156 = .ok (.dup, 1) := by decide +kernel
theorem dX11_init_157 : decode cX11_init 157 = .ok (.aload_n 0, 1) := by decide +kernel
theorem dX11_init_158 : decode cX11_init 158 = .ok (.getfield 10, 3) := by decide +kernel
theorem dX11_init_161 : decode cX11_init 161 = .ok (.bipush 50, 2) := by decide +kernel
theorem dX11_init_163 : decode cX11_init 163 = .ok (.sipush 200, 3) := by decide +kernel
theorem dX11_init_166 : decode cX11_init 166 = .ok (.invokespecial 85, 3) := by decide +kernel
theorem dX11_init_169 : decode cX11_init 169 = .ok (.astore_n 1, 1) := by decide +kernel
theorem dX11_init_170 : decode cX11_init 170 = .ok (.iconst 0, 1) := by decide +kernel
theorem dX11_init_171 : decode cX11_init 171 = .ok (.istore_n 2, 1) := by decide +kernel
theorem dX11_init_172 : decode cX11_init 172 = .ok (.iload_n 2, 1) := by decide +kernel
theorem dX11_init_173 : decode cX11_init 173 = .ok (.bipush 12, 2) := by decide +kernel
theorem dX11_init_175 : decode cX11_init 175 = .ok (.if_icmp .ge 16, 3) := by decide +kernel
theorem dX11_init_178 : decode cX11_init 178 = .ok (.aload_n 0, 1) := by decide +kernel
theorem dX11_init_179 : decode cX11_init 179 = .ok (.getfield 55, 3) := by decide +kernel
theorem dX11_init_182 : decode cX11_init 182 = .ok (.iload_n 2, 1) := by decide +kernel
theorem dX11_init_183 : decode cX11_init 183 = .ok (.aload_n 1, 1) := by decide +kernel
theorem dX11_init_184 : decode cX11_init 184 = .ok (.aastore, 1) := by decide +kernel
theorem dX11_init_185 : decode cX11_init 185 = .ok (.iinc 2 1, 3) := by decide +kernel
theorem dX11_init_188 : decode cX11_init 188 = .ok (.goto (-16), 3) := by decide +kernel
theorem dX11_init_191 : decode cX11_init 191 = .ok (.return_, 1) := by decide +kernel
theorem dX11_least_0 : decode cX11_least 0 = .ok (.aload_n 0, 1) := by decide +kernel
theorem dX11_least_1 : decode cX11_least 1 = .ok (.getfield 40, 3) := by decide +kernel
theorem dX11_least_4 : decode cX11_least 4 = .ok (.invokevirtual 242, 3) := by decide +kernel
theorem dX11_least_7 : decode cX11_least 7 = .ok (.istore_n 2, 1) := by decide +kernel
theorem dX11_least_8 : decode cX11_least 8 = .ok (.iload_n 2, 1) := by decide +kernel
theorem dX11_least_9 : decode cX11_least 9 = .ok (.bipush 14, 2) := by decide +kernel
theorem dX11_least_11 : decode cX11_least 11 = .ok (.if_icmp .gt 24, 3) := by decide +kernel
theorem dX11_least_14 : decode cX11_least 14 = .ok (.aload_n 0, 1) := by decide +kernel
theorem dX11_least_15 : decode cX11_least 15 = .ok (.getfield 19, 3) := by decide +kernel
theorem dX11_least_18 : decode cX11_least 18 = .ok (.invokevirtual 248, 3) := by decide +kernel
theorem dX11_least_21 : decode cX11_least 21 = .ok (.ifCond .ne 14, 3) := by decide +kernel
theorem dX11_least_24 : decode cX11_least 24 = .ok (.iload_n 1, 1) := by decide +kernel
theorem dX11_least_25 : decode cX11_least 25 = .ok (.ifCond .lt 10, 3) := by decide +kernel
theorem dX11_least_28 : decode cX11_least 28 = .ok (.iload_n 1, 1) := by decide +kernel
theorem dX11_least_29 : decode cX11_least 29 = .ok (.iconst 1, 1) := by decide +kernel
theorem dX11_least_30 : decode cX11_least 30 = .ok (.iload_n 2, 1) := by decide +kernel
theorem dX11_least_31 : decode cX11_least 31 = .ok (.ishl, 1) := by decide +kernel
theorem dX11_least_32 : decode cX11_least 32 = .ok (.if_icmp .lt 10, 3) := by decide +kernel
theorem dX11_least_35 : decode cX11_least 35 = .ok (.aload_n 0, 1) := by decide +kernel
theorem dX11_least_36 : decode cX11_least 36 = .ok (.bipush (-2), 2) := by decide +kernel
theorem dX11_least_38 : decode cX11_least 38 = .ok (.invokevirtual 88, 3) := by decide +kernel
theorem dX11_least_41 : decode cX11_least 41 = .ok (.ireturn, 1) := by decide +kernel
theorem dX11_least_42 : decode cX11_least 42 = .ok (.aload_n 0, 1) := by decide +kernel
theorem dX11_least_43 : decode cX11_least 43 = .ok (.getfield 31, 3) := by decide +kernel
theorem dX11_least_46 : decode cX11_least 46 = .ok (.aload_n 0, 1) := by decide +kernel
theorem dX11_least_47 : decode cX11_least 47 = .ok (.getfield 40, 3) := by decide +kernel
theorem dX11_least_50 : decode cX11_least 50 = .ok (.invokevirtual 252, 3) := by decide +kernel
theorem dX11_least_53 : decode cX11_least 53 = .ok (.invokevirtual 133, 3) := by decide +kernel
theorem dX11_least_56 : decode cX11_least 56 = .ok (.aload_n 0, 1) := by decide +kernel
theorem dX11_least_57 : decode cX11_least 57 = .ok (.getfield 40, 3) := by decide +kernel
theorem dX11_least_60 : decode cX11_least 60 = .ok (.invokevirtual 256, 3) := by decide +kernel
theorem dX11_least_63 : decode cX11_least 63 = .ok (.aload_n 0, 1) := by decide +kernel
theorem dX11_least_64 : decode cX11_least 64 = .ok (.getfield 40, 3) := by decide +kernel
theorem dX11_least_67 : decode cX11_least 67 = .ok (.iload_n 1, 1) := by decide +kernel
theorem dX11_least_68 : decode cX11_least 68 = .ok (.invokevirtual 259, 3) := by decide +kernel
theorem dX11_least_71 : decode cX11_least 71 = .ok (.istore_n 3, 1) := by decide +kernel
theorem dX11_least_72 : decode cX11_least 72 = .ok (.iload_n 3, 1) := by decide +kernel
theorem dX11_least_73 : decode cX11_least 73 = .ok (.ldc 140, 2) := by decide +kernel
theorem dX11_least_75 : decode cX11_least 75 = .ok (.if_icmp .lt 12, 3) := by decide +kernel
theorem dX11_least_78 : decode cX11_least 78 = .ok (.aload_n 0, 1) := by decide +kernel
theorem dX11_least_79 : decode cX11_least 79 = .ok (.bipush (-8), 2) := by decide +kernel
theorem dX11_least_81 : decode cX11_least 81 = .ok (.invokevirtual 88, 3) := by decide +kernel
theorem dX11_least_84 : decode cX11_least 84 = .ok (.goto 8, 3) := by decide +kernel
theorem dX11_least_87 : decode cX11_least 87 = .ok (.aload_n 0, 1) := by decide +kernel
theorem dX11_least_88 : decode cX11_least 88 = .ok (.iload_n 3, 1) := by decide +kernel
theorem dX11_least_89 : decode cX11_least 89 = .ok (.invokevirtual 98, 3) := by decide +kernel
theorem dX11_least_92 : decode cX11_least 92 = .ok (.ireturn, 1) := by decide +kernel
theorem dX11_length_0 : decode cX11_length 0 = .ok (.iload_n 1, 1) := by decide +kernel
theorem dX11_length_1 : decode cX11_length 1 = .ok (.ifCond .lt 9, 3) := by decide +kernel
theorem dX11_length_4 : decode cX11_length 4 = .ok (.iload_n 1, 1) := by decide +kernel
theorem dX11_length_5 : decode cX11_length 5 = .ok (.bipush 7, 2) := by decide +kernel
theorem dX11_length_7 : decode cX11_length 7 = .ok (.if_icmp .lt 10, 3) := by decide +kernel
theorem dX11_length_10 : decode cX11_length 10 = .ok (.aload_n 0, 1) := by decide +kernel
theorem dX11_length_11 : decode cX11_length 11 = .ok (.bipush (-2), 2) := by decide +kernel
theorem dX11_length_13 : decode cX11_length 13 = .ok (.invokevirtual 88, 3) := by decide +kernel
theorem dX11_length_16 : decode cX11_length 16 = .ok (.ireturn, 1) := by decide +kernel
theorem dX11_length_17 : decode cX11_length 17 = .ok (.aload_n 0, 1) := by decide +kernel
theorem dX11_length_18 : decode cX11_length 18 = .ok (.aload_n 0, 1) := by decide +kernel
theorem dX11_length_19 : decode cX11_length 19 = .ok (.getfield 19, 3) := by decide +kernel
theorem dX11_length_22 : decode cX11_length 22 = .ok (.getfield 277, 3) := by decide +kernel
theorem dX11_length_25 : decode cX11_length 25 = .ok (.iload_n 1, 1) := by decide +kernel
theorem dX11_length_26 : decode cX11_length 26 = .ok (.iaload, 1) := by decide +kernel
theorem dX11_length_27 : decode cX11_length 27 = .ok (.invokevirtual 98, 3) := by decide +kernel
theorem dX11_length_30 : decode cX11_length 30 = .ok (.ireturn, 1) := by decide +kernel
theorem dX11_looks_0 : decode cX11_looks 0 = .ok (.aload_n 0, 1) := by decide +kernel
theorem dX11_looks_1 : decode cX11_looks 1 = .ok (.getfield 10, 3) := by decide +kernel
theorem dX11_looks_4 : decode cX11_looks 4 = .ok (.getfield 292, 3) := by decide +kernel
theorem dX11_looks_7 : decode cX11_looks 7 = .ok (.ireturn, 1) := by decide +kernel
theorem dX11_lose_0 : decode cX11_lose 0 = .ok (.aload_n 0, 1) := by decide +kernel
theorem dX11_lose_1 : decode cX11_lose 1 = .ok (.getfield 19, 3) := by decide +kernel
theorem dX11_lose_4 : decode cX11_lose 4 = .ok (.getfield 144, 3) := by decide +kernel
theorem dX11_lose_7 : decode cX11_lose 7 = .ok (.iload_n 1, 1) := by decide +kernel
theorem dX11_lose_8 : decode cX11_lose 8 = .ok (.invokevirtual 126, 3) := by decide +kernel
theorem dX11_lose_11 : decode cX11_lose 11 = .ok (.ifCond .ne 10, 3) := by decide +kernel
theorem dX11_lose_14 : decode cX11_lose 14 = .ok (.aload_n 0, 1) := by decide +kernel
theorem dX11_lose_15 : decode cX11_lose 15 = .ok (.bipush (-2), 2) := by decide +kernel
theorem dX11_lose_17 : decode cX11_lose 17 = .ok (.invokevirtual 88, 3) := by decide +kernel
theorem dX11_lose_20 : decode cX11_lose 20 = .ok (.ireturn, 1) := by decide +kernel
theorem dX11_lose_21 : decode cX11_lose 21 = .ok (.aload_n 0, 1) := by decide +kernel
theorem dX11_lose_22 : decode cX11_lose 22 = .ok (.getfield 19, 3) := by decide +kernel
theorem dX11_lose_25 : decode cX11_lose 25 = .ok (.iload_n 1, 1) := by decide +kernel
theorem dX11_lose_26 : decode cX11_lose 26 = .ok (.invokevirtual 155, 3) := by decide +kernel
theorem dX11_lose_29 : decode cX11_lose 29 = .ok (.istore_n 2, 1) := by decide +kernel
theorem dX11_lose_30 : decode cX11_lose 30 = .ok (.aload_n 0, 1) := by decide +kernel
theorem dX11_lose_31 : decode cX11_lose 31 = .ok (.invokevirtual 95, 3) := by decide +kernel
theorem dX11_lose_34 : decode cX11_lose 34 = .ok (.aload_n 0, 1) := by decide +kernel
theorem dX11_lose_35 : decode cX11_lose 35 = .ok (.getfield 19, 3) := by decide +kernel
theorem dX11_lose_38 : decode cX11_lose 38 = .ok (.getfield 144, 3) := by decide +kernel
theorem dX11_lose_41 : decode cX11_lose 41 = .ok (.iload_n 1, 1) := by decide +kernel
theorem dX11_lose_42 : decode cX11_lose 42 = .ok (.iconst 2, 1) := by decide +kernel
theorem dX11_lose_43 : decode cX11_lose 43 = .ok (.iconst (-1), 1) := by decide +kernel
theorem dX11_lose_44 : decode cX11_lose 44 = .ok (.invokevirtual 118, 3) := by decide +kernel
theorem dX11_lose_47 : decode cX11_lose 47 = .ok (.aload_n 0, 1) := by decide +kernel
theorem dX11_lose_48 : decode cX11_lose 48 = .ok (.iload_n 2, 1) := by decide +kernel
theorem dX11_lose_49 : decode cX11_lose 49 = .ok (.ifCond .eq 7, 3) := by decide +kernel
theorem dX11_lose_52 : decode cX11_lose 52 = .ok (.iconst 0, 1) := by decide +kernel
theorem dX11_lose_53 : decode cX11_lose 53 = .ok (.goto 4, 3) := by decide +kernel
theorem dX11_lose_56 : decode cX11_lose 56 = .ok (.iconst 1, 1) := by decide +kernel
theorem dX11_lose_57 : decode cX11_lose 57 = .ok (.invokevirtual 98, 3) := by decide +kernel
theorem dX11_lose_60 : decode cX11_lose 60 = .ok (.ireturn, 1) := by decide +kernel
theorem dX11_lowest_0 : decode cX11_lowest 0 = .ok (.lload_n 0, 1) := by decide +kernel
theorem dX11_lowest_1 : decode cX11_lowest 1 = .ok (.lload_n 0, 1) := by decide +kernel
theorem dX11_lowest_2 : decode cX11_lowest 2 = .ok (.lneg, 1) := by decide +kernel
theorem dX11_lowest_3 : decode cX11_lowest 3 = .ok (.land, 1) := by decide +kernel
theorem dX11_lowest_4 : decode cX11_lowest 4 = .ok (.lconst 1, 1) := by decide +kernel
theorem dX11_lowest_5 : decode cX11_lowest 5 = .ok (.lsub, 1) := by decide +kernel
theorem dX11_lowest_6 : decode cX11_lowest 6 = .ok (.invokestatic 318, 3) := by decide +kernel
theorem dX11_lowest_9 : decode cX11_lowest 9 = .ok (.ireturn, 1) := by decide +kernel
theorem dX11_melt_0 : decode cX11_melt 0 = .ok (.iload_n 1, 1) := by decide +kernel
theorem dX11_melt_1 : decode cX11_melt 1 = .ok (.ifCond .lt 7, 3) := by decide +kernel
theorem dX11_melt_4 : decode cX11_melt 4 = .ok (.iload_n 2, 1) := by decide +kernel
theorem dX11_melt_5 : decode cX11_melt 5 = .ok (.ifCond .ge 10, 3) := by decide +kernel
theorem dX11_melt_8 : decode cX11_melt 8 = .ok (.aload_n 0, 1) := by decide +kernel
theorem dX11_melt_9 : decode cX11_melt 9 = .ok (.bipush (-2), 2) := by decide +kernel
theorem dX11_melt_11 : decode cX11_melt 11 = .ok (.invokevirtual 88, 3) := by decide +kernel
theorem dX11_melt_14 : decode cX11_melt 14 = .ok (.ireturn, 1) := by decide +kernel
theorem dX11_melt_15 : decode cX11_melt 15 = .ok (.iload_n 2, 1) := by decide +kernel
theorem dX11_melt_16 : decode cX11_melt 16 = .ok (.ifCond .ne 10, 3) := by decide +kernel
theorem dX11_melt_19 : decode cX11_melt 19 = .ok (.aload_n 0, 1) := by decide +kernel
theorem dX11_melt_20 : decode cX11_melt 20 = .ok (.bipush (-8), 2) := by decide +kernel
theorem dX11_melt_22 : decode cX11_melt 22 = .ok (.invokevirtual 88, 3) := by decide +kernel
theorem dX11_melt_25 : decode cX11_melt 25 = .ok (.ireturn, 1) := by decide +kernel
theorem dX11_melt_26 : decode cX11_melt 26 = .ok (.iload_n 1, 1) := by decide +kernel
theorem dX11_melt_27 : decode cX11_melt 27 = .ok (.iload_n 2, 1) := by decide +kernel
theorem dX11_melt_28 : decode cX11_melt 28 = .ok (.invokestatic 197, 3) := by decide +kernel
theorem dX11_melt_31 : decode cX11_melt 31 = .ok (.istore_n 3, 1) := by decide +kernel
theorem dX11_melt_32 : decode cX11_melt 32 = .ok (.aload_n 0, 1) := by decide +kernel
theorem dX11_melt_33 : decode cX11_melt 33 = .ok (.invokevirtual 95, 3) := by decide +kernel
theorem dX11_melt_36 : decode cX11_melt 36 = .ok (.iconst 0, 1) := by decide +kernel
theorem dX11_melt_37 : decode cX11_melt 37 = .ok (.istore 4, 2) := by decide +kernel
theorem dX11_melt_39 : decode cX11_melt 39 = .ok (.iload 4, 2) := by decide +kernel
theorem dX11_melt_41 : decode cX11_melt 41 = .ok (.aload_n 0, 1) := by decide +kernel
theorem dX11_melt_42 : decode cX11_melt 42 = .ok (.getfield 19, 3) := by decide +kernel
theorem dX11_melt_45 : decode cX11_melt 45 = .ok (.getfield 105, 3) := by decide +kernel
theorem dX11_melt_48 : decode cX11_melt 48 = .ok (.getfield 109, 3) := by decide +kernel
theorem dX11_melt_51 : decode cX11_melt 51 = .ok (.if_icmp .ge 21, 3) := by decide +kernel
theorem dX11_melt_54 : decode cX11_melt 54 = .ok (.aload_n 0, 1) := by decide +kernel
theorem dX11_melt_55 : decode cX11_melt 55 = .ok (.getfield 19, 3) := by decide +kernel
theorem dX11_melt_58 : decode cX11_melt 58 = .ok (.iload 4, 2) := by decide +kernel
theorem dX11_melt_60 : decode cX11_melt 60 = .ok (.iconst 3, 1) := by decide +kernel
theorem dX11_melt_61 : decode cX11_melt 61 = .ok (.iload_n 3, 1) := by decide +kernel
theorem dX11_melt_62 : decode cX11_melt 62 = .ok (.imul, 1) := by decide +kernel
theorem dX11_melt_63 : decode cX11_melt 63 = .ok (.invokevirtual 200, 3) := by decide +kernel
theorem dX11_melt_66 : decode cX11_melt 66 = .ok (.iinc 4 1, 3) := by decide +kernel
theorem dX11_melt_69 : decode cX11_melt 69 = .ok (.goto (-30), 3) := by decide +kernel
theorem dX11_melt_72 : decode cX11_melt 72 = .ok (.aload_n 0, 1) := by decide +kernel
theorem dX11_melt_73 : decode cX11_melt 73 = .ok (.iload_n 3, 1) := by decide +kernel
theorem dX11_melt_74 : decode cX11_melt 74 = .ok (.invokevirtual 98, 3) := by decide +kernel
theorem dX11_melt_77 : decode cX11_melt 77 = .ok (.ireturn, 1) := by decide +kernel
theorem dX11_nearness_0 : decode cX11_nearness 0 = .ok (.aload_n 0, 1) := by decide +kernel
theorem dX11_nearness_1 : decode cX11_nearness 1 = .ok (.getfield 19, 3) := by decide +kernel
theorem dX11_nearness_4 : decode cX11_nearness 4 = .ok (.getfield 144, 3) := by decide +kernel
theorem dX11_nearness_7 : decode cX11_nearness 7 = .ok (.iload_n 1, 1) := by decide +kernel
theorem dX11_nearness_8 : decode cX11_nearness 8 = .ok (.iconst 0, 1) := by decide +kernel
theorem dX11_nearness_9 : decode cX11_nearness 9 = .ok (.invokevirtual 129, 3) := by decide +kernel
theorem dX11_nearness_12 : decode cX11_nearness 12 = .ok (.istore_n 3, 1) := by decide +kernel
theorem dX11_nearness_13 : decode cX11_nearness 13 = .ok (.aload_n 0, 1) := by decide +kernel
theorem dX11_nearness_14 : decode cX11_nearness 14 = .ok (.getfield 19, 3) := by decide +kernel
theorem dX11_nearness_17 : decode cX11_nearness 17 = .ok (.getfield 105, 3) := by decide +kernel
theorem dX11_nearness_20 : decode cX11_nearness 20 = .ok (.iload_n 2, 1) := by decide +kernel
theorem dX11_nearness_21 : decode cX11_nearness 21 = .ok (.bipush 7, 2) := by decide +kernel
theorem dX11_nearness_23 : decode cX11_nearness 23 = .ok (.invokevirtual 129, 3) := by decide +kernel
theorem dX11_nearness_26 : decode cX11_nearness 26 = .ok (.istore 4, 2) := by decide +kernel
theorem dX11_nearness_28 : decode cX11_nearness 28 = .ok (.aload_n 0, 1) := by decide +kernel
theorem dX11_nearness_29 : decode cX11_nearness 29 = .ok (.getfield 19, 3) := by decide +kernel
theorem dX11_nearness_32 : decode cX11_nearness 32 = .ok (.getfield 105, 3) := by decide +kernel
theorem dX11_nearness_35 : decode cX11_nearness 35 = .ok (.iload_n 2, 1) := by decide +kernel
theorem dX11_nearness_36 : decode cX11_nearness 36 = .ok (.bipush 8, 2) := by decide +kernel
theorem dX11_nearness_38 : decode cX11_nearness 38 = .ok (.invokevirtual 129, 3) := by decide +kernel
theorem dX11_nearness_41 : decode cX11_nearness 41 = .ok (.istore 5, 2) := by decide +kernel
theorem dX11_nearness_43 : decode cX11_nearness 43 = .ok (.iload_n 3, 1) := by decide +kernel
theorem dX11_nearness_44 : decode cX11_nearness 44 = .ok (.iload 4, 2) := by decide +kernel
theorem dX11_nearness_46 : decode cX11_nearness 46 = .ok (.if_icmp .eq 9, 3) := by decide +kernel
theorem dX11_nearness_49 : decode cX11_nearness 49 = .ok (.iload_n 3, 1) := by decide +kernel
theorem dX11_nearness_50 : decode cX11_nearness 50 = .ok (.iload 5, 2) := by decide +kernel
theorem dX11_nearness_52 : decode cX11_nearness 52 = .ok (.if_icmp .ne 5, 3) := by decide +kernel
theorem dX11_nearness_55 : decode cX11_nearness 55 = .ok (.iconst 2, 1) := by decide +kernel
theorem dX11_nearness_56 : decode cX11_nearness 56 = .ok (.ireturn, 1) := by decide +kernel
theorem dX11_nearness_57 : decode cX11_nearness 57 = .ok (.aload_n 0, 1) := by decide +kernel
theorem dX11_nearness_58 : decode cX11_nearness 58 = .ok (.getfield 31, 3) := by decide +kernel
theorem dX11_nearness_61 : decode cX11_nearness 61 = .ok (.iload_n 3, 1) := by decide +kernel
theorem dX11_nearness_62 : decode cX11_nearness 62 = .ok (.iload 4, 2) := by decide +kernel
theorem dX11_nearness_64 : decode cX11_nearness 64 = .ok (.invokevirtual 350, 3) := by decide +kernel
theorem dX11_nearness_67 : decode cX11_nearness 67 = .ok (.ifCond .ne 16, 3) := by decide +kernel
theorem dX11_nearness_70 : decode cX11_nearness 70 = .ok (.aload_n 0, 1) := by decide +kernel
theorem dX11_nearness_71 : decode cX11_nearness 71 = .ok (.getfield 31, 3) := by decide +kernel
theorem dX11_nearness_74 : decode cX11_nearness 74 = .ok (.iload_n 3, 1) := by decide +kernel
theorem dX11_nearness_75 : decode cX11_nearness 75 = .ok (.iload 5, 2) := by decide +kernel
theorem dX11_nearness_77 : decode cX11_nearness 77 = .ok (.invokevirtual 350, 3) := by decide +kernel
theorem dX11_nearness_80 : decode cX11_nearness 80 = .ok (.ifCond .eq 7, 3) := by decide +kernel
theorem dX11_nearness_83 : decode cX11_nearness 83 = .ok (.iconst 1, 1) := by decide +kernel
theorem dX11_nearness_84 : decode cX11_nearness 84 = .ok (.goto 4, 3) := by decide +kernel
theorem dX11_nearness_87 : decode cX11_nearness 87 = .ok (.iconst 0, 1) := by decide +kernel
theorem dX11_nearness_88 : decode cX11_nearness 88 = .ok (.ireturn, 1) := by decide +kernel
theorem dX11_none_0 : decode cX11_none 0 = .ok (.aload_n 0, 1) := by decide +kernel
theorem dX11_none_1 : decode cX11_none 1 = .ok (.getfield 19, 3) := by decide +kernel
theorem dX11_none_4 : decode cX11_none 4 = .ok (.getfield 144, 3) := by decide +kernel
theorem dX11_none_7 : decode cX11_none 7 = .ok (.iload_n 1, 1) := by decide +kernel
theorem dX11_none_8 : decode cX11_none 8 = .ok (.invokevirtual 126, 3) := by decide +kernel
theorem dX11_none_11 : decode cX11_none 11 = .ok (.ifCond .eq 12, 3) := by decide +kernel
theorem dX11_none_14 : decode cX11_none 14 = .ok (.iload_n 3, 1) := by decide +kernel
theorem dX11_none_15 : decode cX11_none 15 = .ok (.ifCond .lt 8, 3) := by decide +kernel
theorem dX11_none_18 : decode cX11_none 18 = .ok (.iload_n 3, 1) := by decide +kernel
theorem dX11_none_19 : decode cX11_none 19 = .ok (.iconst 1, 1) := by decide +kernel
theorem dX11_none_20 : decode cX11_none 20 = .ok (.if_icmp .le 10, 3) := by decide +kernel
theorem dX11_none_23 : decode cX11_none 23 = .ok (.aload_n 0, 1) := by decide +kernel
theorem dX11_none_24 : decode cX11_none 24 = .ok (.bipush (-2), 2) := by decide +kernel
theorem dX11_none_26 : decode cX11_none 26 = .ok (.invokevirtual 88, 3) := by decide +kernel
theorem dX11_none_29 : decode cX11_none 29 = .ok (.ireturn, 1) := by decide +kernel
theorem dX11_none_30 : decode cX11_none 30 = .ok (.aload_n 0, 1) := by decide +kernel
theorem dX11_none_31 : decode cX11_none 31 = .ok (.iload_n 1, 1) := by decide +kernel
theorem dX11_none_32 : decode cX11_none 32 = .ok (.iload_n 2, 1) := by decide +kernel
theorem dX11_none_33 : decode cX11_none 33 = .ok (.iload_n 3, 1) := by decide +kernel
theorem dX11_none_34 : decode cX11_none 34 = .ok (.ifCond .ne 9, 3) := by decide +kernel
theorem dX11_none_37 : decode cX11_none 37 = .ok (.ldc2_w 169, 3) := by decide +kernel
theorem dX11_none_40 : decode cX11_none 40 = .ok (.goto 6, 3) := by decide +kernel
theorem dX11_none_43 : decode cX11_none 43 = .ok (.ldc2_w 171, 3) := by decide +kernel
theorem dX11_none_46 : decode cX11_none 46 = .ok (.invokevirtual 165, 3) := by decide +kernel
theorem dX11_none_49 : decode cX11_none 49 = .ok (.ireturn, 1) := by decide +kernel
theorem dX11_note_0 : decode cX11_note 0 = .ok (.aload_n 0, 1) := by decide +kernel
theorem dX11_note_1 : decode cX11_note 1 = .ok (.getfield 19, 3) := by decide +kernel
theorem dX11_note_4 : decode cX11_note 4 = .ok (.iload_n 1, 1) := by decide +kernel
theorem dX11_note_5 : decode cX11_note 5 = .ok (.iload_n 2, 1) := by decide +kernel
theorem dX11_note_6 : decode cX11_note 6 = .ok (.invokevirtual 173, 3) := by decide +kernel
theorem dX11_note_9 : decode cX11_note 9 = .ok (.istore 5, 2) := by decide +kernel
theorem dX11_note_11 : decode cX11_note 11 = .ok (.iload 5, 2) := by decide +kernel
theorem dX11_note_13 : decode cX11_note 13 = .ok (.ifCond .eq 10, 3) := by decide +kernel
theorem dX11_note_16 : decode cX11_note 16 = .ok (.aload_n 0, 1) := by decide +kernel
theorem dX11_note_17 : decode cX11_note 17 = .ok (.iload 5, 2) := by decide +kernel
theorem dX11_note_19 : decode cX11_note 19 = .ok (.invokevirtual 88, 3) := by decide +kernel
theorem dX11_note_22 : decode cX11_note 22 = .ok (.ireturn, 1) := by decide +kernel
theorem dX11_note_23 : decode cX11_note 23 = .ok (.aload_n 0, 1) := by decide +kernel
theorem dX11_note_24 : decode cX11_note 24 = .ok (.invokevirtual 95, 3) := by decide +kernel
theorem dX11_note_27 : decode cX11_note 27 = .ok (.aload_n 0, 1) := by decide +kernel
theorem dX11_note_28 : decode cX11_note 28 = .ok (.getfield 19, 3) := by decide +kernel
theorem dX11_note_31 : decode cX11_note 31 = .ok (.iload_n 1, 1) := by decide +kernel
theorem dX11_note_32 : decode cX11_note 32 = .ok (.iload_n 2, 1) := by decide +kernel
theorem dX11_note_33 : decode cX11_note 33 = .ok (.lload_n 3, 1) := by decide +kernel
theorem dX11_note_34 : decode cX11_note 34 = .ok (.invokevirtual 331, 3) := by decide +kernel
theorem dX11_note_37 : decode cX11_note 37 = .ok (.aload_n 0, 1) := by decide +kernel
theorem dX11_note_38 : decode cX11_note 38 = .ok (.iconst 1, 1) := by decide +kernel
theorem dX11_note_39 : decode cX11_note 39 = .ok (.invokevirtual 98, 3) := by decide +kernel
