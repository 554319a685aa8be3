theorem dJ6_bitCount_0f7a4_0 : decode cJ6_bitCount_0f7a4 0 = .ok (.iload_n 0, 1) := by decide +kernel
theorem dJ6_bitCount_0f7a4_1 : decode cJ6_bitCount_0f7a4 1 = .ok (.iload_n 0, 1) := by decide +kernel
theorem dJ6_bitCount_0f7a4_2 : decode cJ6_bitCount_0f7a4 2 = .ok (.iconst 1, 1) := by decide +kernel
theorem dJ6_bitCount_0f7a4_3 : decode cJ6_bitCount_0f7a4 3 = .ok (.iushr, 1) := by decide +kernel
theorem dJ6_bitCount_0f7a4_4 : decode cJ6_bitCount_0f7a4 4 = .ok (.ldc_w 265, 3) := by decide +kernel
theorem dJ6_bitCount_0f7a4_7 : decode cJ6_bitCount_0f7a4 7 = .ok (.iand, 1) := by decide +kernel
theorem dJ6_bitCount_0f7a4_8 : decode cJ6_bitCount_0f7a4 8 = .ok (.isub, 1) := by decide +kernel
theorem dJ6_bitCount_0f7a4_9 : decode cJ6_bitCount_0f7a4 9 = .ok (.istore_n 0, 1) := by decide +kernel
theorem dJ6_bitCount_0f7a4_10 : decode cJ6_bitCount_0f7a4 10 = .ok (.iload_n 0, 1) := by decide +kernel
theorem dJ6_bitCount_0f7a4_11 : decode cJ6_bitCount_0f7a4 11 = .ok (.ldc_w 266, 3) := by decide +kernel
theorem dJ6_bitCount_0f7a4_14 : decode cJ6_bitCount_0f7a4 14 = .ok (.iand, 1) := by decide +kernel
theorem dJ6_bitCount_0f7a4_15 : decode cJ6_bitCount_0f7a4 15 = .ok (.iload_n 0, 1) := by decide +kernel
theorem dJ6_bitCount_0f7a4_16 : decode cJ6_bitCount_0f7a4 16 = .ok (.iconst 2, 1) := by decide +kernel
theorem dJ6_bitCount_0f7a4_17 : decode cJ6_bitCount_0f7a4 17 = .ok (.iushr, 1) := by decide +kernel
theorem dJ6_bitCount_0f7a4_18 : decode cJ6_bitCount_0f7a4 18 = .ok (.ldc_w 266, 3) := by decide +kernel
theorem dJ6_bitCount_0f7a4_21 : decode cJ6_bitCount_0f7a4 21 = .ok (.iand, 1) := by decide +kernel
theorem dJ6_bitCount_0f7a4_22 : decode cJ6_bitCount_0f7a4 22 = .ok (.iadd, 1) := by decide +kernel
theorem dJ6_bitCount_0f7a4_23 : decode cJ6_bitCount_0f7a4 23 = .ok (.istore_n 0, 1) := by decide +kernel
theorem dJ6_bitCount_0f7a4_24 : decode cJ6_bitCount_0f7a4 24 = .ok (.iload_n 0, 1) := by decide +kernel
theorem dJ6_bitCount_0f7a4_25 : decode cJ6_bitCount_0f7a4 25 = .ok (.iload_n 0, 1) := by decide +kernel
theorem dJ6_bitCount_0f7a4_26 : decode cJ6_bitCount_0f7a4 26 = .ok (.iconst 4, 1) := by decide +kernel
theorem dJ6_bitCount_0f7a4_27 : decode cJ6_bitCount_0f7a4 27 = .ok (.iushr, 1) := by decide +kernel
theorem dJ6_bitCount_0f7a4_28 : decode cJ6_bitCount_0f7a4 28 = .ok (.iadd, 1) := by decide +kernel
theorem dJ6_bitCount_0f7a4_29 : decode cJ6_bitCount_0f7a4 29 = .ok (.ldc_w 267, 3) := by decide +kernel
theorem dJ6_bitCount_0f7a4_32 : decode cJ6_bitCount_0f7a4 32 = .ok (.iand, 1) := by decide +kernel
theorem dJ6_bitCount_0f7a4_33 : decode cJ6_bitCount_0f7a4 33 = .ok (.istore_n 0, 1) := by decide +kernel
theorem dJ6_bitCount_0f7a4_34 : decode cJ6_bitCount_0f7a4 34 = .ok (.iload_n 0, 1) := by decide +kernel
theorem dJ6_bitCount_0f7a4_35 : decode cJ6_bitCount_0f7a4 35 = .ok (.iload_n 0, 1) := by decide +kernel
theorem dJ6_bitCount_0f7a4_36 : decode cJ6_bitCount_0f7a4 36 = .ok (.bipush 8, 2) := by decide +kernel
theorem dJ6_bitCount_0f7a4_38 : decode cJ6_bitCount_0f7a4 38 = .ok (.iushr, 1) := by decide +kernel
theorem dJ6_bitCount_0f7a4_39 : decode cJ6_bitCount_0f7a4 39 = .ok (.iadd, 1) := by decide +kernel
theorem dJ6_bitCount_0f7a4_40 : decode cJ6_bitCount_0f7a4 40 = .ok (.istore_n 0, 1) := by decide +kernel
theorem dJ6_bitCount_0f7a4_41 : decode cJ6_bitCount_0f7a4 41 = .ok (.iload_n 0, 1) := by decide +kernel
theorem dJ6_bitCount_0f7a4_42 : decode cJ6_bitCount_0f7a4 42 = .ok (.iload_n 0, 1) := by decide +kernel
theorem dJ6_bitCount_0f7a4_43 : decode cJ6_bitCount_0f7a4 43 = .ok (.bipush 16, 2) := by decide +kernel
theorem dJ6_bitCount_0f7a4_45 : decode cJ6_bitCount_0f7a4 45 = .ok (.iushr, 1) := by decide +kernel
theorem dJ6_bitCount_0f7a4_46 : decode cJ6_bitCount_0f7a4 46 = .ok (.iadd, 1) := by decide +kernel
theorem dJ6_bitCount_0f7a4_47 : decode cJ6_bitCount_0f7a4 47 = .ok (.istore_n 0, 1) := by decide +kernel
theorem dJ6_bitCount_0f7a4_48 : decode cJ6_bitCount_0f7a4 48 = .ok (.iload_n 0, 1) := by decide +kernel
theorem dJ6_bitCount_0f7a4_49 : decode cJ6_bitCount_0f7a4 49 = .ok (.bipush 63, 2) := by decide +kernel
theorem dJ6_bitCount_0f7a4_51 : decode cJ6_bitCount_0f7a4 51 = .ok (.iand, 1) := by decide +kernel
theorem dJ6_bitCount_0f7a4_52 : decode cJ6_bitCount_0f7a4 52 = .ok (.ireturn, 1) := by decide +kernel
theorem dJ7_fill_d0a16_0 : decode cJ7_fill_d0a16 0 = .ok (.iconst 0, 1) := by decide +kernel
theorem dJ7_fill_d0a16_1 : decode cJ7_fill_d0a16 1 = .ok (.istore_n 3, 1) := by decide +kernel
theorem dJ7_fill_d0a16_2 : decode cJ7_fill_d0a16 2 = .ok (.aload_n 0, 1) := by decide +kernel
theorem dJ7_fill_d0a16_3 : decode cJ7_fill_d0a16 3 = .ok (.arraylength, 1) := by decide +kernel
theorem dJ7_fill_d0a16_4 : decode cJ7_fill_d0a16 4 = .ok (.istore 4, 2) := by decide +kernel
theorem dJ7_fill_d0a16_6 : decode cJ7_fill_d0a16 6 = .ok (.iload_n 3, 1) := by decide +kernel
theorem dJ7_fill_d0a16_7 : decode cJ7_fill_d0a16 7 = .ok (.iload 4, 2) := by decide +kernel
theorem dJ7_fill_d0a16_9 : decode cJ7_fill_d0a16 9 = .ok (.if_icmp .ge 13, 3) := by decide +kernel
theorem dJ7_fill_d0a16_12 : decode cJ7_fill_d0a16 12 = .ok (.aload_n 0, 1) := by decide +kernel
theorem dJ7_fill_d0a16_13 : decode cJ7_fill_d0a16 13 = .ok (.iload_n 3, 1) := by decide +kernel
theorem dJ7_fill_d0a16_14 : decode cJ7_fill_d0a16 14 = .ok (.lload_n 1, 1) := by decide +kernel
theorem dJ7_fill_d0a16_15 : decode cJ7_fill_d0a16 15 = .ok (.lastore, 1) := by decide +kernel
theorem dJ7_fill_d0a16_16 : decode cJ7_fill_d0a16 16 = .ok (.iinc 3 1, 3) := by decide +kernel
theorem dJ7_fill_d0a16_19 : decode cJ7_fill_d0a16 19 = .ok (.goto (-13), 3) := by decide +kernel
theorem dJ7_fill_d0a16_22 : decode cJ7_fill_d0a16 22 = .ok (.return_, 1) := by decide +kernel
theorem dJ7_fill_53178_0 : decode cJ7_fill_53178 0 = .ok (.iconst 0, 1) := by decide +kernel
theorem dJ7_fill_53178_1 : decode cJ7_fill_53178 1 = .ok (.istore_n 2, 1) := by decide +kernel
theorem dJ7_fill_53178_2 : decode cJ7_fill_53178 2 = .ok (.aload_n 0, 1) := by decide +kernel
theorem dJ7_fill_53178_3 : decode cJ7_fill_53178 3 = .ok (.arraylength, 1) := by decide +kernel
theorem dJ7_fill_53178_4 : decode cJ7_fill_53178 4 = .ok (.istore_n 3, 1) := by decide +kernel
theorem dJ7_fill_53178_5 : decode cJ7_fill_53178 5 = .ok (.iload_n 2, 1) := by decide +kernel
theorem dJ7_fill_53178_6 : decode cJ7_fill_53178 6 = .ok (.iload_n 3, 1) := by decide +kernel
theorem dJ7_fill_53178_7 : decode cJ7_fill_53178 7 = .ok (.if_icmp .ge 13, 3) := by decide +kernel
theorem dJ7_fill_53178_10 : decode cJ7_fill_53178 10 = .ok (.aload_n 0, 1) := by decide +kernel
theorem dJ7_fill_53178_11 : decode cJ7_fill_53178 11 = .ok (.iload_n 2, 1) := by decide +kernel
theorem dJ7_fill_53178_12 : decode cJ7_fill_53178 12 = .ok (.iload_n 1, 1) := by decide +kernel
theorem dJ7_fill_53178_13 : decode cJ7_fill_53178 13 = .ok (.iastore, 1) := by decide +kernel
theorem dJ7_fill_53178_14 : decode cJ7_fill_53178 14 = .ok (.iinc 2 1, 3) := by decide +kernel
theorem dJ7_fill_53178_17 : decode cJ7_fill_53178 17 = .ok (.goto (-12), 3) := by decide +kernel
theorem dJ7_fill_53178_20 : decode cJ7_fill_53178 20 = .ok (.return_, 1) := by decide +kernel
theorem dJ9_max_7cf53_0 : decode cJ9_max_7cf53 0 = .ok (.iload_n 0, 1) := by decide +kernel
theorem dJ9_max_7cf53_1 : decode cJ9_max_7cf53 1 = .ok (.iload_n 1, 1) := by decide +kernel
theorem dJ9_max_7cf53_2 : decode cJ9_max_7cf53 2 = .ok (.if_icmp .lt 7, 3) := by decide +kernel
theorem dJ9_max_7cf53_5 : decode cJ9_max_7cf53 5 = .ok (.iload_n 0, 1) := by decide +kernel
theorem dJ9_max_7cf53_6 : decode cJ9_max_7cf53 6 = .ok (.goto 4, 3) := by decide +kernel
theorem dJ9_max_7cf53_9 : decode cJ9_max_7cf53 9 = .ok (.iload_n 1, 1) := by decide +kernel
theorem dJ9_max_7cf53_10 : decode cJ9_max_7cf53 10 = .ok (.ireturn, 1) := by decide +kernel
theorem dJ9_max_f86c9_0 : decode cJ9_max_f86c9 0 = .ok (.lload_n 0, 1) := by decide +kernel
theorem dJ9_max_f86c9_1 : decode cJ9_max_f86c9 1 = .ok (.lload_n 2, 1) := by decide +kernel
theorem dJ9_max_f86c9_2 : decode cJ9_max_f86c9 2 = .ok (.lcmp, 1) := by decide +kernel
theorem dJ9_max_f86c9_3 : decode cJ9_max_f86c9 3 = .ok (.ifCond .lt 7, 3) := by decide +kernel
theorem dJ9_max_f86c9_6 : decode cJ9_max_f86c9 6 = .ok (.lload_n 0, 1) := by decide +kernel
theorem dJ9_max_f86c9_7 : decode cJ9_max_f86c9 7 = .ok (.goto 4, 3) := by decide +kernel
theorem dJ9_max_f86c9_10 : decode cJ9_max_f86c9 10 = .ok (.lload_n 2, 1) := by decide +kernel
theorem dJ9_max_f86c9_11 : decode cJ9_max_f86c9 11 = .ok (.lreturn, 1) := by decide +kernel
theorem dJ9_min_7cf53_0 : decode cJ9_min_7cf53 0 = .ok (.iload_n 0, 1) := by decide +kernel
theorem dJ9_min_7cf53_1 : decode cJ9_min_7cf53 1 = .ok (.iload_n 1, 1) := by decide +kernel
theorem dJ9_min_7cf53_2 : decode cJ9_min_7cf53 2 = .ok (.if_icmp .gt 7, 3) := by decide +kernel
theorem dJ9_min_7cf53_5 : decode cJ9_min_7cf53 5 = .ok (.iload_n 0, 1) := by decide +kernel
theorem dJ9_min_7cf53_6 : decode cJ9_min_7cf53 6 = .ok (.goto 4, 3) := by decide +kernel
theorem dJ9_min_7cf53_9 : decode cJ9_min_7cf53 9 = .ok (.iload_n 1, 1) := by decide +kernel
theorem dJ9_min_7cf53_10 : decode cJ9_min_7cf53 10 = .ok (.ireturn, 1) := by decide +kernel
theorem dJ9_min_f86c9_0 : decode cJ9_min_f86c9 0 = .ok (.lload_n 0, 1) := by decide +kernel
theorem dJ9_min_f86c9_1 : decode cJ9_min_f86c9 1 = .ok (.lload_n 2, 1) := by decide +kernel
theorem dJ9_min_f86c9_2 : decode cJ9_min_f86c9 2 = .ok (.lcmp, 1) := by decide +kernel
theorem dJ9_min_f86c9_3 : decode cJ9_min_f86c9 3 = .ok (.ifCond .gt 7, 3) := by decide +kernel
theorem dJ9_min_f86c9_6 : decode cJ9_min_f86c9 6 = .ok (.lload_n 0, 1) := by decide +kernel
theorem dJ9_min_f86c9_7 : decode cJ9_min_f86c9 7 = .ok (.goto 4, 3) := by decide +kernel
theorem dJ9_min_f86c9_10 : decode cJ9_min_f86c9 10 = .ok (.lload_n 2, 1) := by decide +kernel
theorem dJ9_min_f86c9_11 : decode cJ9_min_f86c9 11 = .ok (.lreturn, 1) := by decide +kernel
theorem dX0_init_0 : decode cX0_init 0 = .ok (.aload_n 0, 1) := by decide +kernel
theorem dX0_init_1 : decode cX0_init 1 = .ok (.invokespecial 1, 3) := by decide +kernel
theorem dX0_init_4 : decode cX0_init 4 = .ok (.aload_n 0, 1) := by decide +kernel
theorem dX0_init_5 : decode cX0_init 5 = .ok (.bipush 16, 2) := by decide +kernel
theorem dX0_init_7 : decode cX0_init 7 = .ok (.anewarray 9, 3) := by decide +kernel
theorem dX0_init_10 : decode cX0_init 10 = .ok (.putfield 11, 3) := by decide +kernel
theorem dX0_init_13 : decode cX0_init 13 = .ok (.iconst 0, 1) := by decide +kernel
theorem dX0_init_14 : decode cX0_init 14 = .ok (.istore_n 1, 1) := by decide +kernel
theorem dX0_init_15 : decode cX0_init 15 = .ok (.iload_n 1, 1) := by decide +kernel
theorem dX0_init_16 : decode cX0_init 16 = .ok (.bipush 16, 2) := by decide +kernel
theorem dX0_init_18 : decode cX0_init 18 = .ok (.if_icmp .ge 22, 3) := by decide +kernel
theorem dX0_init_21 : decode cX0_init 21 = .ok (.aload_n 0, 1) := by decide +kernel
theorem dX0_init_22 : decode cX0_init 22 = .ok (.getfield 11, 3) := by decide +kernel
theorem dX0_init_25 : decode cX0_init 25 = .ok (.iload_n 1, 1) := by decide +kernel
theorem dX0_init_26 : decode cX0_init 26 = .ok (.new 9, 3) := by decide +kernel
theorem dX0_init_29 : decode cX0_init 29 = .ok (.dup, 1) := by decide +kernel
theorem dX0_init_30 : decode cX0_init 30 = .ok (.invokespecial 15, 3) := by decide +kernel
theorem dX0_init_33 : decode cX0_init 33 = .ok (.aastore, 1) := by decide +kernel
theorem dX0_init_34 : decode cX0_init 34 = .ok (.iinc 1 1, 3) := by decide +kernel
theorem dX0_init_37 : decode cX0_init 37 = .ok (.goto (-22), 3) := by decide +kernel
theorem dX0_init_40 : decode cX0_init 40 = .ok (.return_, 1) := by decide +kernel
theorem dX0_forget_0 : decode cX0_forget 0 = .ok (.aload_n 0, 1) := by decide +kernel
theorem dX0_forget_1 : decode cX0_forget 1 = .ok (.iconst 0, 1) := by decide +kernel
theorem dX0_forget_2 : decode cX0_forget 2 = .ok (.putfield 16, 3) := by decide +kernel
theorem dX0_forget_5 : decode cX0_forget 5 = .ok (.return_, 1) := by decide +kernel
theorem dX0_keep_0 : decode cX0_keep 0 = .ok (.aload_n 0, 1) := by decide +kernel
theorem dX0_keep_1 : decode cX0_keep 1 = .ok (.getfield 16, 3) := by decide +kernel
theorem dX0_keep_4 : decode cX0_keep 4 = .ok (.bipush 16, 2) := by decide +kernel
theorem dX0_keep_6 : decode cX0_keep 6 = .ok (.if_icmp .ne 26, 3) := by decide +kernel
theorem dX0_keep_9 : decode cX0_keep 9 = .ok (.aload_n 0, 1) := by decide +kernel
theorem dX0_keep_10 : decode cX0_keep 10 = .ok (.aload_n 0, 1) := by decide +kernel
theorem dX0_keep_11 : decode cX0_keep 11 = .ok (.getfield 20, 3) := by decide +kernel
theorem dX0_keep_14 : decode cX0_keep 14 = .ok (.iconst 1, 1) := by decide +kernel
theorem dX0_keep_15 : decode cX0_keep 15 = .ok (.iadd, 1) := by decide +kernel
theorem dX0_keep_16 : decode cX0_keep 16 = .ok (.bipush 16, 2) := by decide +kernel
theorem dX0_keep_18 : decode cX0_keep 18 = .ok (.irem, 1) := by decide +kernel
theorem dX0_keep_19 : decode cX0_keep 19 = .ok (.putfield 20, 3) := by decide +kernel
theorem dX0_keep_22 : decode cX0_keep 22 = .ok (.aload_n 0, 1) := by decide +kernel
theorem dX0_keep_23 : decode cX0_keep 23 = .ok (.dup, 1) := by decide +kernel
theorem dX0_keep_24 : decode cX0_keep 24 = .ok (.getfield 16, 3) := by decide +kernel
theorem dX0_keep_27 : decode cX0_keep 27 = .ok (.iconst 1, 1) := by decide +kernel
theorem dX0_keep_28 : decode cX0_keep 28 = .ok (.isub, 1) := by decide +kernel
theorem dX0_keep_29 : decode cX0_keep 29 = .ok (.putfield 16, 3) := by decide +kernel
theorem dX0_keep_32 : decode cX0_keep 32 = .ok (.aload_n 0, 1) := by decide +kernel
theorem dX0_keep_33 : decode cX0_keep 33 = .ok (.getfield 11, 3) := by decide +kernel
theorem dX0_keep_36 : decode cX0_keep 36 = .ok (.aload_n 0, 1) := by decide +kernel
theorem dX0_keep_37 : decode cX0_keep 37 = .ok (.getfield 20, 3) := by decide +kernel
theorem dX0_keep_40 : decode cX0_keep 40 = .ok (.aload_n 0, 1) := by decide +kernel
theorem dX0_keep_41 : decode cX0_keep 41 = .ok (.getfield 16, 3) := by decide +kernel
theorem dX0_keep_44 : decode cX0_keep 44 = .ok (.iadd, 1) := by decide +kernel
theorem dX0_keep_45 : decode cX0_keep 45 = .ok (.bipush 16, 2) := by decide +kernel
theorem dX0_keep_47 : decode cX0_keep 47 = .ok (.irem, 1) := by decide +kernel
theorem dX0_keep_48 : decode cX0_keep 48 = .ok (.aaload, 1) := by decide +kernel
theorem dX0_keep_49 : decode cX0_keep 49 = .ok (.aload_n 1, 1) := by decide +kernel
theorem dX0_keep_50 : decode cX0_keep 50 = .ok (.invokevirtual 23, 3) := by decide +kernel
theorem dX0_keep_53 : decode cX0_keep 53 = .ok (.aload_n 0, 1) := by decide +kernel
theorem dX0_keep_54 : decode cX0_keep 54 = .ok (.dup, 1) := by decide +kernel
theorem dX0_keep_55 : decode cX0_keep 55 = .ok (.getfield 16, 3) := by decide +kernel
theorem dX0_keep_58 : decode cX0_keep 58 = .ok (.iconst 1, 1) := by decide +kernel
theorem dX0_keep_59 : decode cX0_keep 59 = .ok (.iadd, 1) := by decide +kernel
theorem dX0_keep_60 : decode cX0_keep 60 = .ok (.putfield 16, 3) := by decide +kernel
theorem dX0_keep_63 : decode cX0_keep 63 = .ok (.return_, 1) := by decide +kernel
theorem dX0_takeBack_0 : decode cX0_takeBack 0 = .ok (.aload_n 0, 1) := by decide +kernel
theorem dX0_takeBack_1 : decode cX0_takeBack 1 = .ok (.dup, 1) := by decide +kernel
theorem dX0_takeBack_2 : decode cX0_takeBack 2 = .ok (.getfield 16, 3) := by decide +kernel
theorem dX0_takeBack_5 : decode cX0_takeBack 5 = .ok (.iconst 1, 1) := by decide +kernel
theorem dX0_takeBack_6 : decode cX0_takeBack 6 = .ok (.isub, 1) := by decide +kernel
theorem dX0_takeBack_7 : decode cX0_takeBack 7 = .ok (.putfield 16, 3) := by decide +kernel
theorem dX0_takeBack_10 : decode cX0_takeBack 10 = .ok (.aload_n 1, 1) := by decide +kernel
theorem dX0_takeBack_11 : decode cX0_takeBack 11 = .ok (.aload_n 0, 1) := by decide +kernel
theorem dX0_takeBack_12 : decode cX0_takeBack 12 = .ok (.getfield 11, 3) := by decide +kernel
theorem dX0_takeBack_15 : decode cX0_takeBack 15 = .ok (.aload_n 0, 1) := by decide +kernel
theorem dX0_takeBack_16 : decode cX0_takeBack 16 = .ok (.getfield 20, 3) := by decide +kernel
theorem dX0_takeBack_19 : decode cX0_takeBack 19 = .ok (.aload_n 0, 1) := by decide +kernel
theorem dX0_takeBack_20 : decode cX0_takeBack 20 = .ok (.getfield 16, 3) := by decide +kernel
theorem dX0_takeBack_23 : decode cX0_takeBack 23 = .ok (.iadd, 1) := by decide +kernel
theorem dX0_takeBack_24 : decode cX0_takeBack 24 = .ok (.bipush 16, 2) := by decide +kernel
theorem dX0_takeBack_26 : decode cX0_takeBack 26 = .ok (.irem, 1) := by decide +kernel
theorem dX0_takeBack_27 : decode cX0_takeBack 27 = .ok (.aaload, 1) := by decide +kernel
theorem dX0_takeBack_28 : decode cX0_takeBack 28 = .ok (.invokevirtual 23, 3) := by decide +kernel
theorem dX0_takeBack_31 : decode cX0_takeBack 31 = .ok (.return_, 1) := by decide +kernel
theorem dX1_init_0 : decode cX1_init 0 = .ok (.aload_n 0, 1) := by decide +kernel
theorem dX1_init_1 : decode cX1_init 1 = .ok (.invokespecial 3, 3) := by decide +kernel
theorem dX1_init_4 : decode cX1_init 4 = .ok (.aload_n 0, 1) := by decide +kernel
theorem dX1_init_5 : decode cX1_init 5 = .ok (.bipush 16, 2) := by decide +kernel
theorem dX1_init_7 : decode cX1_init 7 = .ok (.newarray .int, 2) := by decide +kernel
theorem dX1_init_9 : decode cX1_init 9 = .ok (.putfield 11, 3) := by decide +kernel
theorem dX1_init_12 : decode cX1_init 12 = .ok (.return_, 1) := by decide +kernel
theorem dX1_begin_0 : decode cX1_begin 0 = .ok (.aload_n 0, 1) := by decide +kernel
theorem dX1_begin_1 : decode cX1_begin 1 = .ok (.iconst 0, 1) := by decide +kernel
theorem dX1_begin_2 : decode cX1_begin 2 = .ok (.putfield 15, 3) := by decide +kernel
theorem dX1_begin_5 : decode cX1_begin 5 = .ok (.aload_n 0, 1) := by decide +kernel
theorem dX1_begin_6 : decode cX1_begin 6 = .ok (.iload_n 2, 1) := by decide +kernel
theorem dX1_begin_7 : decode cX1_begin 7 = .ok (.putfield 19, 3) := by decide +kernel
theorem dX1_begin_10 : decode cX1_begin 10 = .ok (.aload_n 0, 1) := by decide +kernel
theorem dX1_begin_11 : decode cX1_begin 11 = .ok (.aload_n 1, 1) := by decide +kernel
theorem dX1_begin_12 : decode cX1_begin 12 = .ok (.getfield 22, 3) := by decide +kernel
theorem dX1_begin_15 : decode cX1_begin 15 = .ok (.iload_n 2, 1) := by decide +kernel
theorem dX1_begin_16 : decode cX1_begin 16 = .ok (.iaload, 1) := by decide +kernel
theorem dX1_begin_17 : decode cX1_begin 17 = .ok (.putfield 27, 3) := by decide +kernel
theorem dX1_begin_20 : decode cX1_begin 20 = .ok (.aload_n 0, 1) := by decide +kernel
theorem dX1_begin_21 : decode cX1_begin 21 = .ok (.aload_n 1, 1) := by decide +kernel
theorem dX1_begin_22 : decode cX1_begin 22 = .ok (.getfield 30, 3) := by decide +kernel
theorem dX1_begin_25 : decode cX1_begin 25 = .ok (.iload_n 2, 1) := by decide +kernel
theorem dX1_begin_26 : decode cX1_begin 26 = .ok (.iaload, 1) := by decide +kernel
theorem dX1_begin_27 : decode cX1_begin 27 = .ok (.putfield 33, 3) := by decide +kernel
theorem dX1_begin_30 : decode cX1_begin 30 = .ok (.aload_n 0, 1) := by decide +kernel
theorem dX1_begin_31 : decode cX1_begin 31 = .ok (.aload_n 1, 1) := by decide +kernel
theorem dX1_begin_32 : decode cX1_begin 32 = .ok (.getfield 36, 3) := by decide +kernel
theorem dX1_begin_35 : decode cX1_begin 35 = .ok (.iload_n 2, 1) := by decide +kernel
theorem dX1_begin_36 : decode cX1_begin 36 = .ok (.iaload, 1) := by decide +kernel
theorem dX1_begin_37 : decode cX1_begin 37 = .ok (.invokestatic 39, 3) := by decide +kernel
theorem dX1_begin_40 : decode cX1_begin 40 = .ok (.putfield 45, 3) := by decide +kernel
theorem dX1_begin_43 : decode cX1_begin 43 = .ok (.return_, 1) := by decide +kernel
theorem dX1_sizeOf_0 : decode cX1_sizeOf 0 = .ok (.aload_n 0, 1) := by decide +kernel
theorem dX1_sizeOf_1 : decode cX1_sizeOf 1 = .ok (.getfield 27, 3) := by decide +kernel
theorem dX1_sizeOf_4 : decode cX1_sizeOf 4 = .ok (.tableswitch 49 2 5 #[32, 49, 44, 44], 32) := by decide +kernel
theorem dX1_sizeOf_36 : decode cX1_sizeOf 36 = .ok (.aload_n 0, 1) := by decide +kernel
theorem dX1_sizeOf_37 : decode cX1_sizeOf 37 = .ok (.bipush 12, 2) := by decide +kernel
theorem dX1_sizeOf_39 : decode cX1_sizeOf 39 = .ok (.invokevirtual 48, 3) := by decide +kernel
theorem dX1_sizeOf_42 : decode cX1_sizeOf 42 = .ok (.aload_n 0, 1) := by decide +kernel
theorem dX1_sizeOf_43 : decode cX1_sizeOf 43 = .ok (.invokevirtual 52, 3) := by decide +kernel
theorem dX1_sizeOf_46 : decode cX1_sizeOf 46 = .ok (.ineg, 1) := by decide +kernel
theorem dX1_sizeOf_47 : decode cX1_sizeOf 47 = .ok (.ireturn, 1) := by decide +kernel
theorem dX1_sizeOf_48 : decode cX1_sizeOf 48 = .ok (.aload_n 0, 1) := by decide +kernel
theorem dX1_sizeOf_49 : decode cX1_sizeOf 49 = .ok (.invokevirtual 56, 3) := by decide +kernel
theorem dX1_sizeOf_52 : decode cX1_sizeOf 52 = .ok (.ireturn, 1) := by decide +kernel
theorem dX1_sizeOf_53 : decode cX1_sizeOf 53 = .ok (.aload_n 0, 1) := by decide +kernel
theorem dX1_sizeOf_54 : decode cX1_sizeOf 54 = .ok (.invokevirtual 52, 3) := by decide +kernel
theorem dX1_sizeOf_57 : decode cX1_sizeOf 57 = .ok (.ireturn, 1) := by decide +kernel
theorem dX1_markOf_0 : decode cX1_markOf 0 = .ok (.aload_n 0, 1) := by decide +kernel
theorem dX1_markOf_1 : decode cX1_markOf 1 = .ok (.getfield 27, 3) := by decide +kernel
theorem dX1_markOf_4 : decode cX1_markOf 4 = .ok (.iconst 4, 1) := by decide +kernel
theorem dX1_markOf_5 : decode cX1_markOf 5 = .ok (.if_icmp .eq 11, 3) := by decide +kernel
theorem dX1_markOf_8 : decode cX1_markOf 8 = .ok (.aload_n 0, 1) := by decide +kernel
theorem dX1_markOf_9 : decode cX1_markOf 9 = .ok (.getfield 27, 3) := by decide +kernel
theorem dX1_markOf_12 : decode cX1_markOf 12 = .ok (.iconst 5, 1) := by decide +kernel
theorem dX1_markOf_13 : decode cX1_markOf 13 = .ok (.if_icmp .ne 10, 3) := by decide +kernel
theorem dX1_markOf_16 : decode cX1_markOf 16 = .ok (.aload_n 0, 1) := by decide +kernel
theorem dX1_markOf_17 : decode cX1_markOf 17 = .ok (.invokevirtual 59, 3) := by decide +kernel
theorem dX1_markOf_20 : decode cX1_markOf 20 = .ok (.goto 7, 3) := by decide +kernel
theorem dX1_markOf_23 : decode cX1_markOf 23 = .ok (.aload_n 0, 1) := by decide +kernel
theorem dX1_markOf_24 : decode cX1_markOf 24 = .ok (.invokevirtual 62, 3) := by decide +kernel
theorem dX1_markOf_27 : decode cX1_markOf 27 = .ok (.ireturn, 1) := by decide +kernel
theorem dX1_sizeOfWaters_0 : decode cX1_sizeOfWaters 0 = .ok (.aload_n 0, 1) := by decide +kernel
theorem dX1_sizeOfWaters_1 : decode cX1_sizeOfWaters 1 = .ok (.getfield 27, 3) := by decide +kernel
theorem dX1_sizeOfWaters_4 : decode cX1_sizeOfWaters 4 = .ok (.iconst 5, 1) := by decide +kernel
theorem dX1_sizeOfWaters_5 : decode cX1_sizeOfWaters 5 = .ok (.if_icmp .ne 16, 3) := by decide +kernel
theorem dX1_sizeOfWaters_8 : decode cX1_sizeOfWaters 8 = .ok (.aload_n 0, 1) := by decide +kernel
theorem dX1_sizeOfWaters_9 : decode cX1_sizeOfWaters 9 = .ok (.bipush 14, 2) := by decide +kernel
theorem dX1_sizeOfWaters_11 : decode cX1_sizeOfWaters 11 = .ok (.invokevirtual 48, 3) := by decide +kernel
theorem dX1_sizeOfWaters_14 : decode cX1_sizeOfWaters 14 = .ok (.iconst 2, 1) := by decide +kernel
theorem dX1_sizeOfWaters_15 : decode cX1_sizeOfWaters 15 = .ok (.aload_n 0, 1) := by decide +kernel
theorem dX1_sizeOfWaters_16 : decode cX1_sizeOfWaters 16 = .ok (.invokevirtual 65, 3) := by decide +kernel
theorem dX1_sizeOfWaters_19 : decode cX1_sizeOfWaters 19 = .ok (.imul, 1) := by decide +kernel
theorem dX1_sizeOfWaters_20 : decode cX1_sizeOfWaters 20 = .ok (.ireturn, 1) := by decide +kernel
theorem dX1_sizeOfWaters_21 : decode cX1_sizeOfWaters 21 = .ok (.aload_n 0, 1) := by decide +kernel
theorem dX1_sizeOfWaters_22 : decode cX1_sizeOfWaters 22 = .ok (.invokevirtual 65, 3) := by decide +kernel
theorem dX1_sizeOfWaters_25 : decode cX1_sizeOfWaters 25 = .ok (.ireturn, 1) := by decide +kernel
theorem dX1_markOfPlains_0 : decode cX1_markOfPlains 0 = .ok (.aload_n 0, 1) := by decide +kernel
theorem dX1_markOfPlains_1 : decode cX1_markOfPlains 1 = .ok (.getfield 27, 3) := by decide +kernel
theorem dX1_markOfPlains_4 : decode cX1_markOfPlains 4 = .ok (.lookupswitch 56 #[(2, 28), (3, 41)], 28) := by decide +kernel
theorem dX1_markOfPlains_32 : decode cX1_markOfPlains 32 = .ok (.aload_n 0, 1) := by decide +kernel
theorem dX1_markOfPlains_33 : decode cX1_markOfPlains 33 = .ok (.bipush 24, 2) := by decide +kernel
theorem dX1_markOfPlains_35 : decode cX1_markOfPlains 35 = .ok (.invokevirtual 48, 3) := by decide +kernel
theorem dX1_markOfPlains_38 : decode cX1_markOfPlains 38 = .ok (.iconst 2, 1) := by decide +kernel
theorem dX1_markOfPlains_39 : decode cX1_markOfPlains 39 = .ok (.aload_n 0, 1) := by decide +kernel
theorem dX1_markOfPlains_40 : decode cX1_markOfPlains 40 = .ok (.invokevirtual 68, 3) := by decide +kernel
theorem dX1_markOfPlains_43 : decode cX1_markOfPlains 43 = .ok (.imul, 1) := by decide +kernel
theorem dX1_markOfPlains_44 : decode cX1_markOfPlains 44 = .ok (.ireturn, 1) := by decide +kernel
theorem dX1_markOfPlains_45 : decode cX1_markOfPlains 45 = .ok (.aload_n 0, 1) := by decide +kernel
theorem dX1_markOfPlains_46 : decode cX1_markOfPlains 46 = .ok (.bipush 22, 2) := by decide +kernel
theorem dX1_markOfPlains_48 : decode cX1_markOfPlains 48 = .ok (.invokevirtual 48, 3) := by decide +kernel
theorem dX1_markOfPlains_51 : decode cX1_markOfPlains 51 = .ok (.aload_n 0, 1) := by decide +kernel
theorem dX1_markOfPlains_52 : decode cX1_markOfPlains 52 = .ok (.invokevirtual 68, 3) := by decide +kernel
theorem dX1_markOfPlains_55 : decode cX1_markOfPlains 55 = .ok (.sipush 1000, 3) := by decide +kernel
theorem dX1_markOfPlains_58 : decode cX1_markOfPlains 58 = .ok (.isub, 1) := by decide +kernel
theorem dX1_markOfPlains_59 : decode cX1_markOfPlains 59 = .ok (.ireturn, 1) := by decide +kernel
theorem dX1_markOfPlains_60 : decode cX1_markOfPlains 60 = .ok (.aload_n 0, 1) := by decide +kernel
theorem dX1_markOfPlains_61 : decode cX1_markOfPlains 61 = .ok (.invokevirtual 68, 3) := by decide +kernel
theorem dX1_markOfPlains_64 : decode cX1_markOfPlains 64 = .ok (.ireturn, 1) := by decide +kernel
theorem dX1_sizeOfPlain_0 : decode cX1_sizeOfPlain 0 = .ok (.aload_n 0, 1) := by decide +kernel
theorem dX1_sizeOfPlain_1 : decode cX1_sizeOfPlain 1 = .ok (.bipush 11, 2) := by decide +kernel
theorem dX1_sizeOfPlain_3 : decode cX1_sizeOfPlain 3 = .ok (.invokevirtual 48, 3) := by decide +kernel
theorem dX1_sizeOfPlain_6 : decode cX1_sizeOfPlain 6 = .ok (.aload_n 0, 1) := by decide +kernel
theorem dX1_sizeOfPlain_7 : decode cX1_sizeOfPlain 7 = .ok (.invokevirtual 71, 3) := by decide +kernel
theorem dX1_sizeOfPlain_10 : decode cX1_sizeOfPlain 10 = .ok (.istore_n 1, 1) := by decide +kernel
theorem dX1_sizeOfPlain_11 : decode cX1_sizeOfPlain 11 = .ok (.iload_n 1, 1) := by decide +kernel
theorem dX1_sizeOfPlain_12 : decode cX1_sizeOfPlain 12 = .ok (.aload_n 0, 1) := by decide +kernel
theorem dX1_sizeOfPlain_13 : decode cX1_sizeOfPlain 13 = .ok (.invokevirtual 62, 3) := by decide +kernel
theorem dX1_sizeOfPlain_16 : decode cX1_sizeOfPlain 16 = .ok (.iadd, 1) := by decide +kernel
theorem dX1_sizeOfPlain_17 : decode cX1_sizeOfPlain 17 = .ok (.ireturn, 1) := by decide +kernel
theorem dX1_sizeOfWater_0 : decode cX1_sizeOfWater 0 = .ok (.aload_n 0, 1) := by decide +kernel
theorem dX1_sizeOfWater_1 : decode cX1_sizeOfWater 1 = .ok (.bipush 13, 2) := by decide +kernel
theorem dX1_sizeOfWater_3 : decode cX1_sizeOfWater 3 = .ok (.invokevirtual 48, 3) := by decide +kernel
theorem dX1_sizeOfWater_6 : decode cX1_sizeOfWater 6 = .ok (.aload_n 0, 1) := by decide +kernel
theorem dX1_sizeOfWater_7 : decode cX1_sizeOfWater 7 = .ok (.invokevirtual 71, 3) := by decide +kernel
theorem dX1_sizeOfWater_10 : decode cX1_sizeOfWater 10 = .ok (.bipush 100, 2) := by decide +kernel
theorem dX1_sizeOfWater_12 : decode cX1_sizeOfWater 12 = .ok (.isub, 1) := by decide +kernel
theorem dX1_sizeOfWater_13 : decode cX1_sizeOfWater 13 = .ok (.ireturn, 1) := by decide +kernel
theorem dX1_sizeLent_0 : decode cX1_sizeLent 0 = .ok (.aload_n 0, 1) := by decide +kernel
theorem dX1_sizeLent_1 : decode cX1_sizeLent 1 = .ok (.bipush 10, 2) := by decide +kernel
theorem dX1_sizeLent_3 : decode cX1_sizeLent 3 = .ok (.invokevirtual 48, 3) := by decide +kernel
theorem dX1_sizeLent_6 : decode cX1_sizeLent 6 = .ok (.aload_n 0, 1) := by decide +kernel
theorem dX1_sizeLent_7 : decode cX1_sizeLent 7 = .ok (.getfield 33, 3) := by decide +kernel
theorem dX1_sizeLent_10 : decode cX1_sizeLent 10 = .ok (.ireturn, 1) := by decide +kernel
theorem dX1_markOfPlain_0 : decode cX1_markOfPlain 0 = .ok (.aload_n 0, 1) := by decide +kernel
theorem dX1_markOfPlain_1 : decode cX1_markOfPlain 1 = .ok (.bipush 21, 2) := by decide +kernel
theorem dX1_markOfPlain_3 : decode cX1_markOfPlain 3 = .ok (.invokevirtual 48, 3) := by decide +kernel
theorem dX1_markOfPlain_6 : decode cX1_markOfPlain 6 = .ok (.aload_n 0, 1) := by decide +kernel
theorem dX1_markOfPlain_7 : decode cX1_markOfPlain 7 = .ok (.invokevirtual 74, 3) := by decide +kernel
theorem dX1_markOfPlain_10 : decode cX1_markOfPlain 10 = .ok (.aload_n 0, 1) := by decide +kernel
theorem dX1_markOfPlain_11 : decode cX1_markOfPlain 11 = .ok (.getfield 45, 3) := by decide +kernel
theorem dX1_markOfPlain_14 : decode cX1_markOfPlain 14 = .ok (.iadd, 1) := by decide +kernel
theorem dX1_markOfPlain_15 : decode cX1_markOfPlain 15 = .ok (.ireturn, 1) := by decide +kernel
theorem dX1_markOfWater_0 : decode cX1_markOfWater 0 = .ok (.aload_n 0, 1) := by decide +kernel
theorem dX1_markOfWater_1 : decode cX1_markOfWater 1 = .ok (.bipush 23, 2) := by decide +kernel
theorem dX1_markOfWater_3 : decode cX1_markOfWater 3 = .ok (.invokevirtual 48, 3) := by decide +kernel
theorem dX1_markOfWater_6 : decode cX1_markOfWater 6 = .ok (.aload_n 0, 1) := by decide +kernel
theorem dX1_markOfWater_7 : decode cX1_markOfWater 7 = .ok (.invokevirtual 74, 3) := by decide +kernel
theorem dX1_markOfWater_10 : decode cX1_markOfWater 10 = .ok (.istore_n 1, 1) := by decide +kernel
theorem dX1_markOfWater_11 : decode cX1_markOfWater 11 = .ok (.iload_n 1, 1) := by decide +kernel
theorem dX1_markOfWater_12 : decode cX1_markOfWater 12 = .ok (.aload_n 0, 1) := by decide +kernel
theorem dX1_markOfWater_13 : decode cX1_markOfWater 13 = .ok (.invokevirtual 56, 3) := by decide +kernel
theorem dX1_markOfWater_16 : decode cX1_markOfWater 16 = .ok (.isub, 1) := by decide +kernel
theorem dX1_markOfWater_17 : decode cX1_markOfWater 17 = .ok (.ireturn, 1) := by decide +kernel
theorem dX1_markLent_0 : decode cX1_markLent 0 = .ok (.aload_n 0, 1) := by decide +kernel
theorem dX1_markLent_1 : decode cX1_markLent 1 = .ok (.bipush 20, 2) := by decide +kernel
theorem dX1_markLent_3 : decode cX1_markLent 3 = .ok (.invokevirtual 48, 3) := by decide +kernel
theorem dX1_markLent_6 : decode cX1_markLent 6 = .ok (.aload_n 0, 1) := by decide +kernel
theorem dX1_markLent_7 : decode cX1_markLent 7 = .ok (.getfield 19, 3) := by decide +kernel
theorem dX1_markLent_10 : decode cX1_markLent 10 = .ok (.ireturn, 1) := by decide +kernel
theorem dX1_leave_0 : decode cX1_leave 0 = .ok (.aload_n 0, 1) := by decide +kernel
theorem dX1_leave_1 : decode cX1_leave 1 = .ok (.getfield 15, 3) := by decide +kernel
theorem dX1_leave_4 : decode cX1_leave 4 = .ok (.bipush 16, 2) := by decide +kernel
theorem dX1_leave_6 : decode cX1_leave 6 = .ok (.if_icmp .ge 23, 3) := by decide +kernel
theorem dX1_leave_9 : decode cX1_leave 9 = .ok (.aload_n 0, 1) := by decide +kernel
theorem dX1_leave_10 : decode cX1_leave 10 = .ok (.getfield 11, 3) := by decide +kernel
theorem dX1_leave_13 : decode cX1_leave 13 = .ok (.aload_n 0, 1) := by decide +kernel
theorem dX1_leave_14 : decode cX1_leave 14 = .ok (.getfield 15, 3) := by decide +kernel
theorem dX1_leave_17 : decode cX1_leave 17 = .ok (.iload_n 1, 1) := by decide +kernel
theorem dX1_leave_18 : decode cX1_leave 18 = .ok (.iastore, 1) := by decide +kernel
theorem dX1_leave_19 : decode cX1_leave 19 = .ok (.aload_n 0, 1) := by decide +kernel
theorem dX1_leave_20 : decode cX1_leave 20 = .ok (.dup, 1) := by decide +kernel
theorem dX1_leave_21 : decode cX1_leave 21 = .ok (.getfield 15, 3) := by decide +kernel
theorem dX1_leave_24 : decode cX1_leave 24 = .ok (.iconst 1, 1) := by decide +kernel
theorem dX1_leave_25 : decode cX1_leave 25 = .ok (.iadd, 1) := by decide +kernel
theorem dX1_leave_26 : decode cX1_leave 26 = .ok (.putfield 15, 3) := by decide +kernel
theorem dX1_leave_29 : decode cX1_leave 29 = .ok (.return_, 1) := by decide +kernel
theorem dX4_init_0 : decode cX4_init 0 = .ok (.aload_n 0, 1) := by decide +kernel
theorem dX4_init_1 : decode cX4_init 1 = .ok (.invokespecial 1, 3) := by decide +kernel
theorem dX4_init_4 : decode cX4_init 4 = .ok (.aload_n 0, 1) := by decide +kernel
theorem dX4_init_5 : decode cX4_init 5 = .ok (.bipush 8, 2) := by decide +kernel
theorem dX4_init_7 : decode cX4_init 7 = .ok (.bipush 40, 2) := by decide +kernel
theorem dX4_init_9 : decode cX4_init 9 = .ok (.multianewarray 9 2, 4) := by decide +kernel
theorem dX4_init_13 : decode cX4_init 13 = .ok (.putfield 11, 3) := by decide +kernel
theorem dX4_init_16 : decode cX4_init 16 = .ok (.aload_n 0, 1) := by decide +kernel
theorem dX4_init_17 : decode cX4_init 17 = .ok (.bipush 8, 2) := by decide +kernel
theorem dX4_init_19 : decode cX4_init 19 = .ok (.newarray .int, 2) := by decide +kernel
theorem dX4_init_21 : decode cX4_init 21 = .ok (.putfield 14, 3) := by decide +kernel
theorem dX4_init_24 : decode cX4_init 24 = .ok (.aload_n 0, 1) := by decide +kernel
theorem dX4_init_25 : decode cX4_init 25 = .ok (.bipush 8, 2) := by decide +kernel
theorem dX4_init_27 : decode cX4_init 27 = .ok (.newarray .int, 2) := by decide +kernel
theorem dX4_init_29 : decode cX4_init 29 = .ok (.putfield 18, 3) := by decide +kernel
theorem dX4_init_32 : decode cX4_init 32 = .ok (.aload_n 0, 1) := by decide +kernel
theorem dX4_init_33 : decode cX4_init 33 = .ok (.getfield 18, 3) := by decide +kernel
theorem dX4_init_36 : decode cX4_init 36 = .ok (.iconst (-1), 1) := by decide +kernel
theorem dX4_init_37 : decode cX4_init 37 = .ok (.invokestatic 21, 3) := by decide +kernel
theorem dX4_init_40 : decode cX4_init 40 = .ok (.return_, 1) := by decide +kernel
theorem dX4_make_0 : decode cX4_make 0 = .ok (.aload_n 0, 1) := by decide +kernel
theorem dX4_make_1 : decode cX4_make 1 = .ok (.getfield 11, 3) := by decide +kernel
theorem dX4_make_4 : decode cX4_make 4 = .ok (.iload_n 1, 1) := by decide +kernel
theorem dX4_make_5 : decode cX4_make 5 = .ok (.aaload, 1) := by decide +kernel
theorem dX4_make_6 : decode cX4_make 6 = .ok (.iconst 0, 1) := by decide +kernel
theorem dX4_make_7 : decode cX4_make 7 = .ok (.invokestatic 21, 3) := by decide +kernel
theorem dX4_make_10 : decode cX4_make 10 = .ok (.aload_n 0, 1) := by decide +kernel
theorem dX4_make_11 : decode cX4_make 11 = .ok (.getfield 14, 3) := by decide +kernel
theorem dX4_make_14 : decode cX4_make 14 = .ok (.iload_n 1, 1) := by decide +kernel
theorem dX4_make_15 : decode cX4_make 15 = .ok (.iload_n 2, 1) := by decide +kernel
theorem dX4_make_16 : decode cX4_make 16 = .ok (.iastore, 1) := by decide +kernel
theorem dX4_make_17 : decode cX4_make 17 = .ok (.aload_n 0, 1) := by decide +kernel
theorem dX4_make_18 : decode cX4_make 18 = .ok (.getfield 18, 3) := by decide +kernel
theorem dX4_make_21 : decode cX4_make 21 = .ok (.iload_n 1, 1) := by decide +kernel
theorem dX4_make_22 : decode cX4_make 22 = .ok (.iload_n 3, 1) := by decide +kernel
theorem dX4_make_23 : decode cX4_make 23 = .ok (.iastore, 1) := by decide +kernel
theorem dX4_make_24 : decode cX4_make 24 = .ok (.return_, 1) := by decide +kernel
theorem dX4_isMissing_0 : decode cX4_isMissing 0 = .ok (.aload_n 0, 1) := by decide +kernel
theorem dX4_isMissing_1 : decode cX4_isMissing 1 = .ok (.getfield 18, 3) := by decide +kernel
theorem dX4_isMissing_4 : decode cX4_isMissing 4 = .ok (.iload_n 1, 1) := by decide +kernel
theorem dX4_isMissing_5 : decode cX4_isMissing 5 = .ok (.iaload, 1) := by decide +kernel
theorem dX4_isMissing_6 : decode cX4_isMissing 6 = .ok (.iconst (-1), 1) := by decide +kernel
theorem dX4_isMissing_7 : decode cX4_isMissing 7 = .ok (.if_icmp .ne 7, 3) := by decide +kernel
theorem dX4_isMissing_10 : decode cX4_isMissing 10 = .ok (.iconst 1, 1) := by decide +kernel
theorem dX4_isMissing_11 : decode cX4_isMissing 11 = .ok (.goto 4, 3) := by decide +kernel
theorem dX4_isMissing_14 : decode cX4_isMissing 14 = .ok (.iconst 0, 1) := by decide +kernel
theorem dX4_isMissing_15 : decode cX4_isMissing 15 = .ok (.ireturn, 1) := by decide +kernel
theorem dX4_lacks_0 : decode cX4_lacks 0 = .ok (.iload_n 2, 1) := by decide +kernel
theorem dX4_lacks_1 : decode cX4_lacks 1 = .ok (.ifCond .lt 29, 3) := by decide +kernel
theorem dX4_lacks_4 : decode cX4_lacks 4 = .ok (.iload_n 3, 1) := by decide +kernel
theorem dX4_lacks_5 : decode cX4_lacks 5 = .ok (.ifCond .lt 25, 3) := by decide +kernel
theorem dX4_lacks_8 : decode cX4_lacks 8 = .ok (.iload_n 2, 1) := by decide +kernel
theorem dX4_lacks_9 : decode cX4_lacks 9 = .ok (.aload_n 0, 1) := by decide +kernel
theorem dX4_lacks_10 : decode cX4_lacks 10 = .ok (.getfield 18, 3) := by decide +kernel
theorem dX4_lacks_13 : decode cX4_lacks 13 = .ok (.iload_n 1, 1) := by decide +kernel
theorem dX4_lacks_14 : decode cX4_lacks 14 = .ok (.iaload, 1) := by decide +kernel
theorem dX4_lacks_15 : decode cX4_lacks 15 = .ok (.if_icmp .gt 15, 3) := by decide +kernel
theorem dX4_lacks_18 : decode cX4_lacks 18 = .ok (.iload_n 3, 1) := by decide +kernel
theorem dX4_lacks_19 : decode cX4_lacks 19 = .ok (.aload_n 0, 1) := by decide +kernel
theorem dX4_lacks_20 : decode cX4_lacks 20 = .ok (.getfield 18, 3) := by decide +kernel
theorem dX4_lacks_23 : decode cX4_lacks 23 = .ok (.iload_n 1, 1) := by decide +kernel
theorem dX4_lacks_24 : decode cX4_lacks 24 = .ok (.iaload, 1) := by decide +kernel
theorem dX4_lacks_25 : decode cX4_lacks 25 = .ok (.iload_n 2, 1) := by decide +kernel
theorem dX4_lacks_26 : decode cX4_lacks 26 = .ok (.isub, 1) := by decide +kernel
theorem dX4_lacks_27 : decode cX4_lacks 27 = .ok (.if_icmp .le 7, 3) := by decide +kernel
theorem dX4_lacks_30 : decode cX4_lacks 30 = .ok (.iconst 1, 1) := by decide +kernel
theorem dX4_lacks_31 : decode cX4_lacks 31 = .ok (.goto 4, 3) := by decide +kernel
theorem dX4_lacks_34 : decode cX4_lacks 34 = .ok (.iconst 0, 1) := by decide +kernel
theorem dX4_lacks_35 : decode cX4_lacks 35 = .ok (.ireturn, 1) := by decide +kernel
theorem dX4_put_0 : decode cX4_put 0 = .ok (.iload_n 3, 1) := by decide +kernel
theorem dX4_put_1 : decode cX4_put 1 = .ok (.istore 4, 2) := by decide +kernel
theorem dX4_put_3 : decode cX4_put 3 = .ok (.aload_n 0, 1) := by decide +kernel
theorem dX4_put_4 : decode cX4_put 4 = .ok (.getfield 14, 3) := by decide +kernel
theorem dX4_put_7 : decode cX4_put 7 = .ok (.iload_n 1, 1) := by decide +kernel
theorem dX4_put_8 : decode cX4_put 8 = .ok (.iaload, 1) := by decide +kernel
theorem dX4_put_9 : decode cX4_put 9 = .ok (.ifCond .ne 10, 3) := by decide +kernel
theorem dX4_put_12 : decode cX4_put 12 = .ok (.iload_n 3, 1) := by decide +kernel
theorem dX4_put_13 : decode cX4_put 13 = .ok (.i2b, 1) := by decide +kernel
theorem dX4_put_14 : decode cX4_put 14 = .ok (.istore 4, 2) := by decide +kernel
theorem dX4_put_16 : decode cX4_put 16 = .ok (.goto 17, 3) := by decide +kernel
theorem dX4_put_19 : decode cX4_put 19 = .ok (.aload_n 0, 1) := by decide +kernel
theorem dX4_put_20 : decode cX4_put 20 = .ok (.getfield 14, 3) := by decide +kernel
theorem dX4_put_23 : decode cX4_put 23 = .ok (.iload_n 1, 1) := by decide +kernel
theorem dX4_put_24 : decode cX4_put 24 = .ok (.iaload, 1) := by decide +kernel
theorem dX4_put_25 : decode cX4_put 25 = .ok (.iconst 1, 1) := by decide +kernel
theorem dX4_put_26 : decode cX4_put 26 = .ok (.if_icmp .ne 7, 3) := by decide +kernel
theorem dX4_put_29 : decode cX4_put 29 = .ok (.iload_n 3, 1) := by decide +kernel
theorem dX4_put_30 : decode cX4_put 30 = .ok (.i2s, 1) := by decide +kernel
theorem dX4_put_31 : decode cX4_put 31 = .ok (.istore 4, 2) := by decide +kernel
theorem dX4_put_33 : decode cX4_put 33 = .ok (.aload_n 0, 1) := by decide +kernel
theorem dX4_put_34 : decode cX4_put 34 = .ok (.getfield 11, 3) := by decide +kernel
theorem dX4_put_37 : decode cX4_put 37 = .ok (.iload_n 1, 1) := by decide +kernel
theorem dX4_put_38 : decode cX4_put 38 = .ok (.aaload, 1) := by decide +kernel
theorem dX4_put_39 : decode cX4_put 39 = .ok (.iload_n 2, 1) := by decide +kernel
theorem dX4_put_40 : decode cX4_put 40 = .ok (.iload 4, 2) := by decide +kernel
theorem dX4_put_42 : decode cX4_put 42 = .ok (.iastore, 1) := by decide +kernel
theorem dX4_put_43 : decode cX4_put 43 = .ok (.iload 4, 2) := by decide +kernel
theorem dX4_put_45 : decode cX4_put 45 = .ok (.ireturn, 1) := by decide +kernel
theorem dX4_lose_0 : decode cX4_lose 0 = .ok (.aload_n 0, 1) := by decide +kernel
theorem dX4_lose_1 : decode cX4_lose 1 = .ok (.getfield 18, 3) := by decide +kernel
theorem dX4_lose_4 : decode cX4_lose 4 = .ok (.iload_n 1, 1) := by decide +kernel
theorem dX4_lose_5 : decode cX4_lose 5 = .ok (.iaload, 1) := by decide +kernel
theorem dX4_lose_6 : decode cX4_lose 6 = .ok (.istore_n 2, 1) := by decide +kernel
theorem dX4_lose_7 : decode cX4_lose 7 = .ok (.aload_n 0, 1) := by decide +kernel
theorem dX4_lose_8 : decode cX4_lose 8 = .ok (.getfield 18, 3) := by decide +kernel
theorem dX4_lose_11 : decode cX4_lose 11 = .ok (.iload_n 1, 1) := by decide +kernel
theorem dX4_lose_12 : decode cX4_lose 12 = .ok (.iconst (-1), 1) := by decide +kernel
theorem dX4_lose_13 : decode cX4_lose 13 = .ok (.iastore, 1) := by decide +kernel
theorem dX4_lose_14 : decode cX4_lose 14 = .ok (.iload_n 2, 1) := by decide +kernel
theorem dX4_lose_15 : decode cX4_lose 15 = .ok (.ireturn, 1) := by decide +kernel
theorem dX4_countThere_0 : decode cX4_countThere 0 = .ok (.iconst 0, 1) := by decide +kernel
theorem dX4_countThere_1 : decode cX4_countThere 1 = .ok (.istore_n 1, 1) := by decide +kernel
theorem dX4_countThere_2 : decode cX4_countThere 2 = .ok (.iconst 0, 1) := by decide +kernel
theorem dX4_countThere_3 : decode cX4_countThere 3 = .ok (.istore_n 2, 1) := by decide +kernel
theorem dX4_countThere_4 : decode cX4_countThere 4 = .ok (.iload_n 2, 1) := by decide +kernel
theorem dX4_countThere_5 : decode cX4_countThere 5 = .ok (.bipush 8, 2) := by decide +kernel
theorem dX4_countThere_7 : decode cX4_countThere 7 = .ok (.if_icmp .ge 20, 3) := by decide +kernel
theorem dX4_countThere_10 : decode cX4_countThere 10 = .ok (.aload_n 0, 1) := by decide +kernel
theorem dX4_countThere_11 : decode cX4_countThere 11 = .ok (.iload_n 2, 1) := by decide +kernel
theorem dX4_countThere_12 : decode cX4_countThere 12 = .ok (.invokevirtual 27, 3) := by decide +kernel
theorem dX4_countThere_15 : decode cX4_countThere 15 = .ok (.ifCond .ne 6, 3) := by decide +kernel
theorem dX4_countThere_18 : decode cX4_countThere 18 = .ok (.iinc 1 1, 3) := by decide +kernel
theorem dX4_countThere_21 : decode cX4_countThere 21 = .ok (.iinc 2 1, 3) := by decide +kernel
theorem dX4_countThere_24 : decode cX4_countThere 24 = .ok (.goto (-20), 3) := by decide +kernel
theorem dX4_countThere_27 : decode cX4_countThere 27 = .ok (.iload_n 1, 1) := by decide +kernel
theorem dX4_countThere_28 : decode cX4_countThere 28 = .ok (.ireturn, 1) := by decide +kernel
theorem dX6_init_0 : decode cX6_init 0 = .ok (.aload_n 0, 1) := by decide +kernel
theorem dX6_init_1 : decode cX6_init 1 = .ok (.invokespecial 3, 3) := by decide +kernel
theorem dX6_init_4 : decode cX6_init 4 = .ok (.aload_n 0, 1) := by decide +kernel
theorem dX6_init_5 : decode cX6_init 5 = .ok (.bipush 120, 2) := by decide +kernel
theorem dX6_init_7 : decode cX6_init 7 = .ok (.newarray .int, 2) := by decide +kernel
theorem dX6_init_9 : decode cX6_init 9 = .ok (.putfield 11, 3) := by decide +kernel
theorem dX6_init_12 : decode cX6_init 12 = .ok (.return_, 1) := by decide +kernel
theorem dX6_isFull_0 : decode cX6_isFull 0 = .ok (.aload_n 0, 1) := by decide +kernel
theorem dX6_isFull_1 : decode cX6_isFull 1 = .ok (.getfield 15, 3) := by decide +kernel
theorem dX6_isFull_4 : decode cX6_isFull 4 = .ok (.bipush 120, 2) := by decide +kernel
theorem dX6_isFull_6 : decode cX6_isFull 6 = .ok (.if_icmp .lt 7, 3) := by decide +kernel
theorem dX6_isFull_9 : decode cX6_isFull 9 = .ok (.iconst 1, 1) := by decide +kernel
theorem dX6_isFull_10 : decode cX6_isFull 10 = .ok (.goto 4, 3) := by decide +kernel
theorem dX6_isFull_13 : decode cX6_isFull 13 = .ok (.iconst 0, 1) := by decide +kernel
theorem dX6_isFull_14 : decode cX6_isFull 14 = .ok (.ireturn, 1) := by decide +kernel
theorem dX6_add_0 : decode cX6_add 0 = .ok (.aload_n 0, 1) := by decide +kernel
theorem dX6_add_1 : decode cX6_add 1 = .ok (.getfield 11, 3) := by decide +kernel
theorem dX6_add_4 : decode cX6_add 4 = .ok (.aload_n 0, 1) := by decide +kernel
theorem dX6_add_5 : decode cX6_add 5 = .ok (.getfield 15, 3) := by decide +kernel
theorem dX6_add_8 : decode cX6_add 8 = .ok (.iload_n 1, 1) := by decide +kernel
theorem dX6_add_9 : decode cX6_add 9 = .ok (.iastore, 1) := by decide +kernel
theorem dX6_add_10 : decode cX6_add 10 = .ok (.aload_n 0, 1) := by decide +kernel
theorem dX6_add_11 : decode cX6_add 11 = .ok (.dup, 1) := by decide +kernel
theorem dX6_add_12 : decode cX6_add 12 = .ok (.getfield 15, 3) := by decide +kernel
theorem dX6_add_15 : decode cX6_add 15 = .ok (.iconst 1, 1) := by decide +kernel
theorem dX6_add_16 : decode cX6_add 16 = .ok (.iadd, 1) := by decide +kernel
theorem dX6_add_17 : decode cX6_add 17 = .ok (.putfield 15, 3) := by decide +kernel
theorem dX6_add_20 : decode cX6_add 20 = .ok (.aload_n 0, 1) := by decide +kernel
theorem dX6_add_21 : decode cX6_add 21 = .ok (.getfield 15, 3) := by decide +kernel
theorem dX6_add_24 : decode cX6_add 24 = .ok (.ireturn, 1) := by decide +kernel
theorem dX6_readInto_0 : decode cX6_readInto 0 = .ok (.aload_n 0, 1) := by decide +kernel
theorem dX6_readInto_1 : decode cX6_readInto 1 = .ok (.iconst 0, 1) := by decide +kernel
theorem dX6_readInto_2 : decode cX6_readInto 2 = .ok (.putfield 19, 3) := by decide +kernel
theorem dX6_readInto_5 : decode cX6_readInto 5 = .ok (.aload_n 0, 1) := by decide +kernel
theorem dX6_readInto_6 : decode cX6_readInto 6 = .ok (.iconst 0, 1) := by decide +kernel
theorem dX6_readInto_7 : decode cX6_readInto 7 = .ok (.putfield 22, 3) := by decide +kernel
theorem dX6_readInto_10 : decode cX6_readInto 10 = .ok (.aload_n 1, 1) := by decide +kernel
theorem dX6_readInto_11 : decode cX6_readInto 11 = .ok (.getfield 25, 3) := by decide +kernel
theorem dX6_readInto_14 : decode cX6_readInto 14 = .ok (.iconst 0, 1) := by decide +kernel
theorem dX6_readInto_15 : decode cX6_readInto 15 = .ok (.invokestatic 30, 3) := by decide +kernel
theorem dX6_readInto_18 : decode cX6_readInto 18 = .ok (.aload_n 0, 1) := by decide +kernel
theorem dX6_readInto_19 : decode cX6_readInto 19 = .ok (.bipush 118, 2) := by decide +kernel
theorem dX6_readInto_21 : decode cX6_readInto 21 = .ok (.invokevirtual 36, 3) := by decide +kernel
theorem dX6_readInto_24 : decode cX6_readInto 24 = .ok (.aload_n 1, 1) := by decide +kernel
theorem dX6_readInto_25 : decode cX6_readInto 25 = .ok (.aload_n 0, 1) := by decide +kernel
theorem dX6_readInto_26 : decode cX6_readInto 26 = .ok (.iconst 0, 1) := by decide +kernel
theorem dX6_readInto_27 : decode cX6_readInto 27 = .ok (.bipush 20, 2) := by decide +kernel
theorem dX6_readInto_29 : decode cX6_readInto 29 = .ok (.invokevirtual 40, 3) := by decide +kernel
theorem dX6_readInto_32 : decode cX6_readInto 32 = .ok (.putfield 44, 3) := by decide +kernel
theorem dX6_readInto_35 : decode cX6_readInto 35 = .ok (.aload_n 0, 1) := by decide +kernel
theorem dX6_readInto_36 : decode cX6_readInto 36 = .ok (.bipush 59, 2) := by decide +kernel
theorem dX6_readInto_38 : decode cX6_readInto 38 = .ok (.invokevirtual 36, 3) := by decide +kernel
theorem dX6_readInto_41 : decode cX6_readInto 41 = .ok (.aload_n 0, 1) := by decide +kernel
theorem dX6_readInto_42 : decode cX6_readInto 42 = .ok (.aload_n 1, 1) := by decide +kernel
theorem dX6_readInto_43 : decode cX6_readInto 43 = .ok (.invokevirtual 47, 3) := by decide +kernel
theorem dX6_readInto_46 : decode cX6_readInto 46 = .ok (.aload_n 0, 1) := by decide +kernel
theorem dX6_readInto_47 : decode cX6_readInto 47 = .ok (.aload_n 1, 1) := by decide +kernel
theorem dX6_readInto_48 : decode cX6_readInto 48 = .ok (.invokevirtual 51, 3) := by decide +kernel
theorem dX6_readInto_51 : decode cX6_readInto 51 = .ok (.return_, 1) := by decide +kernel
theorem dX6_readHours_0 : decode cX6_readHours 0 = .ok (.iconst 0, 1) := by decide +kernel
theorem dX6_readHours_1 : decode cX6_readHours 1 = .ok (.istore_n 2, 1) := by decide +kernel
theorem dX6_readHours_2 : decode cX6_readHours 2 = .ok (.iload_n 2, 1) := by decide +kernel
theorem dX6_readHours_3 : decode cX6_readHours 3 = .ok (.bipush 6, 2) := by decide +kernel
theorem dX6_readHours_5 : decode cX6_readHours 5 = .ok (.if_icmp .gt 75, 3) := by decide +kernel
theorem dX6_readHours_8 : decode cX6_readHours 8 = .ok (.aload_n 0, 1) := by decide +kernel
theorem dX6_readHours_9 : decode cX6_readHours 9 = .ok (.getfield 22, 3) := by decide +kernel
theorem dX6_readHours_12 : decode cX6_readHours 12 = .ok (.ifCond .ne 68, 3) := by decide +kernel
theorem dX6_readHours_15 : decode cX6_readHours 15 = .ok (.iload_n 2, 1) := by decide +kernel
theorem dX6_readHours_16 : decode cX6_readHours 16 = .ok (.ifCond .eq 12, 3) := by decide +kernel
theorem dX6_readHours_19 : decode cX6_readHours 19 = .ok (.aload_n 0, 1) := by decide +kernel
theorem dX6_readHours_20 : decode cX6_readHours 20 = .ok (.invokevirtual 54, 3) := by decide +kernel
theorem dX6_readHours_23 : decode cX6_readHours 23 = .ok (.bipush 104, 2) := by decide +kernel
theorem dX6_readHours_25 : decode cX6_readHours 25 = .ok (.if_icmp .ne 55, 3) := by decide +kernel
theorem dX6_readHours_28 : decode cX6_readHours 28 = .ok (.iload_n 2, 1) := by decide +kernel
theorem dX6_readHours_29 : decode cX6_readHours 29 = .ok (.bipush 6, 2) := by decide +kernel
theorem dX6_readHours_31 : decode cX6_readHours 31 = .ok (.if_icmp .ne 11, 3) := by decide +kernel
theorem dX6_readHours_34 : decode cX6_readHours 34 = .ok (.aload_n 0, 1) := by decide +kernel
theorem dX6_readHours_35 : decode cX6_readHours 35 = .ok (.iconst 3, 1) := by decide +kernel
theorem dX6_readHours_36 : decode cX6_readHours 36 = .ok (.putfield 22, 3) := by decide +kernel
theorem dX6_readHours_39 : decode cX6_readHours 39 = .ok (.goto 35, 3) := by decide +kernel
theorem dX6_readHours_42 : decode cX6_readHours 42 = .ok (.aload_n 0, 1) := by decide +kernel
theorem dX6_readHours_43 : decode cX6_readHours 43 = .ok (.bipush 104, 2) := by decide +kernel
theorem dX6_readHours_45 : decode cX6_readHours 45 = .ok (.invokevirtual 36, 3) := by decide +kernel
theorem dX6_readHours_48 : decode cX6_readHours 48 = .ok (.aload_n 1, 1) := by decide +kernel
theorem dX6_readHours_49 : decode cX6_readHours 49 = .ok (.getfield 58, 3) := by decide +kernel
theorem dX6_readHours_52 : decode cX6_readHours 52 = .ok (.iload_n 2, 1) := by decide +kernel
theorem dX6_readHours_53 : decode cX6_readHours 53 = .ok (.aload_n 0, 1) := by decide +kernel
theorem dX6_readHours_54 : decode cX6_readHours 54 = .ok (.iconst 0, 1) := by decide +kernel
theorem dX6_readHours_55 : decode cX6_readHours 55 = .ok (.bipush 60, 2) := by decide +kernel
theorem dX6_readHours_57 : decode cX6_readHours 57 = .ok (.invokevirtual 40, 3) := by decide +kernel
theorem dX6_readHours_60 : decode cX6_readHours 60 = .ok (.iastore, 1) := by decide +kernel
theorem dX6_readHours_61 : decode cX6_readHours 61 = .ok (.aload_n 0, 1) := by decide +kernel
theorem dX6_readHours_62 : decode cX6_readHours 62 = .ok (.bipush 59, 2) := by decide +kernel
theorem dX6_readHours_64 : decode cX6_readHours 64 = .ok (.invokevirtual 36, 3) := by decide +kernel
theorem dX6_readHours_67 : decode cX6_readHours 67 = .ok (.aload_n 1, 1) := by decide +kernel
theorem dX6_readHours_68 : decode cX6_readHours 68 = .ok (.iload_n 2, 1) := by decide +kernel
theorem dX6_readHours_69 : decode cX6_readHours 69 = .ok (.iconst 1, 1) := by decide +kernel
theorem dX6_readHours_70 : decode cX6_readHours 70 = .ok (.iadd, 1) := by decide +kernel
theorem dX6_readHours_71 : decode cX6_readHours 71 = .ok (.putfield 61, 3) := by decide +kernel
theorem dX6_readHours_74 : decode cX6_readHours 74 = .ok (.iinc 2 1, 3) := by decide +kernel
theorem dX6_readHours_77 : decode cX6_readHours 77 = .ok (.goto (-75), 3) := by decide +kernel
theorem dX6_readHours_80 : decode cX6_readHours 80 = .ok (.return_, 1) := by decide +kernel
theorem dX6_readUnits_0 : decode cX6_readUnits 0 = .ok (.iconst 0, 1) := by decide +kernel
theorem dX6_readUnits_1 : decode cX6_readUnits 1 = .ok (.istore_n 2, 1) := by decide +kernel
theorem dX6_readUnits_2 : decode cX6_readUnits 2 = .ok (.iload_n 2, 1) := by decide +kernel
theorem dX6_readUnits_3 : decode cX6_readUnits 3 = .ok (.iconst 4, 1) := by decide +kernel
theorem dX6_readUnits_4 : decode cX6_readUnits 4 = .ok (.if_icmp .gt 95, 3) := by decide +kernel
theorem dX6_readUnits_7 : decode cX6_readUnits 7 = .ok (.aload_n 0, 1) := by decide +kernel
theorem dX6_readUnits_8 : decode cX6_readUnits 8 = .ok (.getfield 22, 3) := by decide +kernel
theorem dX6_readUnits_11 : decode cX6_readUnits 11 = .ok (.ifCond .ne 88, 3) := by decide +kernel
theorem dX6_readUnits_14 : decode cX6_readUnits 14 = .ok (.iload_n 2, 1) := by decide +kernel
theorem dX6_readUnits_15 : decode cX6_readUnits 15 = .ok (.ifCond .eq 14, 3) := by decide +kernel
theorem dX6_readUnits_18 : decode cX6_readUnits 18 = .ok (.aload_n 0, 1) := by decide +kernel
theorem dX6_readUnits_19 : decode cX6_readUnits 19 = .ok (.getfield 19, 3) := by decide +kernel
theorem dX6_readUnits_22 : decode cX6_readUnits 22 = .ok (.aload_n 0, 1) := by decide +kernel
theorem dX6_readUnits_23 : decode cX6_readUnits 23 = .ok (.getfield 15, 3) := by decide +kernel
theorem dX6_readUnits_26 : decode cX6_readUnits 26 = .ok (.if_icmp .ge 73, 3) := by decide +kernel
theorem dX6_readUnits_29 : decode cX6_readUnits 29 = .ok (.aload_n 0, 1) := by decide +kernel
theorem dX6_readUnits_30 : decode cX6_readUnits 30 = .ok (.aload_n 0, 1) := by decide +kernel
theorem dX6_readUnits_31 : decode cX6_readUnits 31 = .ok (.invokevirtual 54, 3) := by decide +kernel
theorem dX6_readUnits_34 : decode cX6_readUnits 34 = .ok (.invokevirtual 64, 3) := by decide +kernel
theorem dX6_readUnits_37 : decode cX6_readUnits 37 = .ok (.istore_n 3, 1) := by decide +kernel
theorem dX6_readUnits_38 : decode cX6_readUnits 38 = .ok (.iload_n 3, 1) := by decide +kernel
theorem dX6_readUnits_39 : decode cX6_readUnits 39 = .ok (.ifCond .ne 11, 3) := by decide +kernel
theorem dX6_readUnits_42 : decode cX6_readUnits 42 = .ok (.aload_n 0, 1) := by decide +kernel
theorem dX6_readUnits_43 : decode cX6_readUnits 43 = .ok (.iconst 1, 1) := by decide +kernel
theorem dX6_readUnits_44 : decode cX6_readUnits 44 = .ok (.putfield 22, 3) := by decide +kernel
theorem dX6_readUnits_47 : decode cX6_readUnits 47 = .ok (.goto 46, 3) := by decide +kernel
theorem dX6_readUnits_50 : decode cX6_readUnits 50 = .ok (.iload_n 2, 1) := by decide +kernel
theorem dX6_readUnits_51 : decode cX6_readUnits 51 = .ok (.iconst 4, 1) := by decide +kernel
theorem dX6_readUnits_52 : decode cX6_readUnits 52 = .ok (.if_icmp .ne 11, 3) := by decide +kernel
theorem dX6_readUnits_55 : decode cX6_readUnits 55 = .ok (.aload_n 0, 1) := by decide +kernel
theorem dX6_readUnits_56 : decode cX6_readUnits 56 = .ok (.iconst 3, 1) := by decide +kernel
theorem dX6_readUnits_57 : decode cX6_readUnits 57 = .ok (.putfield 22, 3) := by decide +kernel
theorem dX6_readUnits_60 : decode cX6_readUnits 60 = .ok (.goto 33, 3) := by decide +kernel
theorem dX6_readUnits_63 : decode cX6_readUnits 63 = .ok (.aload_n 0, 1) := by decide +kernel
theorem dX6_readUnits_64 : decode cX6_readUnits 64 = .ok (.dup, 1) := by decide +kernel
theorem dX6_readUnits_65 : decode cX6_readUnits 65 = .ok (.getfield 19, 3) := by decide +kernel
theorem dX6_readUnits_68 : decode cX6_readUnits 68 = .ok (.iconst 1, 1) := by decide +kernel
theorem dX6_readUnits_69 : decode cX6_readUnits 69 = .ok (.iadd, 1) := by decide +kernel
theorem dX6_readUnits_70 : decode cX6_readUnits 70 = .ok (.putfield 19, 3) := by decide +kernel
theorem dX6_readUnits_73 : decode cX6_readUnits 73 = .ok (.aload_n 1, 1) := by decide +kernel
theorem dX6_readUnits_74 : decode cX6_readUnits 74 = .ok (.iload_n 2, 1) := by decide +kernel
theorem dX6_readUnits_75 : decode cX6_readUnits 75 = .ok (.iconst 1, 1) := by decide +kernel
theorem dX6_readUnits_76 : decode cX6_readUnits 76 = .ok (.iadd, 1) := by decide +kernel
theorem dX6_readUnits_77 : decode cX6_readUnits 77 = .ok (.putfield 68, 3) := by decide +kernel
theorem dX6_readUnits_80 : decode cX6_readUnits 80 = .ok (.aload_n 1, 1) := by decide +kernel
theorem dX6_readUnits_81 : decode cX6_readUnits 81 = .ok (.getfield 71, 3) := by decide +kernel
theorem dX6_readUnits_84 : decode cX6_readUnits 84 = .ok (.iload_n 2, 1) := by decide +kernel
theorem dX6_readUnits_85 : decode cX6_readUnits 85 = .ok (.iload_n 3, 1) := by decide +kernel
theorem dX6_readUnits_86 : decode cX6_readUnits 86 = .ok (.iastore, 1) := by decide +kernel
theorem dX6_readUnits_87 : decode cX6_readUnits 87 = .ok (.aload_n 0, 1) := by decide +kernel
theorem dX6_readUnits_88 : decode cX6_readUnits 88 = .ok (.aload_n 1, 1) := by decide +kernel
theorem dX6_readUnits_89 : decode cX6_readUnits 89 = .ok (.iload_n 2, 1) := by decide +kernel
theorem dX6_readUnits_90 : decode cX6_readUnits 90 = .ok (.invokevirtual 74, 3) := by decide +kernel
theorem dX6_readUnits_93 : decode cX6_readUnits 93 = .ok (.iinc 2 1, 3) := by decide +kernel
theorem dX6_readUnits_96 : decode cX6_readUnits 96 = .ok (.goto (-94), 3) := by decide +kernel
theorem dX6_readUnits_99 : decode cX6_readUnits 99 = .ok (.return_, 1) := by decide +kernel
theorem dX6_readUnit_0 : decode cX6_readUnit 0 = .ok (.aload_n 1, 1) := by decide +kernel
theorem dX6_readUnit_1 : decode cX6_readUnit 1 = .ok (.getfield 78, 3) := by decide +kernel
theorem dX6_readUnit_4 : decode cX6_readUnit 4 = .ok (.iload_n 2, 1) := by decide +kernel
theorem dX6_readUnit_5 : decode cX6_readUnit 5 = .ok (.aload_n 0, 1) := by decide +kernel
theorem dX6_readUnit_6 : decode cX6_readUnit 6 = .ok (.iconst 0, 1) := by decide +kernel
theorem dX6_readUnit_7 : decode cX6_readUnit 7 = .ok (.bipush 20, 2) := by decide +kernel
theorem dX6_readUnit_9 : decode cX6_readUnit 9 = .ok (.invokevirtual 40, 3) := by decide +kernel
theorem dX6_readUnit_12 : decode cX6_readUnit 12 = .ok (.iastore, 1) := by decide +kernel
theorem dX6_readUnit_13 : decode cX6_readUnit 13 = .ok (.aload_n 0, 1) := by decide +kernel
theorem dX6_readUnit_14 : decode cX6_readUnit 14 = .ok (.bipush 44, 2) := by decide +kernel
theorem dX6_readUnit_16 : decode cX6_readUnit 16 = .ok (.invokevirtual 36, 3) := by decide +kernel
theorem dX6_readUnit_19 : decode cX6_readUnit 19 = .ok (.aload_n 1, 1) := by decide +kernel
theorem dX6_readUnit_20 : decode cX6_readUnit 20 = .ok (.getfield 81, 3) := by decide +kernel
theorem dX6_readUnit_23 : decode cX6_readUnit 23 = .ok (.iload_n 2, 1) := by decide +kernel
theorem dX6_readUnit_24 : decode cX6_readUnit 24 = .ok (.aload_n 0, 1) := by decide +kernel
theorem dX6_readUnit_25 : decode cX6_readUnit 25 = .ok (.aload_n 1, 1) := by decide +kernel
theorem dX6_readUnit_26 : decode cX6_readUnit 26 = .ok (.getfield 78, 3) := by decide +kernel
theorem dX6_readUnit_29 : decode cX6_readUnit 29 = .ok (.iload_n 2, 1) := by decide +kernel
theorem dX6_readUnit_30 : decode cX6_readUnit 30 = .ok (.iaload, 1) := by decide +kernel
theorem dX6_readUnit_31 : decode cX6_readUnit 31 = .ok (.bipush 30, 2) := by decide +kernel
theorem dX6_readUnit_33 : decode cX6_readUnit 33 = .ok (.invokevirtual 40, 3) := by decide +kernel
theorem dX6_readUnit_36 : decode cX6_readUnit 36 = .ok (.iastore, 1) := by decide +kernel
theorem dX6_readUnit_37 : decode cX6_readUnit 37 = .ok (.aload_n 0, 1) := by decide +kernel
theorem dX6_readUnit_38 : decode cX6_readUnit 38 = .ok (.bipush 44, 2) := by decide +kernel
theorem dX6_readUnit_40 : decode cX6_readUnit 40 = .ok (.invokevirtual 36, 3) := by decide +kernel
theorem dX6_readUnit_43 : decode cX6_readUnit 43 = .ok (.aload_n 1, 1) := by decide +kernel
theorem dX6_readUnit_44 : decode cX6_readUnit 44 = .ok (.getfield 84, 3) := by decide +kernel
theorem dX6_readUnit_47 : decode cX6_readUnit 47 = .ok (.iload_n 2, 1) := by decide +kernel
theorem dX6_readUnit_48 : decode cX6_readUnit 48 = .ok (.aload_n 0, 1) := by decide +kernel
theorem dX6_readUnit_49 : decode cX6_readUnit 49 = .ok (.iconst 1, 1) := by decide +kernel
theorem dX6_readUnit_50 : decode cX6_readUnit 50 = .ok (.bipush 9, 2) := by decide +kernel
theorem dX6_readUnit_52 : decode cX6_readUnit 52 = .ok (.invokevirtual 40, 3) := by decide +kernel
theorem dX6_readUnit_55 : decode cX6_readUnit 55 = .ok (.iastore, 1) := by decide +kernel
theorem dX6_readUnit_56 : decode cX6_readUnit 56 = .ok (.aload_n 0, 1) := by decide +kernel
theorem dX6_readUnit_57 : decode cX6_readUnit 57 = .ok (.bipush 44, 2) := by decide +kernel
theorem dX6_readUnit_59 : decode cX6_readUnit 59 = .ok (.invokevirtual 36, 3) := by decide +kernel
theorem dX6_readUnit_62 : decode cX6_readUnit 62 = .ok (.aload_n 1, 1) := by decide +kernel
theorem dX6_readUnit_63 : decode cX6_readUnit 63 = .ok (.getfield 87, 3) := by decide +kernel
theorem dX6_readUnit_66 : decode cX6_readUnit 66 = .ok (.iload_n 2, 1) := by decide +kernel
theorem dX6_readUnit_67 : decode cX6_readUnit 67 = .ok (.aload_n 0, 1) := by decide +kernel
theorem dX6_readUnit_68 : decode cX6_readUnit 68 = .ok (.iconst 0, 1) := by decide +kernel
theorem dX6_readUnit_69 : decode cX6_readUnit 69 = .ok (.bipush 40, 2) := by decide +kernel
theorem dX6_readUnit_71 : decode cX6_readUnit 71 = .ok (.invokevirtual 40, 3) := by decide +kernel
theorem dX6_readUnit_74 : decode cX6_readUnit 74 = .ok (.iastore, 1) := by decide +kernel
theorem dX6_readUnit_75 : decode cX6_readUnit 75 = .ok (.aload_n 0, 1) := by decide +kernel
theorem dX6_readUnit_76 : decode cX6_readUnit 76 = .ok (.bipush 44, 2) := by decide +kernel
theorem dX6_readUnit_78 : decode cX6_readUnit 78 = .ok (.invokevirtual 36, 3) := by decide +kernel
theorem dX6_readUnit_81 : decode cX6_readUnit 81 = .ok (.aload_n 1, 1) := by decide +kernel
theorem dX6_readUnit_82 : decode cX6_readUnit 82 = .ok (.getfield 90, 3) := by decide +kernel
theorem dX6_readUnit_85 : decode cX6_readUnit 85 = .ok (.iload_n 2, 1) := by decide +kernel
theorem dX6_readUnit_86 : decode cX6_readUnit 86 = .ok (.aload_n 0, 1) := by decide +kernel
theorem dX6_readUnit_87 : decode cX6_readUnit 87 = .ok (.iconst 1, 1) := by decide +kernel
theorem dX6_readUnit_88 : decode cX6_readUnit 88 = .ok (.iconst 3, 1) := by decide +kernel
theorem dX6_readUnit_89 : decode cX6_readUnit 89 = .ok (.invokevirtual 40, 3) := by decide +kernel
theorem dX6_readUnit_92 : decode cX6_readUnit 92 = .ok (.iastore, 1) := by decide +kernel
theorem dX6_readUnit_93 : decode cX6_readUnit 93 = .ok (.aload_n 0, 1) := by decide +kernel
theorem dX6_readUnit_94 : decode cX6_readUnit 94 = .ok (.bipush 44, 2) := by decide +kernel
theorem dX6_readUnit_96 : decode cX6_readUnit 96 = .ok (.invokevirtual 36, 3) := by decide +kernel
theorem dX6_readUnit_99 : decode cX6_readUnit 99 = .ok (.aload_n 1, 1) := by decide +kernel
theorem dX6_readUnit_100 : decode cX6_readUnit 100 = .ok (.getfield 93, 3) := by decide +kernel
theorem dX6_readUnit_103 : decode cX6_readUnit 103 = .ok (.iload_n 2, 1) := by decide +kernel
theorem dX6_readUnit_104 : decode cX6_readUnit 104 = .ok (.aload_n 0, 1) := by decide +kernel
theorem dX6_readUnit_105 : decode cX6_readUnit 105 = .ok (.iconst 1, 1) := by decide +kernel
theorem dX6_readUnit_106 : decode cX6_readUnit 106 = .ok (.iconst 3, 1) := by decide +kernel
theorem dX6_readUnit_107 : decode cX6_readUnit 107 = .ok (.invokevirtual 40, 3) := by decide +kernel
theorem dX6_readUnit_110 : decode cX6_readUnit 110 = .ok (.iastore, 1) := by decide +kernel
theorem dX6_readUnit_111 : decode cX6_readUnit 111 = .ok (.aload_n 0, 1) := by decide +kernel
theorem dX6_readUnit_112 : decode cX6_readUnit 112 = .ok (.bipush 59, 2) := by decide +kernel
theorem dX6_readUnit_114 : decode cX6_readUnit 114 = .ok (.invokevirtual 36, 3) := by decide +kernel
theorem dX6_readUnit_117 : decode cX6_readUnit 117 = .ok (.return_, 1) := by decide +kernel
theorem dX6_kindOfSort_0 : decode cX6_kindOfSort 0 = .ok (.iload_n 1, 1) := by decide +kernel
theorem dX6_kindOfSort_1 : decode cX6_kindOfSort 1 = .ok (.tableswitch 57 112 119 #[47, 49, 55, 51, 57, 57, 57, 53], 47) := by decide +kernel
theorem dX6_kindOfSort_48 : decode cX6_kindOfSort 48 = .ok (.iconst 1, 1) := by decide +kernel
theorem dX6_kindOfSort_49 : decode cX6_kindOfSort 49 = .ok (.ireturn, 1) := by decide +kernel
theorem dX6_kindOfSort_50 : decode cX6_kindOfSort 50 = .ok (.iconst 2, 1) := by decide +kernel
theorem dX6_kindOfSort_51 : decode cX6_kindOfSort 51 = .ok (.ireturn, 1) := by decide +kernel
theorem dX6_kindOfSort_52 : decode cX6_kindOfSort 52 = .ok (.iconst 3, 1) := by decide +kernel
theorem dX6_kindOfSort_53 : decode cX6_kindOfSort 53 = .ok (.ireturn, 1) := by decide +kernel
theorem dX6_kindOfSort_54 : decode cX6_kindOfSort 54 = .ok (.iconst 4, 1) := by decide +kernel
theorem dX6_kindOfSort_55 : decode cX6_kindOfSort 55 = .ok (.ireturn, 1) := by decide +kernel
theorem dX6_kindOfSort_56 : decode cX6_kindOfSort 56 = .ok (.iconst 5, 1) := by decide +kernel
theorem dX6_kindOfSort_57 : decode cX6_kindOfSort 57 = .ok (.ireturn, 1) := by decide +kernel
theorem dX6_kindOfSort_58 : decode cX6_kindOfSort 58 = .ok (.iconst 0, 1) := by decide +kernel
theorem dX6_kindOfSort_59 : decode cX6_kindOfSort 59 = .ok (.ireturn, 1) := by decide +kernel
theorem dX6_next_0 : decode cX6_next 0 = .ok (.aload_n 0, 1) := by decide +kernel
theorem dX6_next_1 : decode cX6_next 1 = .ok (.getfield 19, 3) := by decide +kernel
theorem dX6_next_4 : decode cX6_next 4 = .ok (.aload_n 0, 1) := by decide +kernel
theorem dX6_next_5 : decode cX6_next 5 = .ok (.getfield 15, 3) := by decide +kernel
theorem dX6_next_8 : decode cX6_next 8 = .ok (.if_icmp .ge 15, 3) := by decide +kernel
theorem dX6_next_11 : decode cX6_next 11 = .ok (.aload_n 0, 1) := by decide +kernel
theorem dX6_next_12 : decode cX6_next 12 = .ok (.getfield 11, 3) := by decide +kernel
theorem dX6_next_15 : decode cX6_next 15 = .ok (.aload_n 0, 1) := by decide +kernel
theorem dX6_next_16 : decode cX6_next 16 = .ok (.getfield 19, 3) := by decide +kernel
theorem dX6_next_19 : decode cX6_next 19 = .ok (.iaload, 1) := by decide +kernel
theorem dX6_next_20 : decode cX6_next 20 = .ok (.goto 4, 3) := by decide +kernel
theorem dX6_next_23 : decode cX6_next 23 = .ok (.iconst (-1), 1) := by decide +kernel
theorem dX6_next_24 : decode cX6_next 24 = .ok (.ireturn, 1) := by decide +kernel
theorem dX6_isFigure_0 : decode cX6_isFigure 0 = .ok (.iload_n 1, 1) := by decide +kernel
theorem dX6_isFigure_1 : decode cX6_isFigure 1 = .ok (.aload_n 0, 1) := by decide +kernel
theorem dX6_isFigure_2 : decode cX6_isFigure 2 = .ok (.getfield 15, 3) := by decide +kernel
theorem dX6_isFigure_5 : decode cX6_isFigure 5 = .ok (.if_icmp .ge 29, 3) := by decide +kernel
theorem dX6_isFigure_8 : decode cX6_isFigure 8 = .ok (.aload_n 0, 1) := by decide +kernel
theorem dX6_isFigure_9 : decode cX6_isFigure 9 = .ok (.getfield 11, 3) := by decide +kernel
theorem dX6_isFigure_12 : decode cX6_isFigure 12 = .ok (.iload_n 1, 1) := by decide +kernel
theorem dX6_isFigure_13 : decode cX6_isFigure 13 = .ok (.iaload, 1) := by decide +kernel
theorem dX6_isFigure_14 : decode cX6_isFigure 14 = .ok (.bipush 48, 2) := by decide +kernel
theorem dX6_isFigure_16 : decode cX6_isFigure 16 = .ok (.if_icmp .lt 18, 3) := by decide +kernel
theorem dX6_isFigure_19 : decode cX6_isFigure 19 = .ok (.aload_n 0, 1) := by decide +kernel
theorem dX6_isFigure_20 : decode cX6_isFigure 20 = .ok (.getfield 11, 3) := by decide +kernel
theorem dX6_isFigure_23 : decode cX6_isFigure 23 = .ok (.iload_n 1, 1) := by decide +kernel
theorem dX6_isFigure_24 : decode cX6_isFigure 24 = .ok (.iaload, 1) := by decide +kernel
theorem dX6_isFigure_25 : decode cX6_isFigure 25 = .ok (.bipush 57, 2) := by decide +kernel
theorem dX6_isFigure_27 : decode cX6_isFigure 27 = .ok (.if_icmp .gt 7, 3) := by decide +kernel
theorem dX6_isFigure_30 : decode cX6_isFigure 30 = .ok (.iconst 1, 1) := by decide +kernel
theorem dX6_isFigure_31 : decode cX6_isFigure 31 = .ok (.goto 4, 3) := by decide +kernel
theorem dX6_isFigure_34 : decode cX6_isFigure 34 = .ok (.iconst 0, 1) := by decide +kernel
theorem dX6_isFigure_35 : decode cX6_isFigure 35 = .ok (.ireturn, 1) := by decide +kernel
theorem dX6_readSign_0 : decode cX6_readSign 0 = .ok (.aload_n 0, 1) := by decide +kernel
theorem dX6_readSign_1 : decode cX6_readSign 1 = .ok (.getfield 22, 3) := by decide +kernel
theorem dX6_readSign_4 : decode cX6_readSign 4 = .ok (.ifCond .eq 4, 3) := by decide +kernel
theorem dX6_readSign_7 : decode cX6_readSign 7 = .ok (.return_, 1) := by decide +kernel
theorem dX6_readSign_8 : decode cX6_readSign 8 = .ok (.aload_n 0, 1) := by decide +kernel
theorem dX6_readSign_9 : decode cX6_readSign 9 = .ok (.invokevirtual 54, 3) := by decide +kernel
theorem dX6_readSign_12 : decode cX6_readSign 12 = .ok (.iload_n 1, 1) := by decide +kernel
theorem dX6_readSign_13 : decode cX6_readSign 13 = .ok (.if_icmp .ne 16, 3) := by decide +kernel
theorem dX6_readSign_16 : decode cX6_readSign 16 = .ok (.aload_n 0, 1) := by decide +kernel
theorem dX6_readSign_17 : decode cX6_readSign 17 = .ok (.dup, 1) := by decide +kernel
theorem dX6_readSign_18 : decode cX6_readSign 18 = .ok (.getfield 19, 3) := by decide +kernel
theorem dX6_readSign_21 : decode cX6_readSign 21 = .ok (.iconst 1, 1) := by decide +kernel
theorem dX6_readSign_22 : decode cX6_readSign 22 = .ok (.iadd, 1) := by decide +kernel
theorem dX6_readSign_23 : decode cX6_readSign 23 = .ok (.putfield 19, 3) := by decide +kernel
theorem dX6_readSign_26 : decode cX6_readSign 26 = .ok (.goto 8, 3) := by decide +kernel
theorem dX6_readSign_29 : decode cX6_readSign 29 = .ok (.aload_n 0, 1) := by decide +kernel
theorem dX6_readSign_30 : decode cX6_readSign 30 = .ok (.iconst 1, 1) := by decide +kernel
theorem dX6_readSign_31 : decode cX6_readSign 31 = .ok (.putfield 22, 3) := by decide +kernel
theorem dX6_readSign_34 : decode cX6_readSign 34 = .ok (.return_, 1) := by decide +kernel
theorem dX6_readNumber_0 : decode cX6_readNumber 0 = .ok (.aload_n 0, 1) := by decide +kernel
theorem dX6_readNumber_1 : decode cX6_readNumber 1 = .ok (.getfield 22, 3) := by decide +kernel
theorem dX6_readNumber_4 : decode cX6_readNumber 4 = .ok (.ifCond .eq 5, 3) := by decide +kernel
theorem dX6_readNumber_7 : decode cX6_readNumber 7 = .ok (.iconst 0, 1) := by decide +kernel
theorem dX6_readNumber_8 : decode cX6_readNumber 8 = .ok (.ireturn, 1) := by decide +kernel
theorem dX6_readNumber_9 : decode cX6_readNumber 9 = .ok (.aload_n 0, 1) := by decide +kernel
theorem dX6_readNumber_10 : decode cX6_readNumber 10 = .ok (.aload_n 0, 1) := by decide +kernel
theorem dX6_readNumber_11 : decode cX6_readNumber 11 = .ok (.getfield 19, 3) := by decide +kernel
theorem dX6_readNumber_14 : decode cX6_readNumber 14 = .ok (.iconst 1, 1) := by decide +kernel
theorem dX6_readNumber_15 : decode cX6_readNumber 15 = .ok (.iadd, 1) := by decide +kernel
theorem dX6_readNumber_16 : decode cX6_readNumber 16 = .ok (.invokevirtual 96, 3) := by decide +kernel
theorem dX6_readNumber_19 : decode cX6_readNumber 19 = .ok (.istore_n 3, 1) := by decide +kernel
theorem dX6_readNumber_20 : decode cX6_readNumber 20 = .ok (.aload_n 0, 1) := by decide +kernel
theorem dX6_readNumber_21 : decode cX6_readNumber 21 = .ok (.aload_n 0, 1) := by decide +kernel
theorem dX6_readNumber_22 : decode cX6_readNumber 22 = .ok (.getfield 19, 3) := by decide +kernel
theorem dX6_readNumber_25 : decode cX6_readNumber 25 = .ok (.invokevirtual 96, 3) := by decide +kernel
theorem dX6_readNumber_28 : decode cX6_readNumber 28 = .ok (.ifCond .eq 20, 3) := by decide +kernel
theorem dX6_readNumber_31 : decode cX6_readNumber 31 = .ok (.iload_n 3, 1) := by decide +kernel
theorem dX6_readNumber_32 : decode cX6_readNumber 32 = .ok (.ifCond .eq 23, 3) := by decide +kernel
theorem dX6_readNumber_35 : decode cX6_readNumber 35 = .ok (.aload_n 0, 1) := by decide +kernel
theorem dX6_readNumber_36 : decode cX6_readNumber 36 = .ok (.aload_n 0, 1) := by decide +kernel
theorem dX6_readNumber_37 : decode cX6_readNumber 37 = .ok (.getfield 19, 3) := by decide +kernel
theorem dX6_readNumber_40 : decode cX6_readNumber 40 = .ok (.iconst 2, 1) := by decide +kernel
theorem dX6_readNumber_41 : decode cX6_readNumber 41 = .ok (.iadd, 1) := by decide +kernel
theorem dX6_readNumber_42 : decode cX6_readNumber 42 = .ok (.invokevirtual 96, 3) := by decide +kernel
theorem dX6_readNumber_45 : decode cX6_readNumber 45 = .ok (.ifCond .eq 10, 3) := by decide +kernel
theorem dX6_readNumber_48 : decode cX6_readNumber 48 = .ok (.aload_n 0, 1) := by decide +kernel
theorem dX6_readNumber_49 : decode cX6_readNumber 49 = .ok (.iconst 1, 1) := by decide +kernel
theorem dX6_readNumber_50 : decode cX6_readNumber 50 = .ok (.putfield 22, 3) := by decide +kernel
theorem dX6_readNumber_53 : decode cX6_readNumber 53 = .ok (.iconst 0, 1) := by decide +kernel
theorem dX6_readNumber_54 : decode cX6_readNumber 54 = .ok (.ireturn, 1) := by decide +kernel
theorem dX6_readNumber_55 : decode cX6_readNumber 55 = .ok (.aload_n 0, 1) := by decide +kernel
theorem dX6_readNumber_56 : decode cX6_readNumber 56 = .ok (.getfield 11, 3) := by decide +kernel
theorem dX6_readNumber_59 : decode cX6_readNumber 59 = .ok (.aload_n 0, 1) := by decide +kernel
theorem dX6_readNumber_60 : decode cX6_readNumber 60 = .ok (.getfield 19, 3) := by decide +kernel
theorem dX6_readNumber_63 : decode cX6_readNumber 63 = .ok (.iaload, 1) := by decide +kernel
theorem dX6_readNumber_64 : decode cX6_readNumber 64 = .ok (.bipush 48, 2) := by decide +kernel
theorem dX6_readNumber_66 : decode cX6_readNumber 66 = .ok (.isub, 1) := by decide +kernel
theorem dX6_readNumber_67 : decode cX6_readNumber 67 = .ok (.istore 4, 2) := by decide +kernel
theorem dX6_readNumber_69 : decode cX6_readNumber 69 = .ok (.iload_n 3, 1) := by decide +kernel
theorem dX6_readNumber_70 : decode cX6_readNumber 70 = .ok (.ifCond .eq 25, 3) := by decide +kernel
theorem dX6_readNumber_73 : decode cX6_readNumber 73 = .ok (.iload 4, 2) := by decide +kernel
theorem dX6_readNumber_75 : decode cX6_readNumber 75 = .ok (.bipush 10, 2) := by decide +kernel
theorem dX6_readNumber_77 : decode cX6_readNumber 77 = .ok (.imul, 1) := by decide +kernel
theorem dX6_readNumber_78 : decode cX6_readNumber 78 = .ok (.aload_n 0, 1) := by decide +kernel
theorem dX6_readNumber_79 : decode cX6_readNumber 79 = .ok (.getfield 11, 3) := by decide +kernel
theorem dX6_readNumber_82 : decode cX6_readNumber 82 = .ok (.aload_n 0, 1) := by decide +kernel
theorem dX6_readNumber_83 : decode cX6_readNumber 83 = .ok (.getfield 19, 3) := by decide +kernel
theorem dX6_readNumber_86 : decode cX6_readNumber 86 = .ok (.iconst 1, 1) := by decide +kernel
theorem dX6_readNumber_87 : decode cX6_readNumber 87 = .ok (.iadd, 1) := by decide +kernel
theorem dX6_readNumber_88 : decode cX6_readNumber 88 = .ok (.iaload, 1) := by decide +kernel
theorem dX6_readNumber_89 : decode cX6_readNumber 89 = .ok (.iadd, 1) := by decide +kernel
theorem dX6_readNumber_90 : decode cX6_readNumber 90 = .ok (.bipush 48, 2) := by decide +kernel
theorem dX6_readNumber_92 : decode cX6_readNumber 92 = .ok (.isub, 1) := by decide +kernel
theorem dX6_readNumber_93 : decode cX6_readNumber 93 = .ok (.istore 4, 2) := by decide +kernel
theorem dX6_readNumber_95 : decode cX6_readNumber 95 = .ok (.iload 4, 2) := by decide +kernel
theorem dX6_readNumber_97 : decode cX6_readNumber 97 = .ok (.iload_n 1, 1) := by decide +kernel
theorem dX6_readNumber_98 : decode cX6_readNumber 98 = .ok (.if_icmp .lt 9, 3) := by decide +kernel
theorem dX6_readNumber_101 : decode cX6_readNumber 101 = .ok (.iload 4, 2) := by decide +kernel
theorem dX6_readNumber_103 : decode cX6_readNumber 103 = .ok (.iload_n 2, 1) := by decide +kernel
theorem dX6_readNumber_104 : decode cX6_readNumber 104 = .ok (.if_icmp .le 10, 3) := by decide +kernel
theorem dX6_readNumber_107 : decode cX6_readNumber 107 = .ok (.aload_n 0, 1) := by decide +kernel
theorem dX6_readNumber_108 : decode cX6_readNumber 108 = .ok (.iconst 2, 1) := by decide +kernel
theorem dX6_readNumber_109 : decode cX6_readNumber 109 = .ok (.putfield 22, 3) := by decide +kernel
theorem dX6_readNumber_112 : decode cX6_readNumber 112 = .ok (.iconst 0, 1) := by decide +kernel
theorem dX6_readNumber_113 : decode cX6_readNumber 113 = .ok (.ireturn, 1) := by decide +kernel
theorem dX6_readNumber_114 : decode cX6_readNumber 114 = .ok (.aload_n 0, 1) := by decide +kernel
theorem dX6_readNumber_115 : decode cX6_readNumber 115 = .ok (.dup, 1) := by decide +kernel
theorem dX6_readNumber_116 : decode cX6_readNumber 116 = .ok (.getfield 19, 3) := by decide +kernel
theorem dX6_readNumber_119 : decode cX6_readNumber 119 = .ok (.iload_n 3, 1) := by decide +kernel
theorem dX6_readNumber_120 : decode cX6_readNumber 120 = .ok (.ifCond .eq 7, 3) := by decide +kernel
theorem dX6_readNumber_123 : decode cX6_readNumber 123 = .ok (.iconst 2, 1) := by decide +kernel
theorem dX6_readNumber_124 : decode cX6_readNumber 124 = .ok (.goto 4, 3) := by decide +kernel
theorem dX6_readNumber_127 : decode cX6_readNumber 127 = .ok (.iconst 1, 1) := by decide +kernel
theorem dX6_readNumber_128 : decode cX6_readNumber 128 = .ok (.iadd, 1) := by decide +kernel
theorem dX6_readNumber_129 : decode cX6_readNumber 129 = .ok (.putfield 19, 3) := by decide +kernel
theorem dX6_readNumber_132 : decode cX6_readNumber 132 = .ok (.iload 4, 2) := by decide +kernel
theorem dX6_readNumber_134 : decode cX6_readNumber 134 = .ok (.ireturn, 1) := by decide +kernel
theorem dX3_init_0 : decode cX3_init 0 = .ok (.aload_n 0, 1) := by decide +kernel
theorem dX3_init_1 : decode cX3_init 1 = .ok (.invokespecial 3, 3) := by decide +kernel
theorem dX3_init_4 : decode cX3_init 4 = .ok (.aload_n 0, 1) := by decide +kernel
theorem dX3_init_5 : decode cX3_init 5 = .ok (.bipush 6, 2) := by decide +kernel
theorem dX3_init_7 : decode cX3_init 7 = .ok (.newarray .long, 2) := by decide +kernel
theorem dX3_init_9 : decode cX3_init 9 = .ok (.putfield 9, 3) := by decide +kernel
theorem dX3_init_12 : decode cX3_init 12 = .ok (.aload_n 0, 1) := by decide +kernel
theorem dX3_init_13 : decode cX3_init 13 = .ok (.bipush 6, 2) := by decide +kernel
theorem dX3_init_15 : decode cX3_init 15 = .ok (.newarray .long, 2) := by decide +kernel
theorem dX3_init_17 : decode cX3_init 17 = .ok (.putfield 15, 3) := by decide +kernel
theorem dX3_init_20 : decode cX3_init 20 = .ok (.aload_n 0, 1) := by decide +kernel
theorem dX3_init_21 : decode cX3_init 21 = .ok (.bipush 64, 2) := by decide +kernel
theorem dX3_init_23 : decode cX3_init 23 = .ok (.newarray .long, 2) := by decide +kernel
theorem dX3_init_25 : decode cX3_init 25 = .ok (.putfield 18, 3) := by decide +kernel
theorem dX3_init_28 : decode cX3_init 28 = .ok (.return_, 1) := by decide +kernel
theorem dX3_takePrices_0 : decode cX3_takePrices 0 = .ok (.iconst 0, 1) := by decide +kernel
theorem dX3_takePrices_1 : decode cX3_takePrices 1 = .ok (.istore 4, 2) := by decide +kernel
theorem dX3_takePrices_3 : decode cX3_takePrices 3 = .ok (.iload 4, 2) := by decide +kernel
theorem dX3_takePrices_5 : decode cX3_takePrices 5 = .ok (.iload_n 3, 1) := by decide +kernel
theorem dX3_takePrices_6 : decode cX3_takePrices 6 = .ok (.if_icmp .ge 23, 3) := by decide +kernel
theorem dX3_takePrices_9 : decode cX3_takePrices 9 = .ok (.aload_n 0, 1) := by decide +kernel
theorem dX3_takePrices_10 : decode cX3_takePrices 10 = .ok (.getfield 9, 3) := by decide +kernel
theorem dX3_takePrices_13 : decode cX3_takePrices 13 = .ok (.iload 4, 2) := by decide +kernel
theorem dX3_takePrices_15 : decode cX3_takePrices 15 = .ok (.aload_n 1, 1) := by decide +kernel
theorem dX3_takePrices_16 : decode cX3_takePrices 16 = .ok (.iload_n 2, 1) := by decide +kernel
theorem dX3_takePrices_17 : decode cX3_takePrices 17 = .ok (.iload 4, 2) := by decide +kernel
theorem dX3_takePrices_19 : decode cX3_takePrices 19 = .ok (.iadd, 1) := by decide +kernel
theorem dX3_takePrices_20 : decode cX3_takePrices 20 = .ok (.iaload, 1) := by decide +kernel
theorem dX3_takePrices_21 : decode cX3_takePrices 21 = .ok (.i2l, 1) := by decide +kernel
theorem dX3_takePrices_22 : decode cX3_takePrices 22 = .ok (.lastore, 1) := by decide +kernel
theorem dX3_takePrices_23 : decode cX3_takePrices 23 = .ok (.iinc 4 1, 3) := by decide +kernel
theorem dX3_takePrices_26 : decode cX3_takePrices 26 = .ok (.goto (-23), 3) := by decide +kernel
theorem dX3_takePrices_29 : decode cX3_takePrices 29 = .ok (.return_, 1) := by decide +kernel
theorem dX3_decide_0 : decode cX3_decide 0 = .ok (.aload_n 0, 1) := by decide +kernel
theorem dX3_decide_1 : decode cX3_decide 1 = .ok (.aload_n 1, 1) := by decide +kernel
theorem dX3_decide_2 : decode cX3_decide 2 = .ok (.iload_n 2, 1) := by decide +kernel
theorem dX3_decide_3 : decode cX3_decide 3 = .ok (.invokevirtual 21, 3) := by decide +kernel
theorem dX3_decide_6 : decode cX3_decide 6 = .ok (.aload_n 0, 1) := by decide +kernel
theorem dX3_decide_7 : decode cX3_decide 7 = .ok (.iconst (-1), 1) := by decide +kernel
theorem dX3_decide_8 : decode cX3_decide 8 = .ok (.putfield 25, 3) := by decide +kernel
theorem dX3_decide_11 : decode cX3_decide 11 = .ok (.iconst 0, 1) := by decide +kernel
theorem dX3_decide_12 : decode cX3_decide 12 = .ok (.istore_n 3, 1) := by decide +kernel
theorem dX3_decide_13 : decode cX3_decide 13 = .ok (.iload_n 3, 1) := by decide +kernel
theorem dX3_decide_14 : decode cX3_decide 14 = .ok (.aload_n 1, 1) := by decide +kernel
theorem dX3_decide_15 : decode cX3_decide 15 = .ok (.invokevirtual 29, 3) := by decide +kernel
theorem dX3_decide_18 : decode cX3_decide 18 = .ok (.if_icmp .gt 54, 3) := by decide +kernel
theorem dX3_decide_21 : decode cX3_decide 21 = .ok (.aload_n 0, 1) := by decide +kernel
theorem dX3_decide_22 : decode cX3_decide 22 = .ok (.getfield 25, 3) := by decide +kernel
theorem dX3_decide_25 : decode cX3_decide 25 = .ok (.ifCond .lt 17, 3) := by decide +kernel
theorem dX3_decide_28 : decode cX3_decide 28 = .ok (.aload_n 0, 1) := by decide +kernel
theorem dX3_decide_29 : decode cX3_decide 29 = .ok (.getfield 18, 3) := by decide +kernel
theorem dX3_decide_32 : decode cX3_decide 32 = .ok (.iload_n 3, 1) := by decide +kernel
theorem dX3_decide_33 : decode cX3_decide 33 = .ok (.laload, 1) := by decide +kernel
theorem dX3_decide_34 : decode cX3_decide 34 = .ok (.aload_n 0, 1) := by decide +kernel
theorem dX3_decide_35 : decode cX3_decide 35 = .ok (.getfield 35, 3) := by decide +kernel
theorem dX3_decide_38 : decode cX3_decide 38 = .ok (.lcmp, 1) := by decide +kernel
theorem dX3_decide_39 : decode cX3_decide 39 = .ok (.ifCond .ge 27, 3) := by decide +kernel
theorem dX3_decide_42 : decode cX3_decide 42 = .ok (.aload_n 1, 1) := by decide +kernel
theorem dX3_decide_43 : decode cX3_decide 43 = .ok (.iload_n 2, 1) := by decide +kernel
theorem dX3_decide_44 : decode cX3_decide 44 = .ok (.iload_n 3, 1) := by decide +kernel
theorem dX3_decide_45 : decode cX3_decide 45 = .ok (.invokevirtual 39, 3) := by decide +kernel
theorem dX3_decide_48 : decode cX3_decide 48 = .ok (.ifCond .eq 18, 3) := by decide +kernel
theorem dX3_decide_51 : decode cX3_decide 51 = .ok (.aload_n 0, 1) := by decide +kernel
theorem dX3_decide_52 : decode cX3_decide 52 = .ok (.iload_n 3, 1) := by decide +kernel
theorem dX3_decide_53 : decode cX3_decide 53 = .ok (.putfield 25, 3) := by decide +kernel
theorem dX3_decide_56 : decode cX3_decide 56 = .ok (.aload_n 0, 1) := by decide +kernel
theorem dX3_decide_57 : decode cX3_decide 57 = .ok (.aload_n 0, 1) := by decide +kernel
theorem dX3_decide_58 : decode cX3_decide 58 = .ok (.getfield 18, 3) := by decide +kernel
theorem dX3_decide_61 : decode cX3_decide 61 = .ok (.iload_n 3, 1) := by decide +kernel
theorem dX3_decide_62 : decode cX3_decide 62 = .ok (.laload, 1) := by decide +kernel
theorem dX3_decide_63 : decode cX3_decide 63 = .ok (.putfield 35, 3) := by decide +kernel
theorem dX3_decide_66 : decode cX3_decide 66 = .ok (.iinc 3 1, 3) := by decide +kernel
theorem dX3_decide_69 : decode cX3_decide 69 = .ok (.goto (-56), 3) := by decide +kernel
theorem dX3_decide_72 : decode cX3_decide 72 = .ok (.return_, 1) := by decide +kernel
theorem dX3_fillLosses_0 : decode cX3_fillLosses 0 = .ok (.aload_n 0, 1) := by decide +kernel
theorem dX3_fillLosses_1 : decode cX3_fillLosses 1 = .ok (.getfield 18, 3) := by decide +kernel
theorem dX3_fillLosses_4 : decode cX3_fillLosses 4 = .ok (.iconst 0, 1) := by decide +kernel
theorem dX3_fillLosses_5 : decode cX3_fillLosses 5 = .ok (.lconst 0, 1) := by decide +kernel
theorem dX3_fillLosses_6 : decode cX3_fillLosses 6 = .ok (.lastore, 1) := by decide +kernel
theorem dX3_fillLosses_7 : decode cX3_fillLosses 7 = .ok (.iconst 0, 1) := by decide +kernel
theorem dX3_fillLosses_8 : decode cX3_fillLosses 8 = .ok (.istore_n 3, 1) := by decide +kernel
theorem dX3_fillLosses_9 : decode cX3_fillLosses 9 = .ok (.iload_n 3, 1) := by decide +kernel
theorem dX3_fillLosses_10 : decode cX3_fillLosses 10 = .ok (.aload_n 1, 1) := by decide +kernel
theorem dX3_fillLosses_11 : decode cX3_fillLosses 11 = .ok (.getfield 43, 3) := by decide +kernel
theorem dX3_fillLosses_14 : decode cX3_fillLosses 14 = .ok (.if_icmp .ge 105, 3) := by decide +kernel
theorem dX3_fillLosses_17 : decode cX3_fillLosses 17 = .ok (.iconst 1, 1) := by decide +kernel
theorem dX3_fillLosses_18 : decode cX3_fillLosses 18 = .ok (.iload_n 3, 1) := by decide +kernel
theorem dX3_fillLosses_19 : decode cX3_fillLosses 19 = .ok (.ishl, 1) := by decide +kernel
theorem dX3_fillLosses_20 : decode cX3_fillLosses 20 = .ok (.istore 4, 2) := by decide +kernel
theorem dX3_fillLosses_22 : decode cX3_fillLosses 22 = .ok (.aload_n 0, 1) := by decide +kernel
theorem dX3_fillLosses_23 : decode cX3_fillLosses 23 = .ok (.aload_n 1, 1) := by decide +kernel
theorem dX3_fillLosses_24 : decode cX3_fillLosses 24 = .ok (.iload_n 2, 1) := by decide +kernel
theorem dX3_fillLosses_25 : decode cX3_fillLosses 25 = .ok (.iload_n 3, 1) := by decide +kernel
theorem dX3_fillLosses_26 : decode cX3_fillLosses 26 = .ok (.iconst 0, 1) := by decide +kernel
theorem dX3_fillLosses_27 : decode cX3_fillLosses 27 = .ok (.invokevirtual 46, 3) := by decide +kernel
theorem dX3_fillLosses_30 : decode cX3_fillLosses 30 = .ok (.lstore 5, 2) := by decide +kernel
theorem dX3_fillLosses_32 : decode cX3_fillLosses 32 = .ok (.aload_n 0, 1) := by decide +kernel
theorem dX3_fillLosses_33 : decode cX3_fillLosses 33 = .ok (.aload_n 1, 1) := by decide +kernel
theorem dX3_fillLosses_34 : decode cX3_fillLosses 34 = .ok (.iload_n 2, 1) := by decide +kernel
theorem dX3_fillLosses_35 : decode cX3_fillLosses 35 = .ok (.iload_n 3, 1) := by decide +kernel
theorem dX3_fillLosses_36 : decode cX3_fillLosses 36 = .ok (.iconst 1, 1) := by decide +kernel
theorem dX3_fillLosses_37 : decode cX3_fillLosses 37 = .ok (.invokevirtual 46, 3) := by decide +kernel
theorem dX3_fillLosses_40 : decode cX3_fillLosses 40 = .ok (.aload_n 1, 1) := by decide +kernel
theorem dX3_fillLosses_41 : decode cX3_fillLosses 41 = .ok (.getfield 50, 3) := by decide +kernel
theorem dX3_fillLosses_44 : decode cX3_fillLosses 44 = .ok (.iload_n 2, 1) := by decide +kernel
theorem dX3_fillLosses_45 : decode cX3_fillLosses 45 = .ok (.iaload, 1) := by decide +kernel
theorem dX3_fillLosses_46 : decode cX3_fillLosses 46 = .ok (.i2l, 1) := by decide +kernel
theorem dX3_fillLosses_47 : decode cX3_fillLosses 47 = .ok (.ladd, 1) := by decide +kernel
theorem dX3_fillLosses_48 : decode cX3_fillLosses 48 = .ok (.lstore 7, 2) := by decide +kernel
theorem dX3_fillLosses_50 : decode cX3_fillLosses 50 = .ok (.iconst 0, 1) := by decide +kernel
theorem dX3_fillLosses_51 : decode cX3_fillLosses 51 = .ok (.istore 9, 2) := by decide +kernel
theorem dX3_fillLosses_53 : decode cX3_fillLosses 53 = .ok (.iload 9, 2) := by decide +kernel
theorem dX3_fillLosses_55 : decode cX3_fillLosses 55 = .ok (.iload 4, 2) := by decide +kernel
theorem dX3_fillLosses_57 : decode cX3_fillLosses 57 = .ok (.if_icmp .ge 56, 3) := by decide +kernel
theorem dX3_fillLosses_60 : decode cX3_fillLosses 60 = .ok (.iload 9, 2) := by decide +kernel
theorem dX3_fillLosses_62 : decode cX3_fillLosses 62 = .ok (.iload 4, 2) := by decide +kernel
theorem dX3_fillLosses_64 : decode cX3_fillLosses 64 = .ok (.iconst 1, 1) := by decide +kernel
theorem dX3_fillLosses_65 : decode cX3_fillLosses 65 = .ok (.ishr, 1) := by decide +kernel
theorem dX3_fillLosses_66 : decode cX3_fillLosses 66 = .ok (.iand, 1) := by decide +kernel
theorem dX3_fillLosses_67 : decode cX3_fillLosses 67 = .ok (.ifCond .eq 7, 3) := by decide +kernel
theorem dX3_fillLosses_70 : decode cX3_fillLosses 70 = .ok (.iconst 1, 1) := by decide +kernel
theorem dX3_fillLosses_71 : decode cX3_fillLosses 71 = .ok (.goto 4, 3) := by decide +kernel
theorem dX3_fillLosses_74 : decode cX3_fillLosses 74 = .ok (.iconst 0, 1) := by decide +kernel
theorem dX3_fillLosses_75 : decode cX3_fillLosses 75 = .ok (.istore 10, 2) := by decide +kernel
theorem dX3_fillLosses_77 : decode cX3_fillLosses 77 = .ok (.aload_n 0, 1) := by decide +kernel
theorem dX3_fillLosses_78 : decode cX3_fillLosses 78 = .ok (.getfield 18, 3) := by decide +kernel
theorem dX3_fillLosses_81 : decode cX3_fillLosses 81 = .ok (.iload 9, 2) := by decide +kernel
theorem dX3_fillLosses_83 : decode cX3_fillLosses 83 = .ok (.iload 4, 2) := by decide +kernel
theorem dX3_fillLosses_85 : decode cX3_fillLosses 85 = .ok (.ior, 1) := by decide +kernel
theorem dX3_fillLosses_86 : decode cX3_fillLosses 86 = .ok (.aload_n 0, 1) := by decide +kernel
theorem dX3_fillLosses_87 : decode cX3_fillLosses 87 = .ok (.getfield 18, 3) := by decide +kernel
theorem dX3_fillLosses_90 : decode cX3_fillLosses 90 = .ok (.iload 9, 2) := by decide +kernel
theorem dX3_fillLosses_92 : decode cX3_fillLosses 92 = .ok (.laload, 1) := by decide +kernel
theorem dX3_fillLosses_93 : decode cX3_fillLosses 93 = .ok (.iload 10, 2) := by decide +kernel
theorem dX3_fillLosses_95 : decode cX3_fillLosses 95 = .ok (.ifCond .eq 8, 3) := by decide +kernel
theorem dX3_fillLosses_98 : decode cX3_fillLosses 98 = .ok (.lload 5, 2) := by decide +kernel
theorem dX3_fillLosses_100 : decode cX3_fillLosses 100 = .ok (.goto 5, 3) := by decide +kernel
theorem dX3_fillLosses_103 : decode cX3_fillLosses 103 = .ok (.lload 7, 2) := by decide +kernel
theorem dX3_fillLosses_105 : decode cX3_fillLosses 105 = .ok (.ladd, 1) := by decide +kernel
theorem dX3_fillLosses_106 : decode cX3_fillLosses 106 = .ok (.lastore, 1) := by decide +kernel
theorem dX3_fillLosses_107 : decode cX3_fillLosses 107 = .ok (.iinc 9 1, 3) := by decide +kernel
theorem dX3_fillLosses_110 : decode cX3_fillLosses 110 = .ok (.goto (-57), 3) := by decide +kernel
theorem dX3_fillLosses_113 : decode cX3_fillLosses 113 = .ok (.iinc 3 1, 3) := by decide +kernel
theorem dX3_fillLosses_116 : decode cX3_fillLosses 116 = .ok (.goto (-107), 3) := by decide +kernel
theorem dX3_fillLosses_119 : decode cX3_fillLosses 119 = .ok (.return_, 1) := by decide +kernel
theorem dX3_lossIn_0 : decode cX3_lossIn 0 = .ok (.aload_n 0, 1) := by decide +kernel
theorem dX3_lossIn_1 : decode cX3_lossIn 1 = .ok (.aload_n 1, 1) := by decide +kernel
theorem dX3_lossIn_2 : decode cX3_lossIn 2 = .ok (.iload_n 2, 1) := by decide +kernel
theorem dX3_lossIn_3 : decode cX3_lossIn 3 = .ok (.iload_n 3, 1) := by decide +kernel
theorem dX3_lossIn_4 : decode cX3_lossIn 4 = .ok (.iload 4, 2) := by decide +kernel
theorem dX3_lossIn_6 : decode cX3_lossIn 6 = .ok (.invokevirtual 54, 3) := by decide +kernel
theorem dX3_lossIn_9 : decode cX3_lossIn 9 = .ok (.aload_n 1, 1) := by decide +kernel
theorem dX3_lossIn_10 : decode cX3_lossIn 10 = .ok (.getfield 57, 3) := by decide +kernel
theorem dX3_lossIn_13 : decode cX3_lossIn 13 = .ok (.iload_n 2, 1) := by decide +kernel
theorem dX3_lossIn_14 : decode cX3_lossIn 14 = .ok (.iaload, 1) := by decide +kernel
theorem dX3_lossIn_15 : decode cX3_lossIn 15 = .ok (.i2l, 1) := by decide +kernel
theorem dX3_lossIn_16 : decode cX3_lossIn 16 = .ok (.aload_n 0, 1) := by decide +kernel
theorem dX3_lossIn_17 : decode cX3_lossIn 17 = .ok (.getfield 9, 3) := by decide +kernel
theorem dX3_lossIn_20 : decode cX3_lossIn 20 = .ok (.iload_n 3, 1) := by decide +kernel
theorem dX3_lossIn_21 : decode cX3_lossIn 21 = .ok (.laload, 1) := by decide +kernel
theorem dX3_lossIn_22 : decode cX3_lossIn 22 = .ok (.lsub, 1) := by decide +kernel
theorem dX3_lossIn_23 : decode cX3_lossIn 23 = .ok (.lmul, 1) := by decide +kernel
theorem dX3_lossIn_24 : decode cX3_lossIn 24 = .ok (.lreturn, 1) := by decide +kernel
theorem dX3_powerIn_0 : decode cX3_powerIn 0 = .ok (.aload_n 1, 1) := by decide +kernel
theorem dX3_powerIn_1 : decode cX3_powerIn 1 = .ok (.getfield 57, 3) := by decide +kernel
theorem dX3_powerIn_4 : decode cX3_powerIn 4 = .ok (.iload_n 2, 1) := by decide +kernel
theorem dX3_powerIn_5 : decode cX3_powerIn 5 = .ok (.iaload, 1) := by decide +kernel
theorem dX3_powerIn_6 : decode cX3_powerIn 6 = .ok (.i2l, 1) := by decide +kernel
theorem dX3_powerIn_7 : decode cX3_powerIn 7 = .ok (.aload_n 0, 1) := by decide +kernel
theorem dX3_powerIn_8 : decode cX3_powerIn 8 = .ok (.getfield 9, 3) := by decide +kernel
theorem dX3_powerIn_11 : decode cX3_powerIn 11 = .ok (.iload_n 3, 1) := by decide +kernel
theorem dX3_powerIn_12 : decode cX3_powerIn 12 = .ok (.laload, 1) := by decide +kernel
theorem dX3_powerIn_13 : decode cX3_powerIn 13 = .ok (.lcmp, 1) := by decide +kernel
theorem dX3_powerIn_14 : decode cX3_powerIn 14 = .ok (.ifCond .lt 11, 3) := by decide +kernel
theorem dX3_powerIn_17 : decode cX3_powerIn 17 = .ok (.aload_n 1, 1) := by decide +kernel
theorem dX3_powerIn_18 : decode cX3_powerIn 18 = .ok (.getfield 59, 3) := by decide +kernel
theorem dX3_powerIn_21 : decode cX3_powerIn 21 = .ok (.iload_n 2, 1) := by decide +kernel
theorem dX3_powerIn_22 : decode cX3_powerIn 22 = .ok (.iaload, 1) := by decide +kernel
theorem dX3_powerIn_23 : decode cX3_powerIn 23 = .ok (.i2l, 1) := by decide +kernel
theorem dX3_powerIn_24 : decode cX3_powerIn 24 = .ok (.lreturn, 1) := by decide +kernel
theorem dX3_powerIn_25 : decode cX3_powerIn 25 = .ok (.iload 4, 2) := by decide +kernel
theorem dX3_powerIn_27 : decode cX3_powerIn 27 = .ok (.ifCond .eq 13, 3) := by decide +kernel
theorem dX3_powerIn_30 : decode cX3_powerIn 30 = .ok (.aload_n 1, 1) := by decide +kernel
theorem dX3_powerIn_31 : decode cX3_powerIn 31 = .ok (.getfield 62, 3) := by decide +kernel
theorem dX3_powerIn_34 : decode cX3_powerIn 34 = .ok (.iload_n 2, 1) := by decide +kernel
theorem dX3_powerIn_35 : decode cX3_powerIn 35 = .ok (.iaload, 1) := by decide +kernel
theorem dX3_powerIn_36 : decode cX3_powerIn 36 = .ok (.i2l, 1) := by decide +kernel
theorem dX3_powerIn_37 : decode cX3_powerIn 37 = .ok (.goto 10, 3) := by decide +kernel
theorem dX3_powerIn_40 : decode cX3_powerIn 40 = .ok (.aload_n 1, 1) := by decide +kernel
theorem dX3_powerIn_41 : decode cX3_powerIn 41 = .ok (.getfield 65, 3) := by decide +kernel
theorem dX3_powerIn_44 : decode cX3_powerIn 44 = .ok (.iload_n 2, 1) := by decide +kernel
theorem dX3_powerIn_45 : decode cX3_powerIn 45 = .ok (.iaload, 1) := by decide +kernel
theorem dX3_powerIn_46 : decode cX3_powerIn 46 = .ok (.i2l, 1) := by decide +kernel
theorem dX3_powerIn_47 : decode cX3_powerIn 47 = .ok (.lreturn, 1) := by decide +kernel
theorem dX3_givenIn_0 : decode cX3_givenIn 0 = .ok (.aload_n 0, 1) := by decide +kernel
theorem dX3_givenIn_1 : decode cX3_givenIn 1 = .ok (.getfield 25, 3) := by decide +kernel
theorem dX3_givenIn_4 : decode cX3_givenIn 4 = .ok (.iload_n 3, 1) := by decide +kernel
theorem dX3_givenIn_5 : decode cX3_givenIn 5 = .ok (.ishr, 1) := by decide +kernel
theorem dX3_givenIn_6 : decode cX3_givenIn 6 = .ok (.iconst 1, 1) := by decide +kernel
theorem dX3_givenIn_7 : decode cX3_givenIn 7 = .ok (.iand, 1) := by decide +kernel
theorem dX3_givenIn_8 : decode cX3_givenIn 8 = .ok (.ifCond .ne 5, 3) := by decide +kernel
theorem dX3_givenIn_11 : decode cX3_givenIn 11 = .ok (.lconst 0, 1) := by decide +kernel
theorem dX3_givenIn_12 : decode cX3_givenIn 12 = .ok (.lreturn, 1) := by decide +kernel
theorem dX3_givenIn_13 : decode cX3_givenIn 13 = .ok (.aload_n 0, 1) := by decide +kernel
theorem dX3_givenIn_14 : decode cX3_givenIn 14 = .ok (.aload_n 1, 1) := by decide +kernel
theorem dX3_givenIn_15 : decode cX3_givenIn 15 = .ok (.iload_n 2, 1) := by decide +kernel
theorem dX3_givenIn_16 : decode cX3_givenIn 16 = .ok (.iload_n 3, 1) := by decide +kernel
theorem dX3_givenIn_17 : decode cX3_givenIn 17 = .ok (.aload_n 0, 1) := by decide +kernel
theorem dX3_givenIn_18 : decode cX3_givenIn 18 = .ok (.getfield 25, 3) := by decide +kernel
theorem dX3_givenIn_21 : decode cX3_givenIn 21 = .ok (.invokestatic 68, 3) := by decide +kernel
theorem dX3_givenIn_24 : decode cX3_givenIn 24 = .ok (.iload_n 3, 1) := by decide +kernel
theorem dX3_givenIn_25 : decode cX3_givenIn 25 = .ok (.ishr, 1) := by decide +kernel
theorem dX3_givenIn_26 : decode cX3_givenIn 26 = .ok (.iconst 1, 1) := by decide +kernel
theorem dX3_givenIn_27 : decode cX3_givenIn 27 = .ok (.iand, 1) := by decide +kernel
theorem dX3_givenIn_28 : decode cX3_givenIn 28 = .ok (.iconst 1, 1) := by decide +kernel
theorem dX3_givenIn_29 : decode cX3_givenIn 29 = .ok (.if_icmp .ne 7, 3) := by decide +kernel
theorem dX3_givenIn_32 : decode cX3_givenIn 32 = .ok (.iconst 1, 1) := by decide +kernel
theorem dX3_givenIn_33 : decode cX3_givenIn 33 = .ok (.goto 4, 3) := by decide +kernel
theorem dX3_givenIn_36 : decode cX3_givenIn 36 = .ok (.iconst 0, 1) := by decide +kernel
theorem dX3_givenIn_37 : decode cX3_givenIn 37 = .ok (.invokevirtual 54, 3) := by decide +kernel
theorem dX3_givenIn_40 : decode cX3_givenIn 40 = .ok (.lreturn, 1) := by decide +kernel
theorem dX3_boundOf_0 : decode cX3_boundOf 0 = .ok (.lconst 0, 1) := by decide +kernel
theorem dX3_boundOf_1 : decode cX3_boundOf 1 = .ok (.lstore_n 2, 1) := by decide +kernel
theorem dX3_boundOf_2 : decode cX3_boundOf 2 = .ok (.iconst 0, 1) := by decide +kernel
theorem dX3_boundOf_3 : decode cX3_boundOf 3 = .ok (.istore 4, 2) := by decide +kernel
theorem dX3_boundOf_5 : decode cX3_boundOf 5 = .ok (.iload 4, 2) := by decide +kernel
theorem dX3_boundOf_7 : decode cX3_boundOf 7 = .ok (.aload_n 1, 1) := by decide +kernel
theorem dX3_boundOf_8 : decode cX3_boundOf 8 = .ok (.getfield 43, 3) := by decide +kernel
theorem dX3_boundOf_11 : decode cX3_boundOf 11 = .ok (.if_icmp .ge 36, 3) := by decide +kernel
theorem dX3_boundOf_14 : decode cX3_boundOf 14 = .ok (.lload_n 2, 1) := by decide +kernel
theorem dX3_boundOf_15 : decode cX3_boundOf 15 = .ok (.aload_n 1, 1) := by decide +kernel
theorem dX3_boundOf_16 : decode cX3_boundOf 16 = .ok (.getfield 72, 3) := by decide +kernel
theorem dX3_boundOf_19 : decode cX3_boundOf 19 = .ok (.iload 4, 2) := by decide +kernel
theorem dX3_boundOf_21 : decode cX3_boundOf 21 = .ok (.iaload, 1) := by decide +kernel
theorem dX3_boundOf_22 : decode cX3_boundOf 22 = .ok (.i2l, 1) := by decide +kernel
theorem dX3_boundOf_23 : decode cX3_boundOf 23 = .ok (.aload_n 0, 1) := by decide +kernel
theorem dX3_boundOf_24 : decode cX3_boundOf 24 = .ok (.getfield 9, 3) := by decide +kernel
theorem dX3_boundOf_27 : decode cX3_boundOf 27 = .ok (.iload 4, 2) := by decide +kernel
theorem dX3_boundOf_29 : decode cX3_boundOf 29 = .ok (.laload, 1) := by decide +kernel
theorem dX3_boundOf_30 : decode cX3_boundOf 30 = .ok (.lmul, 1) := by decide +kernel
theorem dX3_boundOf_31 : decode cX3_boundOf 31 = .ok (.ladd, 1) := by decide +kernel
theorem dX3_boundOf_32 : decode cX3_boundOf 32 = .ok (.lstore_n 2, 1) := by decide +kernel
theorem dX3_boundOf_33 : decode cX3_boundOf 33 = .ok (.aload_n 0, 1) := by decide +kernel
theorem dX3_boundOf_34 : decode cX3_boundOf 34 = .ok (.getfield 15, 3) := by decide +kernel
theorem dX3_boundOf_37 : decode cX3_boundOf 37 = .ok (.iload 4, 2) := by decide +kernel
theorem dX3_boundOf_39 : decode cX3_boundOf 39 = .ok (.lconst 0, 1) := by decide +kernel
theorem dX3_boundOf_40 : decode cX3_boundOf 40 = .ok (.lastore, 1) := by decide +kernel
theorem dX3_boundOf_41 : decode cX3_boundOf 41 = .ok (.iinc 4 1, 3) := by decide +kernel
theorem dX3_boundOf_44 : decode cX3_boundOf 44 = .ok (.goto (-39), 3) := by decide +kernel
theorem dX3_boundOf_47 : decode cX3_boundOf 47 = .ok (.iconst 0, 1) := by decide +kernel
theorem dX3_boundOf_48 : decode cX3_boundOf 48 = .ok (.istore 4, 2) := by decide +kernel
theorem dX3_boundOf_50 : decode cX3_boundOf 50 = .ok (.iload 4, 2) := by decide +kernel
theorem dX3_boundOf_52 : decode cX3_boundOf 52 = .ok (.aload_n 1, 1) := by decide +kernel
theorem dX3_boundOf_53 : decode cX3_boundOf 53 = .ok (.getfield 75, 3) := by decide +kernel
theorem dX3_boundOf_56 : decode cX3_boundOf 56 = .ok (.if_icmp .ge 60, 3) := by decide +kernel
theorem dX3_boundOf_59 : decode cX3_boundOf 59 = .ok (.aload_n 0, 1) := by decide +kernel
theorem dX3_boundOf_60 : decode cX3_boundOf 60 = .ok (.aload_n 1, 1) := by decide +kernel
theorem dX3_boundOf_61 : decode cX3_boundOf 61 = .ok (.iload 4, 2) := by decide +kernel
theorem dX3_boundOf_63 : decode cX3_boundOf 63 = .ok (.invokevirtual 78, 3) := by decide +kernel
theorem dX3_boundOf_66 : decode cX3_boundOf 66 = .ok (.lload_n 2, 1) := by decide +kernel
theorem dX3_boundOf_67 : decode cX3_boundOf 67 = .ok (.aload_n 0, 1) := by decide +kernel
theorem dX3_boundOf_68 : decode cX3_boundOf 68 = .ok (.getfield 35, 3) := by decide +kernel
theorem dX3_boundOf_71 : decode cX3_boundOf 71 = .ok (.ladd, 1) := by decide +kernel
theorem dX3_boundOf_72 : decode cX3_boundOf 72 = .ok (.lstore_n 2, 1) := by decide +kernel
theorem dX3_boundOf_73 : decode cX3_boundOf 73 = .ok (.iconst 0, 1) := by decide +kernel
theorem dX3_boundOf_74 : decode cX3_boundOf 74 = .ok (.istore 5, 2) := by decide +kernel
theorem dX3_boundOf_76 : decode cX3_boundOf 76 = .ok (.iload 5, 2) := by decide +kernel
theorem dX3_boundOf_78 : decode cX3_boundOf 78 = .ok (.aload_n 1, 1) := by decide +kernel
theorem dX3_boundOf_79 : decode cX3_boundOf 79 = .ok (.getfield 43, 3) := by decide +kernel
theorem dX3_boundOf_82 : decode cX3_boundOf 82 = .ok (.if_icmp .ge 28, 3) := by decide +kernel
theorem dX3_boundOf_85 : decode cX3_boundOf 85 = .ok (.aload_n 0, 1) := by decide +kernel
theorem dX3_boundOf_86 : decode cX3_boundOf 86 = .ok (.getfield 15, 3) := by decide +kernel
theorem dX3_boundOf_89 : decode cX3_boundOf 89 = .ok (.iload 5, 2) := by decide +kernel
theorem dX3_boundOf_91 : decode cX3_boundOf 91 = .ok (.dup2, 1) := by decide +kernel
theorem dX3_boundOf_92 : decode cX3_boundOf 92 = .ok (.laload, 1) := by decide +kernel
theorem dX3_boundOf_93 : decode cX3_boundOf 93 = .ok (.aload_n 0, 1) := by decide +kernel
theorem dX3_boundOf_94 : decode cX3_boundOf 94 = .ok (.aload_n 1, 1) := by decide +kernel
theorem dX3_boundOf_95 : decode cX3_boundOf 95 = .ok (.iload 4, 2) := by decide +kernel
theorem dX3_boundOf_97 : decode cX3_boundOf 97 = .ok (.iload 5, 2) := by decide +kernel
theorem dX3_boundOf_99 : decode cX3_boundOf 99 = .ok (.invokevirtual 81, 3) := by decide +kernel
theorem dX3_boundOf_102 : decode cX3_boundOf 102 = .ok (.ladd, 1) := by decide +kernel
theorem dX3_boundOf_103 : decode cX3_boundOf 103 = .ok (.lastore, 1) := by decide +kernel
theorem dX3_boundOf_104 : decode cX3_boundOf 104 = .ok (.iinc 5 1, 3) := by decide +kernel
theorem dX3_boundOf_107 : decode cX3_boundOf 107 = .ok (.goto (-31), 3) := by decide +kernel
theorem dX3_boundOf_110 : decode cX3_boundOf 110 = .ok (.iinc 4 1, 3) := by decide +kernel
theorem dX3_boundOf_113 : decode cX3_boundOf 113 = .ok (.goto (-63), 3) := by decide +kernel
theorem dX3_boundOf_116 : decode cX3_boundOf 116 = .ok (.lload_n 2, 1) := by decide +kernel
theorem dX3_boundOf_117 : decode cX3_boundOf 117 = .ok (.lreturn, 1) := by decide +kernel
theorem dX3_movePrices_0 : decode cX3_movePrices 0 = .ok (.aload_n 0, 1) := by decide +kernel
theorem dX3_movePrices_1 : decode cX3_movePrices 1 = .ok (.getfield 9, 3) := by decide +kernel
theorem dX3_movePrices_4 : decode cX3_movePrices 4 = .ok (.lconst 0, 1) := by decide +kernel
theorem dX3_movePrices_5 : decode cX3_movePrices 5 = .ok (.invokestatic 85, 3) := by decide +kernel
theorem dX3_movePrices_8 : decode cX3_movePrices 8 = .ok (.aload_n 0, 1) := by decide +kernel
theorem dX3_movePrices_9 : decode cX3_movePrices 9 = .ok (.aload_n 1, 1) := by decide +kernel
theorem dX3_movePrices_10 : decode cX3_movePrices 10 = .ok (.invokevirtual 91, 3) := by decide +kernel
theorem dX3_movePrices_13 : decode cX3_movePrices 13 = .ok (.lstore_n 3, 1) := by decide +kernel
theorem dX3_movePrices_14 : decode cX3_movePrices 14 = .ok (.iconst 0, 1) := by decide +kernel
theorem dX3_movePrices_15 : decode cX3_movePrices 15 = .ok (.istore 5, 2) := by decide +kernel
theorem dX3_movePrices_17 : decode cX3_movePrices 17 = .ok (.iload 5, 2) := by decide +kernel
theorem dX3_movePrices_19 : decode cX3_movePrices 19 = .ok (.iload_n 2, 1) := by decide +kernel
theorem dX3_movePrices_20 : decode cX3_movePrices 20 = .ok (.if_icmp .ge 72, 3) := by decide +kernel
theorem dX3_movePrices_23 : decode cX3_movePrices 23 = .ok (.iconst 0, 1) := by decide +kernel
theorem dX3_movePrices_24 : decode cX3_movePrices 24 = .ok (.istore 6, 2) := by decide +kernel
theorem dX3_movePrices_26 : decode cX3_movePrices 26 = .ok (.iload 6, 2) := by decide +kernel
theorem dX3_movePrices_28 : decode cX3_movePrices 28 = .ok (.aload_n 1, 1) := by decide +kernel
theorem dX3_movePrices_29 : decode cX3_movePrices 29 = .ok (.getfield 43, 3) := by decide +kernel
theorem dX3_movePrices_32 : decode cX3_movePrices 32 = .ok (.if_icmp .ge 44, 3) := by decide +kernel
theorem dX3_movePrices_35 : decode cX3_movePrices 35 = .ok (.aload_n 0, 1) := by decide +kernel
theorem dX3_movePrices_36 : decode cX3_movePrices 36 = .ok (.getfield 9, 3) := by decide +kernel
theorem dX3_movePrices_39 : decode cX3_movePrices 39 = .ok (.iload 6, 2) := by decide +kernel
theorem dX3_movePrices_41 : decode cX3_movePrices 41 = .ok (.lconst 0, 1) := by decide +kernel
theorem dX3_movePrices_42 : decode cX3_movePrices 42 = .ok (.aload_n 0, 1) := by decide +kernel
theorem dX3_movePrices_43 : decode cX3_movePrices 43 = .ok (.getfield 9, 3) := by decide +kernel
theorem dX3_movePrices_46 : decode cX3_movePrices 46 = .ok (.iload 6, 2) := by decide +kernel
theorem dX3_movePrices_48 : decode cX3_movePrices 48 = .ok (.laload, 1) := by decide +kernel
theorem dX3_movePrices_49 : decode cX3_movePrices 49 = .ok (.aload_n 1, 1) := by decide +kernel
theorem dX3_movePrices_50 : decode cX3_movePrices 50 = .ok (.getfield 72, 3) := by decide +kernel
theorem dX3_movePrices_53 : decode cX3_movePrices 53 = .ok (.iload 6, 2) := by decide +kernel
theorem dX3_movePrices_55 : decode cX3_movePrices 55 = .ok (.iaload, 1) := by decide +kernel
theorem dX3_movePrices_56 : decode cX3_movePrices 56 = .ok (.i2l, 1) := by decide +kernel
theorem dX3_movePrices_57 : decode cX3_movePrices 57 = .ok (.ladd, 1) := by decide +kernel
theorem dX3_movePrices_58 : decode cX3_movePrices 58 = .ok (.aload_n 0, 1) := by decide +kernel
theorem dX3_movePrices_59 : decode cX3_movePrices 59 = .ok (.getfield 15, 3) := by decide +kernel
theorem dX3_movePrices_62 : decode cX3_movePrices 62 = .ok (.iload 6, 2) := by decide +kernel
theorem dX3_movePrices_64 : decode cX3_movePrices 64 = .ok (.laload, 1) := by decide +kernel
theorem dX3_movePrices_65 : decode cX3_movePrices 65 = .ok (.lsub, 1) := by decide +kernel
theorem dX3_movePrices_66 : decode cX3_movePrices 66 = .ok (.invokestatic 95, 3) := by decide +kernel
theorem dX3_movePrices_69 : decode cX3_movePrices 69 = .ok (.lastore, 1) := by decide +kernel
theorem dX3_movePrices_70 : decode cX3_movePrices 70 = .ok (.iinc 6 1, 3) := by decide +kernel
theorem dX3_movePrices_73 : decode cX3_movePrices 73 = .ok (.goto (-47), 3) := by decide +kernel
theorem dX3_movePrices_76 : decode cX3_movePrices 76 = .ok (.lload_n 3, 1) := by decide +kernel
theorem dX3_movePrices_77 : decode cX3_movePrices 77 = .ok (.aload_n 0, 1) := by decide +kernel
theorem dX3_movePrices_78 : decode cX3_movePrices 78 = .ok (.aload_n 1, 1) := by decide +kernel
theorem dX3_movePrices_79 : decode cX3_movePrices 79 = .ok (.invokevirtual 91, 3) := by decide +kernel
theorem dX3_movePrices_82 : decode cX3_movePrices 82 = .ok (.invokestatic 95, 3) := by decide +kernel
theorem dX3_movePrices_85 : decode cX3_movePrices 85 = .ok (.lstore_n 3, 1) := by decide +kernel
theorem dX3_movePrices_86 : decode cX3_movePrices 86 = .ok (.iinc 5 1, 3) := by decide +kernel
theorem dX3_movePrices_89 : decode cX3_movePrices 89 = .ok (.goto (-72), 3) := by decide +kernel
theorem dX3_movePrices_92 : decode cX3_movePrices 92 = .ok (.lload_n 3, 1) := by decide +kernel
theorem dX3_movePrices_93 : decode cX3_movePrices 93 = .ok (.lreturn, 1) := by decide +kernel
theorem dX2_init_0 : decode cX2_init 0 = .ok (.aload_n 0, 1) := by decide +kernel
theorem dX2_init_1 : decode cX2_init 1 = .ok (.invokespecial 3, 3) := by decide +kernel
theorem dX2_init_4 : decode cX2_init 4 = .ok (.aload_n 0, 1) := by decide +kernel
theorem dX2_init_5 : decode cX2_init 5 = .ok (.bipush 6, 2) := by decide +kernel
theorem dX2_init_7 : decode cX2_init 7 = .ok (.newarray .int, 2) := by decide +kernel
theorem dX2_init_9 : decode cX2_init 9 = .ok (.putfield 9, 3) := by decide +kernel
theorem dX2_init_12 : decode cX2_init 12 = .ok (.aload_n 0, 1) := by decide +kernel
theorem dX2_init_13 : decode cX2_init 13 = .ok (.iconst 4, 1) := by decide +kernel
theorem dX2_init_14 : decode cX2_init 14 = .ok (.newarray .int, 2) := by decide +kernel
theorem dX2_init_16 : decode cX2_init 16 = .ok (.putfield 15, 3) := by decide +kernel
theorem dX2_init_19 : decode cX2_init 19 = .ok (.aload_n 0, 1) := by decide +kernel
