theorem dX8_best_9 : decode cX8_best 9 = .ok (.ireturn, 1) := by decide +kernel
theorem dX8_best_10 : decode cX8_best 10 = .ok (.iload_n 1, 1) := by decide +kernel
theorem dX8_best_11 : decode cX8_best 11 = .ok (.iconst (-1), 1) := by decide +kernel
theorem dX8_best_12 : decode cX8_best 12 = .ok (.if_icmp .eq 14, 3) := by decide +kernel
theorem dX8_best_15 : decode cX8_best 15 = .ok (.aload_n 0, 1) := by decide +kernel
theorem dX8_best_16 : decode cX8_best 16 = .ok (.iload_n 1, 1) := by decide +kernel
theorem dX8_best_17 : decode cX8_best 17 = .ok (.invokevirtual 233, 3) := by decide +kernel
theorem dX8_best_20 : decode cX8_best 20 = .ok (.ifCond .ne 6, 3) := by decide +kernel
theorem dX8_best_23 : decode cX8_best 23 = .ok (.ldc 80, 2) := by decide +kernel
theorem dX8_best_25 : decode cX8_best 25 = .ok (.ireturn, 1) := by decide +kernel
theorem dX8_best_26 : decode cX8_best 26 = .ok (.aload_n 0, 1) := by decide +kernel
theorem dX8_best_27 : decode cX8_best 27 = .ok (.aload_n 0, 1) := by decide +kernel
theorem dX8_best_28 : decode cX8_best 28 = .ok (.getfield 25, 3) := by decide +kernel
theorem dX8_best_31 : decode cX8_best 31 = .ok (.ldc 66, 2) := by decide +kernel
theorem dX8_best_33 : decode cX8_best 33 = .ok (.invokevirtual 230, 3) := by decide +kernel
theorem dX8_best_36 : decode cX8_best 36 = .ok (.istore_n 2, 1) := by decide +kernel
theorem dX8_best_37 : decode cX8_best 37 = .ok (.iload_n 2, 1) := by decide +kernel
theorem dX8_best_38 : decode cX8_best 38 = .ok (.ldc 66, 2) := by decide +kernel
theorem dX8_best_40 : decode cX8_best 40 = .ok (.if_icmp .eq 8, 3) := by decide +kernel
theorem dX8_best_43 : decode cX8_best 43 = .ok (.iload_n 1, 1) := by decide +kernel
theorem dX8_best_44 : decode cX8_best 44 = .ok (.iconst (-1), 1) := by decide +kernel
theorem dX8_best_45 : decode cX8_best 45 = .ok (.if_icmp .ne 7, 3) := by decide +kernel
theorem dX8_best_48 : decode cX8_best 48 = .ok (.iload_n 2, 1) := by decide +kernel
theorem dX8_best_49 : decode cX8_best 49 = .ok (.goto 9, 3) := by decide +kernel
theorem dX8_best_52 : decode cX8_best 52 = .ok (.aload_n 0, 1) := by decide +kernel
theorem dX8_best_53 : decode cX8_best 53 = .ok (.getfield 53, 3) := by decide +kernel
theorem dX8_best_56 : decode cX8_best 56 = .ok (.iload_n 1, 1) := by decide +kernel
theorem dX8_best_57 : decode cX8_best 57 = .ok (.iaload, 1) := by decide +kernel
theorem dX8_best_58 : decode cX8_best 58 = .ok (.ireturn, 1) := by decide +kernel
theorem dX8_givesAlone_0 : decode cX8_givesAlone 0 = .ok (.iload_n 2, 1) := by decide +kernel
theorem dX8_givesAlone_1 : decode cX8_givesAlone 1 = .ok (.iload_n 3, 1) := by decide +kernel
theorem dX8_givesAlone_2 : decode cX8_givesAlone 2 = .ok (.invokestatic 165, 3) := by decide +kernel
theorem dX8_givesAlone_5 : decode cX8_givesAlone 5 = .ok (.ifCond .ne 7, 3) := by decide +kernel
theorem dX8_givesAlone_8 : decode cX8_givesAlone 8 = .ok (.lconst 0, 1) := by decide +kernel
theorem dX8_givesAlone_9 : decode cX8_givesAlone 9 = .ok (.goto 41, 3) := by decide +kernel
theorem dX8_givesAlone_12 : decode cX8_givesAlone 12 = .ok (.aload_n 0, 1) := by decide +kernel
theorem dX8_givesAlone_13 : decode cX8_givesAlone 13 = .ok (.bipush 9, 2) := by decide +kernel
theorem dX8_givesAlone_15 : decode cX8_givesAlone 15 = .ok (.bipush 8, 2) := by decide +kernel
theorem dX8_givesAlone_17 : decode cX8_givesAlone 17 = .ok (.iload_n 1, 1) := by decide +kernel
theorem dX8_givesAlone_18 : decode cX8_givesAlone 18 = .ok (.imul, 1) := by decide +kernel
theorem dX8_givesAlone_19 : decode cX8_givesAlone 19 = .ok (.iadd, 1) := by decide +kernel
theorem dX8_givesAlone_20 : decode cX8_givesAlone 20 = .ok (.iconst 3, 1) := by decide +kernel
theorem dX8_givesAlone_21 : decode cX8_givesAlone 21 = .ok (.iadd, 1) := by decide +kernel
theorem dX8_givesAlone_22 : decode cX8_givesAlone 22 = .ok (.iaload, 1) := by decide +kernel
theorem dX8_givesAlone_23 : decode cX8_givesAlone 23 = .ok (.i2l, 1) := by decide +kernel
theorem dX8_givesAlone_24 : decode cX8_givesAlone 24 = .ok (.lload 4, 2) := by decide +kernel
theorem dX8_givesAlone_26 : decode cX8_givesAlone 26 = .ok (.lcmp, 1) := by decide +kernel
theorem dX8_givesAlone_27 : decode cX8_givesAlone 27 = .ok (.ifCond .ge 17, 3) := by decide +kernel
theorem dX8_givesAlone_30 : decode cX8_givesAlone 30 = .ok (.aload_n 0, 1) := by decide +kernel
theorem dX8_givesAlone_31 : decode cX8_givesAlone 31 = .ok (.iload_n 1, 1) := by decide +kernel
theorem dX8_givesAlone_32 : decode cX8_givesAlone 32 = .ok (.iload_n 2, 1) := by decide +kernel
theorem dX8_givesAlone_33 : decode cX8_givesAlone 33 = .ok (.iload_n 3, 1) := by decide +kernel
theorem dX8_givesAlone_34 : decode cX8_givesAlone 34 = .ok (.invokestatic 169, 3) := by decide +kernel
theorem dX8_givesAlone_37 : decode cX8_givesAlone 37 = .ok (.invokestatic 175, 3) := by decide +kernel
theorem dX8_givesAlone_40 : decode cX8_givesAlone 40 = .ok (.i2l, 1) := by decide +kernel
theorem dX8_givesAlone_41 : decode cX8_givesAlone 41 = .ok (.goto 9, 3) := by decide +kernel
theorem dX8_givesAlone_44 : decode cX8_givesAlone 44 = .ok (.aload_n 0, 1) := by decide +kernel
theorem dX8_givesAlone_45 : decode cX8_givesAlone 45 = .ok (.iload_n 1, 1) := by decide +kernel
theorem dX8_givesAlone_46 : decode cX8_givesAlone 46 = .ok (.invokestatic 172, 3) := by decide +kernel
theorem dX8_givesAlone_49 : decode cX8_givesAlone 49 = .ok (.i2l, 1) := by decide +kernel
theorem dX8_givesAlone_50 : decode cX8_givesAlone 50 = .ok (.lreturn, 1) := by decide +kernel
theorem dX8_goesAlone_0 : decode cX8_goesAlone 0 = .ok (.iconst 1, 1) := by decide +kernel
theorem dX8_goesAlone_1 : decode cX8_goesAlone 1 = .ok (.istore_n 3, 1) := by decide +kernel
theorem dX8_goesAlone_2 : decode cX8_goesAlone 2 = .ok (.iconst 0, 1) := by decide +kernel
theorem dX8_goesAlone_3 : decode cX8_goesAlone 3 = .ok (.istore 4, 2) := by decide +kernel
theorem dX8_goesAlone_5 : decode cX8_goesAlone 5 = .ok (.iload 4, 2) := by decide +kernel
theorem dX8_goesAlone_7 : decode cX8_goesAlone 7 = .ok (.iconst 1, 1) := by decide +kernel
theorem dX8_goesAlone_8 : decode cX8_goesAlone 8 = .ok (.aload_n 1, 1) := by decide +kernel
theorem dX8_goesAlone_9 : decode cX8_goesAlone 9 = .ok (.iconst 1, 1) := by decide +kernel
theorem dX8_goesAlone_10 : decode cX8_goesAlone 10 = .ok (.iaload, 1) := by decide +kernel
theorem dX8_goesAlone_11 : decode cX8_goesAlone 11 = .ok (.ishl, 1) := by decide +kernel
theorem dX8_goesAlone_12 : decode cX8_goesAlone 12 = .ok (.if_icmp .ge 125, 3) := by decide +kernel
theorem dX8_goesAlone_15 : decode cX8_goesAlone 15 = .ok (.aload_n 1, 1) := by decide +kernel
theorem dX8_goesAlone_16 : decode cX8_goesAlone 16 = .ok (.iload_n 2, 1) := by decide +kernel
theorem dX8_goesAlone_17 : decode cX8_goesAlone 17 = .ok (.iload 4, 2) := by decide +kernel
theorem dX8_goesAlone_19 : decode cX8_goesAlone 19 = .ok (.invokestatic 242, 3) := by decide +kernel
theorem dX8_goesAlone_22 : decode cX8_goesAlone 22 = .ok (.ifCond .eq 109, 3) := by decide +kernel
theorem dX8_goesAlone_25 : decode cX8_goesAlone 25 = .ok (.aload_n 1, 1) := by decide +kernel
theorem dX8_goesAlone_26 : decode cX8_goesAlone 26 = .ok (.iload_n 2, 1) := by decide +kernel
theorem dX8_goesAlone_27 : decode cX8_goesAlone 27 = .ok (.invokestatic 183, 3) := by decide +kernel
theorem dX8_goesAlone_30 : decode cX8_goesAlone 30 = .ok (.i2l, 1) := by decide +kernel
theorem dX8_goesAlone_31 : decode cX8_goesAlone 31 = .ok (.aload_n 1, 1) := by decide +kernel
theorem dX8_goesAlone_32 : decode cX8_goesAlone 32 = .ok (.iload 4, 2) := by decide +kernel
theorem dX8_goesAlone_34 : decode cX8_goesAlone 34 = .ok (.invokestatic 239, 3) := by decide +kernel
theorem dX8_goesAlone_37 : decode cX8_goesAlone 37 = .ok (.invokestatic 256, 3) := by decide +kernel
theorem dX8_goesAlone_40 : decode cX8_goesAlone 40 = .ok (.i2l, 1) := by decide +kernel
theorem dX8_goesAlone_41 : decode cX8_goesAlone 41 = .ok (.lmul, 1) := by decide +kernel
theorem dX8_goesAlone_42 : decode cX8_goesAlone 42 = .ok (.lstore 5, 2) := by decide +kernel
theorem dX8_goesAlone_44 : decode cX8_goesAlone 44 = .ok (.iconst 0, 1) := by decide +kernel
theorem dX8_goesAlone_45 : decode cX8_goesAlone 45 = .ok (.istore 7, 2) := by decide +kernel
theorem dX8_goesAlone_47 : decode cX8_goesAlone 47 = .ok (.iload 7, 2) := by decide +kernel
theorem dX8_goesAlone_49 : decode cX8_goesAlone 49 = .ok (.aload_n 1, 1) := by decide +kernel
theorem dX8_goesAlone_50 : decode cX8_goesAlone 50 = .ok (.iconst 1, 1) := by decide +kernel
theorem dX8_goesAlone_51 : decode cX8_goesAlone 51 = .ok (.iaload, 1) := by decide +kernel
theorem dX8_goesAlone_52 : decode cX8_goesAlone 52 = .ok (.if_icmp .ge 51, 3) := by decide +kernel
theorem dX8_goesAlone_55 : decode cX8_goesAlone 55 = .ok (.lload 5, 2) := by decide +kernel
theorem dX8_goesAlone_57 : decode cX8_goesAlone 57 = .ok (.aload_n 1, 1) := by decide +kernel
theorem dX8_goesAlone_58 : decode cX8_goesAlone 58 = .ok (.iload_n 2, 1) := by decide +kernel
theorem dX8_goesAlone_59 : decode cX8_goesAlone 59 = .ok (.iload 4, 2) := by decide +kernel
theorem dX8_goesAlone_61 : decode cX8_goesAlone 61 = .ok (.iload 7, 2) := by decide +kernel
theorem dX8_goesAlone_63 : decode cX8_goesAlone 63 = .ok (.aload_n 0, 1) := by decide +kernel
theorem dX8_goesAlone_64 : decode cX8_goesAlone 64 = .ok (.getfield 56, 3) := by decide +kernel
theorem dX8_goesAlone_67 : decode cX8_goesAlone 67 = .ok (.iload 7, 2) := by decide +kernel
theorem dX8_goesAlone_69 : decode cX8_goesAlone 69 = .ok (.laload, 1) := by decide +kernel
theorem dX8_goesAlone_70 : decode cX8_goesAlone 70 = .ok (.invokestatic 259, 3) := by decide +kernel
theorem dX8_goesAlone_73 : decode cX8_goesAlone 73 = .ok (.aload_n 1, 1) := by decide +kernel
theorem dX8_goesAlone_74 : decode cX8_goesAlone 74 = .ok (.bipush 9, 2) := by decide +kernel
theorem dX8_goesAlone_76 : decode cX8_goesAlone 76 = .ok (.bipush 8, 2) := by decide +kernel
theorem dX8_goesAlone_78 : decode cX8_goesAlone 78 = .ok (.iload_n 2, 1) := by decide +kernel
theorem dX8_goesAlone_79 : decode cX8_goesAlone 79 = .ok (.imul, 1) := by decide +kernel
theorem dX8_goesAlone_80 : decode cX8_goesAlone 80 = .ok (.iadd, 1) := by decide +kernel
theorem dX8_goesAlone_81 : decode cX8_goesAlone 81 = .ok (.iconst 3, 1) := by decide +kernel
theorem dX8_goesAlone_82 : decode cX8_goesAlone 82 = .ok (.iadd, 1) := by decide +kernel
theorem dX8_goesAlone_83 : decode cX8_goesAlone 83 = .ok (.iaload, 1) := by decide +kernel
theorem dX8_goesAlone_84 : decode cX8_goesAlone 84 = .ok (.i2l, 1) := by decide +kernel
theorem dX8_goesAlone_85 : decode cX8_goesAlone 85 = .ok (.aload_n 0, 1) := by decide +kernel
theorem dX8_goesAlone_86 : decode cX8_goesAlone 86 = .ok (.getfield 56, 3) := by decide +kernel
theorem dX8_goesAlone_89 : decode cX8_goesAlone 89 = .ok (.iload 7, 2) := by decide +kernel
theorem dX8_goesAlone_91 : decode cX8_goesAlone 91 = .ok (.laload, 1) := by decide +kernel
theorem dX8_goesAlone_92 : decode cX8_goesAlone 92 = .ok (.lsub, 1) := by decide +kernel
theorem dX8_goesAlone_93 : decode cX8_goesAlone 93 = .ok (.lmul, 1) := by decide +kernel
theorem dX8_goesAlone_94 : decode cX8_goesAlone 94 = .ok (.ladd, 1) := by decide +kernel
theorem dX8_goesAlone_95 : decode cX8_goesAlone 95 = .ok (.lstore 5, 2) := by decide +kernel
theorem dX8_goesAlone_97 : decode cX8_goesAlone 97 = .ok (.iinc 7 1, 3) := by decide +kernel
theorem dX8_goesAlone_100 : decode cX8_goesAlone 100 = .ok (.goto (-53), 3) := by decide +kernel
theorem dX8_goesAlone_103 : decode cX8_goesAlone 103 = .ok (.iload_n 3, 1) := by decide +kernel
theorem dX8_goesAlone_104 : decode cX8_goesAlone 104 = .ok (.ifCond .ne 13, 3) := by decide +kernel
theorem dX8_goesAlone_107 : decode cX8_goesAlone 107 = .ok (.lload 5, 2) := by decide +kernel
theorem dX8_goesAlone_109 : decode cX8_goesAlone 109 = .ok (.aload_n 0, 1) := by decide +kernel
theorem dX8_goesAlone_110 : decode cX8_goesAlone 110 = .ok (.getfield 263, 3) := by decide +kernel
theorem dX8_goesAlone_113 : decode cX8_goesAlone 113 = .ok (.lcmp, 1) := by decide +kernel
theorem dX8_goesAlone_114 : decode cX8_goesAlone 114 = .ok (.ifCond .ge 17, 3) := by decide +kernel
theorem dX8_goesAlone_117 : decode cX8_goesAlone 117 = .ok (.aload_n 0, 1) := by decide +kernel
theorem dX8_goesAlone_118 : decode cX8_goesAlone 118 = .ok (.lload 5, 2) := by decide +kernel
theorem dX8_goesAlone_120 : decode cX8_goesAlone 120 = .ok (.putfield 263, 3) := by decide +kernel
theorem dX8_goesAlone_123 : decode cX8_goesAlone 123 = .ok (.aload_n 0, 1) := by decide +kernel
theorem dX8_goesAlone_124 : decode cX8_goesAlone 124 = .ok (.iload 4, 2) := by decide +kernel
theorem dX8_goesAlone_126 : decode cX8_goesAlone 126 = .ok (.putfield 267, 3) := by decide +kernel
theorem dX8_goesAlone_129 : decode cX8_goesAlone 129 = .ok (.iconst 0, 1) := by decide +kernel
theorem dX8_goesAlone_130 : decode cX8_goesAlone 130 = .ok (.istore_n 3, 1) := by decide +kernel
theorem dX8_goesAlone_131 : decode cX8_goesAlone 131 = .ok (.iinc 4 1, 3) := by decide +kernel
theorem dX8_goesAlone_134 : decode cX8_goesAlone 134 = .ok (.goto (-129), 3) := by decide +kernel
theorem dX8_goesAlone_137 : decode cX8_goesAlone 137 = .ok (.return_, 1) := by decide +kernel
theorem dX8_alone_0 : decode cX8_alone 0 = .ok (.aload_n 0, 1) := by decide +kernel
theorem dX8_alone_1 : decode cX8_alone 1 = .ok (.iload_n 1, 1) := by decide +kernel
theorem dX8_alone_2 : decode cX8_alone 2 = .ok (.invokevirtual 220, 3) := by decide +kernel
theorem dX8_alone_5 : decode cX8_alone 5 = .ok (.ifCond .eq 28, 3) := by decide +kernel
theorem dX8_alone_8 : decode cX8_alone 8 = .ok (.iload_n 2, 1) := by decide +kernel
theorem dX8_alone_9 : decode cX8_alone 9 = .ok (.invokestatic 76, 3) := by decide +kernel
theorem dX8_alone_12 : decode cX8_alone 12 = .ok (.ifCond .eq 21, 3) := by decide +kernel
theorem dX8_alone_15 : decode cX8_alone 15 = .ok (.iload 4, 2) := by decide +kernel
theorem dX8_alone_17 : decode cX8_alone 17 = .ok (.bipush (-2), 2) := by decide +kernel
theorem dX8_alone_19 : decode cX8_alone 19 = .ok (.aload_n 0, 1) := by decide +kernel
theorem dX8_alone_20 : decode cX8_alone 20 = .ok (.getfield 25, 3) := by decide +kernel
theorem dX8_alone_23 : decode cX8_alone 23 = .ok (.iconst 1, 1) := by decide +kernel
theorem dX8_alone_24 : decode cX8_alone 24 = .ok (.iaload, 1) := by decide +kernel
theorem dX8_alone_25 : decode cX8_alone 25 = .ok (.iconst 1, 1) := by decide +kernel
theorem dX8_alone_26 : decode cX8_alone 26 = .ok (.isub, 1) := by decide +kernel
theorem dX8_alone_27 : decode cX8_alone 27 = .ok (.invokestatic 72, 3) := by decide +kernel
theorem dX8_alone_30 : decode cX8_alone 30 = .ok (.ifCond .ne 7, 3) := by decide +kernel
theorem dX8_alone_33 : decode cX8_alone 33 = .ok (.ldc2_w 270, 3) := by decide +kernel
theorem dX8_alone_36 : decode cX8_alone 36 = .ok (.lreturn, 1) := by decide +kernel
theorem dX8_alone_37 : decode cX8_alone 37 = .ok (.aload_n 0, 1) := by decide +kernel
theorem dX8_alone_38 : decode cX8_alone 38 = .ok (.iload_n 2, 1) := by decide +kernel
theorem dX8_alone_39 : decode cX8_alone 39 = .ok (.invokevirtual 88, 3) := by decide +kernel
theorem dX8_alone_42 : decode cX8_alone 42 = .ok (.ifCond .eq 10, 3) := by decide +kernel
theorem dX8_alone_45 : decode cX8_alone 45 = .ok (.aload_n 0, 1) := by decide +kernel
theorem dX8_alone_46 : decode cX8_alone 46 = .ok (.iconst 1, 1) := by decide +kernel
theorem dX8_alone_47 : decode cX8_alone 47 = .ok (.invokevirtual 81, 3) := by decide +kernel
theorem dX8_alone_50 : decode cX8_alone 50 = .ok (.i2l, 1) := by decide +kernel
theorem dX8_alone_51 : decode cX8_alone 51 = .ok (.lreturn, 1) := by decide +kernel
theorem dX8_alone_52 : decode cX8_alone 52 = .ok (.aload_n 0, 1) := by decide +kernel
theorem dX8_alone_53 : decode cX8_alone 53 = .ok (.iload_n 2, 1) := by decide +kernel
theorem dX8_alone_54 : decode cX8_alone 54 = .ok (.iload_n 3, 1) := by decide +kernel
theorem dX8_alone_55 : decode cX8_alone 55 = .ok (.aload_n 0, 1) := by decide +kernel
theorem dX8_alone_56 : decode cX8_alone 56 = .ok (.getfield 25, 3) := by decide +kernel
theorem dX8_alone_59 : decode cX8_alone 59 = .ok (.iconst 1, 1) := by decide +kernel
theorem dX8_alone_60 : decode cX8_alone 60 = .ok (.iaload, 1) := by decide +kernel
theorem dX8_alone_61 : decode cX8_alone 61 = .ok (.invokevirtual 95, 3) := by decide +kernel
theorem dX8_alone_64 : decode cX8_alone 64 = .ok (.ifCond .ne 10, 3) := by decide +kernel
theorem dX8_alone_67 : decode cX8_alone 67 = .ok (.aload_n 0, 1) := by decide +kernel
theorem dX8_alone_68 : decode cX8_alone 68 = .ok (.iconst 2, 1) := by decide +kernel
theorem dX8_alone_69 : decode cX8_alone 69 = .ok (.invokevirtual 81, 3) := by decide +kernel
theorem dX8_alone_72 : decode cX8_alone 72 = .ok (.i2l, 1) := by decide +kernel
theorem dX8_alone_73 : decode cX8_alone 73 = .ok (.lreturn, 1) := by decide +kernel
theorem dX8_alone_74 : decode cX8_alone 74 = .ok (.iconst 0, 1) := by decide +kernel
theorem dX8_alone_75 : decode cX8_alone 75 = .ok (.istore 5, 2) := by decide +kernel
theorem dX8_alone_77 : decode cX8_alone 77 = .ok (.iload 5, 2) := by decide +kernel
theorem dX8_alone_79 : decode cX8_alone 79 = .ok (.aload_n 0, 1) := by decide +kernel
theorem dX8_alone_80 : decode cX8_alone 80 = .ok (.getfield 25, 3) := by decide +kernel
theorem dX8_alone_83 : decode cX8_alone 83 = .ok (.iconst 1, 1) := by decide +kernel
theorem dX8_alone_84 : decode cX8_alone 84 = .ok (.iaload, 1) := by decide +kernel
theorem dX8_alone_85 : decode cX8_alone 85 = .ok (.if_icmp .ge 31, 3) := by decide +kernel
theorem dX8_alone_88 : decode cX8_alone 88 = .ok (.aload_n 0, 1) := by decide +kernel
theorem dX8_alone_89 : decode cX8_alone 89 = .ok (.getfield 56, 3) := by decide +kernel
theorem dX8_alone_92 : decode cX8_alone 92 = .ok (.iload 5, 2) := by decide +kernel
theorem dX8_alone_94 : decode cX8_alone 94 = .ok (.aload_n 0, 1) := by decide +kernel
theorem dX8_alone_95 : decode cX8_alone 95 = .ok (.getfield 16, 3) := by decide +kernel
theorem dX8_alone_98 : decode cX8_alone 98 = .ok (.bipush 40, 2) := by decide +kernel
theorem dX8_alone_100 : decode cX8_alone 100 = .ok (.iload_n 2, 1) := by decide +kernel
theorem dX8_alone_101 : decode cX8_alone 101 = .ok (.imul, 1) := by decide +kernel
theorem dX8_alone_102 : decode cX8_alone 102 = .ok (.iload_n 3, 1) := by decide +kernel
theorem dX8_alone_103 : decode cX8_alone 103 = .ok (.iadd, 1) := by decide +kernel
theorem dX8_alone_104 : decode cX8_alone 104 = .ok (.iload 5, 2) := by decide +kernel
theorem dX8_alone_106 : decode cX8_alone 106 = .ok (.iadd, 1) := by decide +kernel
theorem dX8_alone_107 : decode cX8_alone 107 = .ok (.iaload, 1) := by decide +kernel
theorem dX8_alone_108 : decode cX8_alone 108 = .ok (.i2l, 1) := by decide +kernel
theorem dX8_alone_109 : decode cX8_alone 109 = .ok (.lastore, 1) := by decide +kernel
theorem dX8_alone_110 : decode cX8_alone 110 = .ok (.iinc 5 1, 3) := by decide +kernel
theorem dX8_alone_113 : decode cX8_alone 113 = .ok (.goto (-36), 3) := by decide +kernel
theorem dX8_alone_116 : decode cX8_alone 116 = .ok (.aload_n 0, 1) := by decide +kernel
theorem dX8_alone_117 : decode cX8_alone 117 = .ok (.aload_n 0, 1) := by decide +kernel
theorem dX8_alone_118 : decode cX8_alone 118 = .ok (.getfield 25, 3) := by decide +kernel
theorem dX8_alone_121 : decode cX8_alone 121 = .ok (.iload_n 1, 1) := by decide +kernel
theorem dX8_alone_122 : decode cX8_alone 122 = .ok (.invokevirtual 272, 3) := by decide +kernel
theorem dX8_alone_125 : decode cX8_alone 125 = .ok (.aload_n 0, 1) := by decide +kernel
theorem dX8_alone_126 : decode cX8_alone 126 = .ok (.iconst 0, 1) := by decide +kernel
theorem dX8_alone_127 : decode cX8_alone 127 = .ok (.putfield 67, 3) := by decide +kernel
theorem dX8_alone_130 : decode cX8_alone 130 = .ok (.iload 4, 2) := by decide +kernel
theorem dX8_alone_132 : decode cX8_alone 132 = .ok (.bipush (-2), 2) := by decide +kernel
theorem dX8_alone_134 : decode cX8_alone 134 = .ok (.if_icmp .ne 10, 3) := by decide +kernel
theorem dX8_alone_137 : decode cX8_alone 137 = .ok (.aload_n 0, 1) := by decide +kernel
theorem dX8_alone_138 : decode cX8_alone 138 = .ok (.getfield 263, 3) := by decide +kernel
theorem dX8_alone_141 : decode cX8_alone 141 = .ok (.goto 38, 3) := by decide +kernel
theorem dX8_alone_144 : decode cX8_alone 144 = .ok (.iload 4, 2) := by decide +kernel
theorem dX8_alone_146 : decode cX8_alone 146 = .ok (.iconst (-1), 1) := by decide +kernel
theorem dX8_alone_147 : decode cX8_alone 147 = .ok (.if_icmp .ne 11, 3) := by decide +kernel
theorem dX8_alone_150 : decode cX8_alone 150 = .ok (.aload_n 0, 1) := by decide +kernel
theorem dX8_alone_151 : decode cX8_alone 151 = .ok (.getfield 267, 3) := by decide +kernel
theorem dX8_alone_154 : decode cX8_alone 154 = .ok (.i2l, 1) := by decide +kernel
theorem dX8_alone_155 : decode cX8_alone 155 = .ok (.goto 24, 3) := by decide +kernel
theorem dX8_alone_158 : decode cX8_alone 158 = .ok (.aload_n 0, 1) := by decide +kernel
theorem dX8_alone_159 : decode cX8_alone 159 = .ok (.getfield 25, 3) := by decide +kernel
theorem dX8_alone_162 : decode cX8_alone 162 = .ok (.iload_n 1, 1) := by decide +kernel
theorem dX8_alone_163 : decode cX8_alone 163 = .ok (.aload_n 0, 1) := by decide +kernel
theorem dX8_alone_164 : decode cX8_alone 164 = .ok (.getfield 267, 3) := by decide +kernel
theorem dX8_alone_167 : decode cX8_alone 167 = .ok (.iload 4, 2) := by decide +kernel
theorem dX8_alone_169 : decode cX8_alone 169 = .ok (.aload_n 0, 1) := by decide +kernel
theorem dX8_alone_170 : decode cX8_alone 170 = .ok (.getfield 56, 3) := by decide +kernel
theorem dX8_alone_173 : decode cX8_alone 173 = .ok (.iload 4, 2) := by decide +kernel
theorem dX8_alone_175 : decode cX8_alone 175 = .ok (.laload, 1) := by decide +kernel
theorem dX8_alone_176 : decode cX8_alone 176 = .ok (.invokestatic 259, 3) := by decide +kernel
theorem dX8_alone_179 : decode cX8_alone 179 = .ok (.lreturn, 1) := by decide +kernel
theorem dX8_boundOf_0 : decode cX8_boundOf 0 = .ok (.lconst 0, 1) := by decide +kernel
theorem dX8_boundOf_1 : decode cX8_boundOf 1 = .ok (.lstore_n 2, 1) := by decide +kernel
theorem dX8_boundOf_2 : decode cX8_boundOf 2 = .ok (.iconst 0, 1) := by decide +kernel
theorem dX8_boundOf_3 : decode cX8_boundOf 3 = .ok (.istore 4, 2) := by decide +kernel
theorem dX8_boundOf_5 : decode cX8_boundOf 5 = .ok (.iload 4, 2) := by decide +kernel
theorem dX8_boundOf_7 : decode cX8_boundOf 7 = .ok (.aload_n 1, 1) := by decide +kernel
theorem dX8_boundOf_8 : decode cX8_boundOf 8 = .ok (.iconst 1, 1) := by decide +kernel
theorem dX8_boundOf_9 : decode cX8_boundOf 9 = .ok (.iaload, 1) := by decide +kernel
theorem dX8_boundOf_10 : decode cX8_boundOf 10 = .ok (.if_icmp .ge 27, 3) := by decide +kernel
theorem dX8_boundOf_13 : decode cX8_boundOf 13 = .ok (.lload_n 2, 1) := by decide +kernel
theorem dX8_boundOf_14 : decode cX8_boundOf 14 = .ok (.aload_n 1, 1) := by decide +kernel
theorem dX8_boundOf_15 : decode cX8_boundOf 15 = .ok (.iconst 3, 1) := by decide +kernel
theorem dX8_boundOf_16 : decode cX8_boundOf 16 = .ok (.iload 4, 2) := by decide +kernel
theorem dX8_boundOf_18 : decode cX8_boundOf 18 = .ok (.iadd, 1) := by decide +kernel
theorem dX8_boundOf_19 : decode cX8_boundOf 19 = .ok (.iaload, 1) := by decide +kernel
theorem dX8_boundOf_20 : decode cX8_boundOf 20 = .ok (.i2l, 1) := by decide +kernel
theorem dX8_boundOf_21 : decode cX8_boundOf 21 = .ok (.aload_n 0, 1) := by decide +kernel
theorem dX8_boundOf_22 : decode cX8_boundOf 22 = .ok (.getfield 56, 3) := by decide +kernel
theorem dX8_boundOf_25 : decode cX8_boundOf 25 = .ok (.iload 4, 2) := by decide +kernel
theorem dX8_boundOf_27 : decode cX8_boundOf 27 = .ok (.laload, 1) := by decide +kernel
theorem dX8_boundOf_28 : decode cX8_boundOf 28 = .ok (.lmul, 1) := by decide +kernel
theorem dX8_boundOf_29 : decode cX8_boundOf 29 = .ok (.ladd, 1) := by decide +kernel
theorem dX8_boundOf_30 : decode cX8_boundOf 30 = .ok (.lstore_n 2, 1) := by decide +kernel
theorem dX8_boundOf_31 : decode cX8_boundOf 31 = .ok (.iinc 4 1, 3) := by decide +kernel
theorem dX8_boundOf_34 : decode cX8_boundOf 34 = .ok (.goto (-29), 3) := by decide +kernel
theorem dX8_boundOf_37 : decode cX8_boundOf 37 = .ok (.iconst 0, 1) := by decide +kernel
theorem dX8_boundOf_38 : decode cX8_boundOf 38 = .ok (.istore 4, 2) := by decide +kernel
theorem dX8_boundOf_40 : decode cX8_boundOf 40 = .ok (.iload 4, 2) := by decide +kernel
theorem dX8_boundOf_42 : decode cX8_boundOf 42 = .ok (.aload_n 1, 1) := by decide +kernel
theorem dX8_boundOf_43 : decode cX8_boundOf 43 = .ok (.iconst 0, 1) := by decide +kernel
theorem dX8_boundOf_44 : decode cX8_boundOf 44 = .ok (.iaload, 1) := by decide +kernel
theorem dX8_boundOf_45 : decode cX8_boundOf 45 = .ok (.if_icmp .ge 23, 3) := by decide +kernel
theorem dX8_boundOf_48 : decode cX8_boundOf 48 = .ok (.aload_n 0, 1) := by decide +kernel
theorem dX8_boundOf_49 : decode cX8_boundOf 49 = .ok (.aload_n 1, 1) := by decide +kernel
theorem dX8_boundOf_50 : decode cX8_boundOf 50 = .ok (.iload 4, 2) := by decide +kernel
theorem dX8_boundOf_52 : decode cX8_boundOf 52 = .ok (.invokevirtual 272, 3) := by decide +kernel
theorem dX8_boundOf_55 : decode cX8_boundOf 55 = .ok (.lload_n 2, 1) := by decide +kernel
theorem dX8_boundOf_56 : decode cX8_boundOf 56 = .ok (.aload_n 0, 1) := by decide +kernel
theorem dX8_boundOf_57 : decode cX8_boundOf 57 = .ok (.getfield 263, 3) := by decide +kernel
theorem dX8_boundOf_60 : decode cX8_boundOf 60 = .ok (.ladd, 1) := by decide +kernel
theorem dX8_boundOf_61 : decode cX8_boundOf 61 = .ok (.lstore_n 2, 1) := by decide +kernel
theorem dX8_boundOf_62 : decode cX8_boundOf 62 = .ok (.iinc 4 1, 3) := by decide +kernel
theorem dX8_boundOf_65 : decode cX8_boundOf 65 = .ok (.goto (-25), 3) := by decide +kernel
theorem dX8_boundOf_68 : decode cX8_boundOf 68 = .ok (.lload_n 2, 1) := by decide +kernel
theorem dX8_boundOf_69 : decode cX8_boundOf 69 = .ok (.lreturn, 1) := by decide +kernel
theorem dX8_bound_0 : decode cX8_bound 0 = .ok (.aload_n 0, 1) := by decide +kernel
theorem dX8_bound_1 : decode cX8_bound 1 = .ok (.invokevirtual 227, 3) := by decide +kernel
theorem dX8_bound_4 : decode cX8_bound 4 = .ok (.ifCond .ne 7, 3) := by decide +kernel
theorem dX8_bound_7 : decode cX8_bound 7 = .ok (.ldc2_w 275, 3) := by decide +kernel
theorem dX8_bound_10 : decode cX8_bound 10 = .ok (.lreturn, 1) := by decide +kernel
theorem dX8_bound_11 : decode cX8_bound 11 = .ok (.iload_n 1, 1) := by decide +kernel
theorem dX8_bound_12 : decode cX8_bound 12 = .ok (.invokestatic 76, 3) := by decide +kernel
theorem dX8_bound_15 : decode cX8_bound 15 = .ok (.ifCond .ne 7, 3) := by decide +kernel
theorem dX8_bound_18 : decode cX8_bound 18 = .ok (.ldc2_w 270, 3) := by decide +kernel
theorem dX8_bound_21 : decode cX8_bound 21 = .ok (.lreturn, 1) := by decide +kernel
theorem dX8_bound_22 : decode cX8_bound 22 = .ok (.aload_n 0, 1) := by decide +kernel
theorem dX8_bound_23 : decode cX8_bound 23 = .ok (.iload_n 1, 1) := by decide +kernel
theorem dX8_bound_24 : decode cX8_bound 24 = .ok (.invokevirtual 88, 3) := by decide +kernel
theorem dX8_bound_27 : decode cX8_bound 27 = .ok (.ifCond .eq 10, 3) := by decide +kernel
theorem dX8_bound_30 : decode cX8_bound 30 = .ok (.aload_n 0, 1) := by decide +kernel
theorem dX8_bound_31 : decode cX8_bound 31 = .ok (.iconst 1, 1) := by decide +kernel
theorem dX8_bound_32 : decode cX8_bound 32 = .ok (.invokevirtual 81, 3) := by decide +kernel
theorem dX8_bound_35 : decode cX8_bound 35 = .ok (.i2l, 1) := by decide +kernel
theorem dX8_bound_36 : decode cX8_bound 36 = .ok (.lreturn, 1) := by decide +kernel
theorem dX8_bound_37 : decode cX8_bound 37 = .ok (.aload_n 0, 1) := by decide +kernel
theorem dX8_bound_38 : decode cX8_bound 38 = .ok (.iload_n 1, 1) := by decide +kernel
theorem dX8_bound_39 : decode cX8_bound 39 = .ok (.iload_n 2, 1) := by decide +kernel
theorem dX8_bound_40 : decode cX8_bound 40 = .ok (.aload_n 0, 1) := by decide +kernel
theorem dX8_bound_41 : decode cX8_bound 41 = .ok (.getfield 25, 3) := by decide +kernel
theorem dX8_bound_44 : decode cX8_bound 44 = .ok (.iconst 1, 1) := by decide +kernel
theorem dX8_bound_45 : decode cX8_bound 45 = .ok (.iaload, 1) := by decide +kernel
theorem dX8_bound_46 : decode cX8_bound 46 = .ok (.invokevirtual 95, 3) := by decide +kernel
theorem dX8_bound_49 : decode cX8_bound 49 = .ok (.ifCond .ne 10, 3) := by decide +kernel
theorem dX8_bound_52 : decode cX8_bound 52 = .ok (.aload_n 0, 1) := by decide +kernel
theorem dX8_bound_53 : decode cX8_bound 53 = .ok (.iconst 2, 1) := by decide +kernel
theorem dX8_bound_54 : decode cX8_bound 54 = .ok (.invokevirtual 81, 3) := by decide +kernel
theorem dX8_bound_57 : decode cX8_bound 57 = .ok (.i2l, 1) := by decide +kernel
theorem dX8_bound_58 : decode cX8_bound 58 = .ok (.lreturn, 1) := by decide +kernel
theorem dX8_bound_59 : decode cX8_bound 59 = .ok (.iconst 0, 1) := by decide +kernel
theorem dX8_bound_60 : decode cX8_bound 60 = .ok (.istore_n 3, 1) := by decide +kernel
theorem dX8_bound_61 : decode cX8_bound 61 = .ok (.iload_n 3, 1) := by decide +kernel
theorem dX8_bound_62 : decode cX8_bound 62 = .ok (.aload_n 0, 1) := by decide +kernel
theorem dX8_bound_63 : decode cX8_bound 63 = .ok (.getfield 25, 3) := by decide +kernel
theorem dX8_bound_66 : decode cX8_bound 66 = .ok (.iconst 1, 1) := by decide +kernel
theorem dX8_bound_67 : decode cX8_bound 67 = .ok (.iaload, 1) := by decide +kernel
theorem dX8_bound_68 : decode cX8_bound 68 = .ok (.if_icmp .ge 29, 3) := by decide +kernel
theorem dX8_bound_71 : decode cX8_bound 71 = .ok (.aload_n 0, 1) := by decide +kernel
theorem dX8_bound_72 : decode cX8_bound 72 = .ok (.getfield 56, 3) := by decide +kernel
theorem dX8_bound_75 : decode cX8_bound 75 = .ok (.iload_n 3, 1) := by decide +kernel
theorem dX8_bound_76 : decode cX8_bound 76 = .ok (.aload_n 0, 1) := by decide +kernel
theorem dX8_bound_77 : decode cX8_bound 77 = .ok (.getfield 16, 3) := by decide +kernel
theorem dX8_bound_80 : decode cX8_bound 80 = .ok (.bipush 40, 2) := by decide +kernel
theorem dX8_bound_82 : decode cX8_bound 82 = .ok (.iload_n 1, 1) := by decide +kernel
theorem dX8_bound_83 : decode cX8_bound 83 = .ok (.imul, 1) := by decide +kernel
theorem dX8_bound_84 : decode cX8_bound 84 = .ok (.iload_n 2, 1) := by decide +kernel
theorem dX8_bound_85 : decode cX8_bound 85 = .ok (.iadd, 1) := by decide +kernel
theorem dX8_bound_86 : decode cX8_bound 86 = .ok (.iload_n 3, 1) := by decide +kernel
theorem dX8_bound_87 : decode cX8_bound 87 = .ok (.iadd, 1) := by decide +kernel
theorem dX8_bound_88 : decode cX8_bound 88 = .ok (.iaload, 1) := by decide +kernel
theorem dX8_bound_89 : decode cX8_bound 89 = .ok (.i2l, 1) := by decide +kernel
theorem dX8_bound_90 : decode cX8_bound 90 = .ok (.lastore, 1) := by decide +kernel
theorem dX8_bound_91 : decode cX8_bound 91 = .ok (.iinc 3 1, 3) := by decide +kernel
theorem dX8_bound_94 : decode cX8_bound 94 = .ok (.goto (-33), 3) := by decide +kernel
theorem dX8_bound_97 : decode cX8_bound 97 = .ok (.aload_n 0, 1) := by decide +kernel
theorem dX8_bound_98 : decode cX8_bound 98 = .ok (.iconst 0, 1) := by decide +kernel
theorem dX8_bound_99 : decode cX8_bound 99 = .ok (.putfield 67, 3) := by decide +kernel
theorem dX8_bound_102 : decode cX8_bound 102 = .ok (.aload_n 0, 1) := by decide +kernel
theorem dX8_bound_103 : decode cX8_bound 103 = .ok (.aload_n 0, 1) := by decide +kernel
theorem dX8_bound_104 : decode cX8_bound 104 = .ok (.getfield 25, 3) := by decide +kernel
theorem dX8_bound_107 : decode cX8_bound 107 = .ok (.invokevirtual 277, 3) := by decide +kernel
theorem dX8_bound_110 : decode cX8_bound 110 = .ok (.lreturn, 1) := by decide +kernel
theorem dX8_moves_0 : decode cX8_moves 0 = .ok (.iconst 0, 1) := by decide +kernel
theorem dX8_moves_1 : decode cX8_moves 1 = .ok (.istore_n 2, 1) := by decide +kernel
theorem dX8_moves_2 : decode cX8_moves 2 = .ok (.iload_n 2, 1) := by decide +kernel
theorem dX8_moves_3 : decode cX8_moves 3 = .ok (.bipush 6, 2) := by decide +kernel
theorem dX8_moves_5 : decode cX8_moves 5 = .ok (.if_icmp .ge 16, 3) := by decide +kernel
theorem dX8_moves_8 : decode cX8_moves 8 = .ok (.aload_n 0, 1) := by decide +kernel
theorem dX8_moves_9 : decode cX8_moves 9 = .ok (.getfield 56, 3) := by decide +kernel
theorem dX8_moves_12 : decode cX8_moves 12 = .ok (.iload_n 2, 1) := by decide +kernel
theorem dX8_moves_13 : decode cX8_moves 13 = .ok (.lconst 0, 1) := by decide +kernel
theorem dX8_moves_14 : decode cX8_moves 14 = .ok (.lastore, 1) := by decide +kernel
theorem dX8_moves_15 : decode cX8_moves 15 = .ok (.iinc 2 1, 3) := by decide +kernel
theorem dX8_moves_18 : decode cX8_moves 18 = .ok (.goto (-16), 3) := by decide +kernel
theorem dX8_moves_21 : decode cX8_moves 21 = .ok (.aload_n 0, 1) := by decide +kernel
theorem dX8_moves_22 : decode cX8_moves 22 = .ok (.aload_n 0, 1) := by decide +kernel
theorem dX8_moves_23 : decode cX8_moves 23 = .ok (.getfield 25, 3) := by decide +kernel
theorem dX8_moves_26 : decode cX8_moves 26 = .ok (.invokevirtual 277, 3) := by decide +kernel
theorem dX8_moves_29 : decode cX8_moves 29 = .ok (.lstore_n 2, 1) := by decide +kernel
theorem dX8_moves_30 : decode cX8_moves 30 = .ok (.iconst 0, 1) := by decide +kernel
theorem dX8_moves_31 : decode cX8_moves 31 = .ok (.istore 4, 2) := by decide +kernel
theorem dX8_moves_33 : decode cX8_moves 33 = .ok (.iload 4, 2) := by decide +kernel
theorem dX8_moves_35 : decode cX8_moves 35 = .ok (.iload_n 1, 1) := by decide +kernel
theorem dX8_moves_36 : decode cX8_moves 36 = .ok (.if_icmp .ge 219, 3) := by decide +kernel
theorem dX8_moves_39 : decode cX8_moves 39 = .ok (.iconst 0, 1) := by decide +kernel
theorem dX8_moves_40 : decode cX8_moves 40 = .ok (.istore 5, 2) := by decide +kernel
theorem dX8_moves_42 : decode cX8_moves 42 = .ok (.iload 5, 2) := by decide +kernel
theorem dX8_moves_44 : decode cX8_moves 44 = .ok (.aload_n 0, 1) := by decide +kernel
theorem dX8_moves_45 : decode cX8_moves 45 = .ok (.getfield 25, 3) := by decide +kernel
theorem dX8_moves_48 : decode cX8_moves 48 = .ok (.iconst 1, 1) := by decide +kernel
theorem dX8_moves_49 : decode cX8_moves 49 = .ok (.iaload, 1) := by decide +kernel
theorem dX8_moves_50 : decode cX8_moves 50 = .ok (.if_icmp .ge 26, 3) := by decide +kernel
theorem dX8_moves_53 : decode cX8_moves 53 = .ok (.aload_n 0, 1) := by decide +kernel
theorem dX8_moves_54 : decode cX8_moves 54 = .ok (.getfield 60, 3) := by decide +kernel
theorem dX8_moves_57 : decode cX8_moves 57 = .ok (.iload 5, 2) := by decide +kernel
theorem dX8_moves_59 : decode cX8_moves 59 = .ok (.aload_n 0, 1) := by decide +kernel
theorem dX8_moves_60 : decode cX8_moves 60 = .ok (.getfield 25, 3) := by decide +kernel
theorem dX8_moves_63 : decode cX8_moves 63 = .ok (.iconst 3, 1) := by decide +kernel
theorem dX8_moves_64 : decode cX8_moves 64 = .ok (.iload 5, 2) := by decide +kernel
theorem dX8_moves_66 : decode cX8_moves 66 = .ok (.iadd, 1) := by decide +kernel
theorem dX8_moves_67 : decode cX8_moves 67 = .ok (.iaload, 1) := by decide +kernel
theorem dX8_moves_68 : decode cX8_moves 68 = .ok (.i2l, 1) := by decide +kernel
theorem dX8_moves_69 : decode cX8_moves 69 = .ok (.lastore, 1) := by decide +kernel
theorem dX8_moves_70 : decode cX8_moves 70 = .ok (.iinc 5 1, 3) := by decide +kernel
theorem dX8_moves_73 : decode cX8_moves 73 = .ok (.goto (-31), 3) := by decide +kernel
theorem dX8_moves_76 : decode cX8_moves 76 = .ok (.iconst 0, 1) := by decide +kernel
theorem dX8_moves_77 : decode cX8_moves 77 = .ok (.istore 5, 2) := by decide +kernel
theorem dX8_moves_79 : decode cX8_moves 79 = .ok (.iload 5, 2) := by decide +kernel
theorem dX8_moves_81 : decode cX8_moves 81 = .ok (.aload_n 0, 1) := by decide +kernel
theorem dX8_moves_82 : decode cX8_moves 82 = .ok (.getfield 25, 3) := by decide +kernel
theorem dX8_moves_85 : decode cX8_moves 85 = .ok (.iconst 0, 1) := by decide +kernel
theorem dX8_moves_86 : decode cX8_moves 86 = .ok (.iaload, 1) := by decide +kernel
theorem dX8_moves_87 : decode cX8_moves 87 = .ok (.if_icmp .ge 71, 3) := by decide +kernel
theorem dX8_moves_90 : decode cX8_moves 90 = .ok (.aload_n 0, 1) := by decide +kernel
theorem dX8_moves_91 : decode cX8_moves 91 = .ok (.aload_n 0, 1) := by decide +kernel
theorem dX8_moves_92 : decode cX8_moves 92 = .ok (.getfield 25, 3) := by decide +kernel
theorem dX8_moves_95 : decode cX8_moves 95 = .ok (.iload 5, 2) := by decide +kernel
theorem dX8_moves_97 : decode cX8_moves 97 = .ok (.invokevirtual 272, 3) := by decide +kernel
theorem dX8_moves_100 : decode cX8_moves 100 = .ok (.iconst 0, 1) := by decide +kernel
theorem dX8_moves_101 : decode cX8_moves 101 = .ok (.istore 6, 2) := by decide +kernel
theorem dX8_moves_103 : decode cX8_moves 103 = .ok (.iload 6, 2) := by decide +kernel
theorem dX8_moves_105 : decode cX8_moves 105 = .ok (.aload_n 0, 1) := by decide +kernel
theorem dX8_moves_106 : decode cX8_moves 106 = .ok (.getfield 25, 3) := by decide +kernel
theorem dX8_moves_109 : decode cX8_moves 109 = .ok (.iconst 1, 1) := by decide +kernel
theorem dX8_moves_110 : decode cX8_moves 110 = .ok (.iaload, 1) := by decide +kernel
theorem dX8_moves_111 : decode cX8_moves 111 = .ok (.if_icmp .ge 41, 3) := by decide +kernel
theorem dX8_moves_114 : decode cX8_moves 114 = .ok (.aload_n 0, 1) := by decide +kernel
theorem dX8_moves_115 : decode cX8_moves 115 = .ok (.getfield 60, 3) := by decide +kernel
theorem dX8_moves_118 : decode cX8_moves 118 = .ok (.iload 6, 2) := by decide +kernel
theorem dX8_moves_120 : decode cX8_moves 120 = .ok (.dup2, 1) := by decide +kernel
theorem dX8_moves_121 : decode cX8_moves 121 = .ok (.laload, 1) := by decide +kernel
theorem dX8_moves_122 : decode cX8_moves 122 = .ok (.aload_n 0, 1) := by decide +kernel
theorem dX8_moves_123 : decode cX8_moves 123 = .ok (.getfield 25, 3) := by decide +kernel
theorem dX8_moves_126 : decode cX8_moves 126 = .ok (.iload 5, 2) := by decide +kernel
theorem dX8_moves_128 : decode cX8_moves 128 = .ok (.aload_n 0, 1) := by decide +kernel
theorem dX8_moves_129 : decode cX8_moves 129 = .ok (.getfield 267, 3) := by decide +kernel
theorem dX8_moves_132 : decode cX8_moves 132 = .ok (.iload 6, 2) := by decide +kernel
theorem dX8_moves_134 : decode cX8_moves 134 = .ok (.aload_n 0, 1) := by decide +kernel
theorem dX8_moves_135 : decode cX8_moves 135 = .ok (.getfield 56, 3) := by decide +kernel
theorem dX8_moves_138 : decode cX8_moves 138 = .ok (.iload 6, 2) := by decide +kernel
theorem dX8_moves_140 : decode cX8_moves 140 = .ok (.laload, 1) := by decide +kernel
theorem dX8_moves_141 : decode cX8_moves 141 = .ok (.invokestatic 259, 3) := by decide +kernel
theorem dX8_moves_144 : decode cX8_moves 144 = .ok (.lsub, 1) := by decide +kernel
theorem dX8_moves_145 : decode cX8_moves 145 = .ok (.lastore, 1) := by decide +kernel
theorem dX8_moves_146 : decode cX8_moves 146 = .ok (.iinc 6 1, 3) := by decide +kernel
theorem dX8_moves_149 : decode cX8_moves 149 = .ok (.goto (-46), 3) := by decide +kernel
theorem dX8_moves_152 : decode cX8_moves 152 = .ok (.iinc 5 1, 3) := by decide +kernel
theorem dX8_moves_155 : decode cX8_moves 155 = .ok (.goto (-76), 3) := by decide +kernel
theorem dX8_moves_158 : decode cX8_moves 158 = .ok (.iconst 0, 1) := by decide +kernel
theorem dX8_moves_159 : decode cX8_moves 159 = .ok (.istore 5, 2) := by decide +kernel
theorem dX8_moves_161 : decode cX8_moves 161 = .ok (.iload 5, 2) := by decide +kernel
theorem dX8_moves_163 : decode cX8_moves 163 = .ok (.aload_n 0, 1) := by decide +kernel
theorem dX8_moves_164 : decode cX8_moves 164 = .ok (.getfield 25, 3) := by decide +kernel
theorem dX8_moves_167 : decode cX8_moves 167 = .ok (.iconst 1, 1) := by decide +kernel
theorem dX8_moves_168 : decode cX8_moves 168 = .ok (.iaload, 1) := by decide +kernel
theorem dX8_moves_169 : decode cX8_moves 169 = .ok (.if_icmp .ge 56, 3) := by decide +kernel
theorem dX8_moves_172 : decode cX8_moves 172 = .ok (.aload_n 0, 1) := by decide +kernel
theorem dX8_moves_173 : decode cX8_moves 173 = .ok (.getfield 56, 3) := by decide +kernel
theorem dX8_moves_176 : decode cX8_moves 176 = .ok (.iload 5, 2) := by decide +kernel
theorem dX8_moves_178 : decode cX8_moves 178 = .ok (.dup2, 1) := by decide +kernel
theorem dX8_moves_179 : decode cX8_moves 179 = .ok (.laload, 1) := by decide +kernel
theorem dX8_moves_180 : decode cX8_moves 180 = .ok (.aload_n 0, 1) := by decide +kernel
theorem dX8_moves_181 : decode cX8_moves 181 = .ok (.getfield 60, 3) := by decide +kernel
theorem dX8_moves_184 : decode cX8_moves 184 = .ok (.iload 5, 2) := by decide +kernel
theorem dX8_moves_186 : decode cX8_moves 186 = .ok (.laload, 1) := by decide +kernel
theorem dX8_moves_187 : decode cX8_moves 187 = .ok (.ladd, 1) := by decide +kernel
theorem dX8_moves_188 : decode cX8_moves 188 = .ok (.lastore, 1) := by decide +kernel
theorem dX8_moves_189 : decode cX8_moves 189 = .ok (.aload_n 0, 1) := by decide +kernel
theorem dX8_moves_190 : decode cX8_moves 190 = .ok (.getfield 56, 3) := by decide +kernel
theorem dX8_moves_193 : decode cX8_moves 193 = .ok (.iload 5, 2) := by decide +kernel
theorem dX8_moves_195 : decode cX8_moves 195 = .ok (.aload_n 0, 1) := by decide +kernel
theorem dX8_moves_196 : decode cX8_moves 196 = .ok (.getfield 56, 3) := by decide +kernel
theorem dX8_moves_199 : decode cX8_moves 199 = .ok (.iload 5, 2) := by decide +kernel
theorem dX8_moves_201 : decode cX8_moves 201 = .ok (.laload, 1) := by decide +kernel
theorem dX8_moves_202 : decode cX8_moves 202 = .ok (.lconst 0, 1) := by decide +kernel
theorem dX8_moves_203 : decode cX8_moves 203 = .ok (.lcmp, 1) := by decide +kernel
theorem dX8_moves_204 : decode cX8_moves 204 = .ok (.ifCond .ge 7, 3) := by decide +kernel
theorem dX8_moves_207 : decode cX8_moves 207 = .ok (.lconst 0, 1) := by decide +kernel
theorem dX8_moves_208 : decode cX8_moves 208 = .ok (.goto 10, 3) := by decide +kernel
theorem dX8_moves_211 : decode cX8_moves 211 = .ok (.aload_n 0, 1) := by decide +kernel
theorem dX8_moves_212 : decode cX8_moves 212 = .ok (.getfield 56, 3) := by decide +kernel
theorem dX8_moves_215 : decode cX8_moves 215 = .ok (.iload 5, 2) := by decide +kernel
theorem dX8_moves_217 : decode cX8_moves 217 = .ok (.laload, 1) := by decide +kernel
theorem dX8_moves_218 : decode cX8_moves 218 = .ok (.lastore, 1) := by decide +kernel
theorem dX8_moves_219 : decode cX8_moves 219 = .ok (.iinc 5 1, 3) := by decide +kernel
theorem dX8_moves_222 : decode cX8_moves 222 = .ok (.goto (-61), 3) := by decide +kernel
theorem dX8_moves_225 : decode cX8_moves 225 = .ok (.aload_n 0, 1) := by decide +kernel
theorem dX8_moves_226 : decode cX8_moves 226 = .ok (.aload_n 0, 1) := by decide +kernel
theorem dX8_moves_227 : decode cX8_moves 227 = .ok (.getfield 25, 3) := by decide +kernel
theorem dX8_moves_230 : decode cX8_moves 230 = .ok (.invokevirtual 277, 3) := by decide +kernel
theorem dX8_moves_233 : decode cX8_moves 233 = .ok (.lstore 5, 2) := by decide +kernel
theorem dX8_moves_235 : decode cX8_moves 235 = .ok (.lload 5, 2) := by decide +kernel
theorem dX8_moves_237 : decode cX8_moves 237 = .ok (.lload_n 2, 1) := by decide +kernel
theorem dX8_moves_238 : decode cX8_moves 238 = .ok (.lcmp, 1) := by decide +kernel
theorem dX8_moves_239 : decode cX8_moves 239 = .ok (.ifCond .le 8, 3) := by decide +kernel
theorem dX8_moves_242 : decode cX8_moves 242 = .ok (.lload 5, 2) := by decide +kernel
theorem dX8_moves_244 : decode cX8_moves 244 = .ok (.goto 4, 3) := by decide +kernel
theorem dX8_moves_247 : decode cX8_moves 247 = .ok (.lload_n 2, 1) := by decide +kernel
theorem dX8_moves_248 : decode cX8_moves 248 = .ok (.lstore_n 2, 1) := by decide +kernel
theorem dX8_moves_249 : decode cX8_moves 249 = .ok (.iinc 4 1, 3) := by decide +kernel
theorem dX8_moves_252 : decode cX8_moves 252 = .ok (.goto (-219), 3) := by decide +kernel
theorem dX8_moves_255 : decode cX8_moves 255 = .ok (.lload_n 2, 1) := by decide +kernel
theorem dX8_moves_256 : decode cX8_moves 256 = .ok (.lreturn, 1) := by decide +kernel
theorem dX8_moved_0 : decode cX8_moved 0 = .ok (.aload_n 0, 1) := by decide +kernel
theorem dX8_moved_1 : decode cX8_moved 1 = .ok (.invokevirtual 227, 3) := by decide +kernel
theorem dX8_moved_4 : decode cX8_moved 4 = .ok (.ifCond .ne 6, 3) := by decide +kernel
theorem dX8_moved_7 : decode cX8_moved 7 = .ok (.ldc 223, 2) := by decide +kernel
theorem dX8_moved_9 : decode cX8_moved 9 = .ok (.ireturn, 1) := by decide +kernel
theorem dX8_moved_10 : decode cX8_moved 10 = .ok (.iload_n 1, 1) := by decide +kernel
theorem dX8_moved_11 : decode cX8_moved 11 = .ok (.iconst 0, 1) := by decide +kernel
theorem dX8_moved_12 : decode cX8_moved 12 = .ok (.bipush 12, 2) := by decide +kernel
theorem dX8_moved_14 : decode cX8_moved 14 = .ok (.invokestatic 72, 3) := by decide +kernel
theorem dX8_moved_17 : decode cX8_moved 17 = .ok (.ifCond .eq 16, 3) := by decide +kernel
theorem dX8_moved_20 : decode cX8_moved 20 = .ok (.iload_n 2, 1) := by decide +kernel
theorem dX8_moved_21 : decode cX8_moved 21 = .ok (.iconst (-1), 1) := by decide +kernel
theorem dX8_moved_22 : decode cX8_moved 22 = .ok (.if_icmp .eq 14, 3) := by decide +kernel
theorem dX8_moved_25 : decode cX8_moved 25 = .ok (.aload_n 0, 1) := by decide +kernel
theorem dX8_moved_26 : decode cX8_moved 26 = .ok (.iload_n 2, 1) := by decide +kernel
theorem dX8_moved_27 : decode cX8_moved 27 = .ok (.invokevirtual 233, 3) := by decide +kernel
theorem dX8_moved_30 : decode cX8_moved 30 = .ok (.ifCond .ne 6, 3) := by decide +kernel
theorem dX8_moved_33 : decode cX8_moved 33 = .ok (.ldc 80, 2) := by decide +kernel
theorem dX8_moved_35 : decode cX8_moved 35 = .ok (.ireturn, 1) := by decide +kernel
theorem dX8_moved_36 : decode cX8_moved 36 = .ok (.aload_n 0, 1) := by decide +kernel
theorem dX8_moved_37 : decode cX8_moved 37 = .ok (.iload_n 1, 1) := by decide +kernel
theorem dX8_moved_38 : decode cX8_moved 38 = .ok (.invokevirtual 281, 3) := by decide +kernel
theorem dX8_moved_41 : decode cX8_moved 41 = .ok (.lstore_n 3, 1) := by decide +kernel
theorem dX8_moved_42 : decode cX8_moved 42 = .ok (.iload_n 2, 1) := by decide +kernel
theorem dX8_moved_43 : decode cX8_moved 43 = .ok (.iconst (-1), 1) := by decide +kernel
theorem dX8_moved_44 : decode cX8_moved 44 = .ok (.if_icmp .ne 7, 3) := by decide +kernel
theorem dX8_moved_47 : decode cX8_moved 47 = .ok (.lload_n 3, 1) := by decide +kernel
theorem dX8_moved_48 : decode cX8_moved 48 = .ok (.goto 9, 3) := by decide +kernel
theorem dX8_moved_51 : decode cX8_moved 51 = .ok (.aload_n 0, 1) := by decide +kernel
theorem dX8_moved_52 : decode cX8_moved 52 = .ok (.getfield 56, 3) := by decide +kernel
theorem dX8_moved_55 : decode cX8_moved 55 = .ok (.iload_n 2, 1) := by decide +kernel
theorem dX8_moved_56 : decode cX8_moved 56 = .ok (.laload, 1) := by decide +kernel
theorem dX8_moved_57 : decode cX8_moved 57 = .ok (.l2i, 1) := by decide +kernel
theorem dX8_moved_58 : decode cX8_moved 58 = .ok (.ireturn, 1) := by decide +kernel
theorem dX8_gap_0 : decode cX8_gap 0 = .ok (.aload_n 0, 1) := by decide +kernel
theorem dX8_gap_1 : decode cX8_gap 1 = .ok (.invokevirtual 227, 3) := by decide +kernel
theorem dX8_gap_4 : decode cX8_gap 4 = .ok (.ifCond .ne 6, 3) := by decide +kernel
theorem dX8_gap_7 : decode cX8_gap 7 = .ok (.ldc 223, 2) := by decide +kernel
theorem dX8_gap_9 : decode cX8_gap 9 = .ok (.ireturn, 1) := by decide +kernel
theorem dX8_gap_10 : decode cX8_gap 10 = .ok (.iload_n 1, 1) := by decide +kernel
theorem dX8_gap_11 : decode cX8_gap 11 = .ok (.iconst 0, 1) := by decide +kernel
theorem dX8_gap_12 : decode cX8_gap 12 = .ok (.bipush 12, 2) := by decide +kernel
theorem dX8_gap_14 : decode cX8_gap 14 = .ok (.invokestatic 72, 3) := by decide +kernel
theorem dX8_gap_17 : decode cX8_gap 17 = .ok (.ifCond .ne 6, 3) := by decide +kernel
theorem dX8_gap_20 : decode cX8_gap 20 = .ok (.ldc 80, 2) := by decide +kernel
theorem dX8_gap_22 : decode cX8_gap 22 = .ok (.ireturn, 1) := by decide +kernel
theorem dX8_gap_23 : decode cX8_gap 23 = .ok (.aload_n 0, 1) := by decide +kernel
theorem dX8_gap_24 : decode cX8_gap 24 = .ok (.aload_n 0, 1) := by decide +kernel
theorem dX8_gap_25 : decode cX8_gap 25 = .ok (.getfield 25, 3) := by decide +kernel
theorem dX8_gap_28 : decode cX8_gap 28 = .ok (.ldc 66, 2) := by decide +kernel
theorem dX8_gap_30 : decode cX8_gap 30 = .ok (.invokevirtual 230, 3) := by decide +kernel
theorem dX8_gap_33 : decode cX8_gap 33 = .ok (.istore_n 2, 1) := by decide +kernel
theorem dX8_gap_34 : decode cX8_gap 34 = .ok (.iload_n 2, 1) := by decide +kernel
theorem dX8_gap_35 : decode cX8_gap 35 = .ok (.ldc 66, 2) := by decide +kernel
theorem dX8_gap_37 : decode cX8_gap 37 = .ok (.if_icmp .ne 8, 3) := by decide +kernel
theorem dX8_gap_40 : decode cX8_gap 40 = .ok (.ldc 66, 2) := by decide +kernel
theorem dX8_gap_42 : decode cX8_gap 42 = .ok (.goto 11, 3) := by decide +kernel
theorem dX8_gap_45 : decode cX8_gap 45 = .ok (.iload_n 2, 1) := by decide +kernel
theorem dX8_gap_46 : decode cX8_gap 46 = .ok (.aload_n 0, 1) := by decide +kernel
theorem dX8_gap_47 : decode cX8_gap 47 = .ok (.iload_n 1, 1) := by decide +kernel
theorem dX8_gap_48 : decode cX8_gap 48 = .ok (.invokevirtual 281, 3) := by decide +kernel
theorem dX8_gap_51 : decode cX8_gap 51 = .ok (.l2i, 1) := by decide +kernel
theorem dX8_gap_52 : decode cX8_gap 52 = .ok (.isub, 1) := by decide +kernel
theorem dX8_gap_53 : decode cX8_gap 53 = .ok (.ireturn, 1) := by decide +kernel
theorem dX8_more_0 : decode cX8_more 0 = .ok (.aload_n 0, 1) := by decide +kernel
theorem dX8_more_1 : decode cX8_more 1 = .ok (.iload_n 1, 1) := by decide +kernel
theorem dX8_more_2 : decode cX8_more 2 = .ok (.invokevirtual 233, 3) := by decide +kernel
theorem dX8_more_5 : decode cX8_more 5 = .ok (.ifCond .ne 6, 3) := by decide +kernel
theorem dX8_more_8 : decode cX8_more 8 = .ok (.ldc 80, 2) := by decide +kernel
theorem dX8_more_10 : decode cX8_more 10 = .ok (.ireturn, 1) := by decide +kernel
theorem dX8_more_11 : decode cX8_more 11 = .ok (.aload_n 0, 1) := by decide +kernel
theorem dX8_more_12 : decode cX8_more 12 = .ok (.aload_n 0, 1) := by decide +kernel
theorem dX8_more_13 : decode cX8_more 13 = .ok (.getfield 25, 3) := by decide +kernel
theorem dX8_more_16 : decode cX8_more 16 = .ok (.ldc 66, 2) := by decide +kernel
theorem dX8_more_18 : decode cX8_more 18 = .ok (.invokevirtual 230, 3) := by decide +kernel
theorem dX8_more_21 : decode cX8_more 21 = .ok (.istore_n 2, 1) := by decide +kernel
theorem dX8_more_22 : decode cX8_more 22 = .ok (.aload_n 0, 1) := by decide +kernel
theorem dX8_more_23 : decode cX8_more 23 = .ok (.getfield 25, 3) := by decide +kernel
theorem dX8_more_26 : decode cX8_more 26 = .ok (.iconst 0, 1) := by decide +kernel
theorem dX8_more_27 : decode cX8_more 27 = .ok (.aload_n 0, 1) := by decide +kernel
theorem dX8_more_28 : decode cX8_more 28 = .ok (.getfield 31, 3) := by decide +kernel
theorem dX8_more_31 : decode cX8_more 31 = .ok (.iconst 0, 1) := by decide +kernel
theorem dX8_more_32 : decode cX8_more 32 = .ok (.invokestatic 154, 3) := by decide +kernel
theorem dX8_more_35 : decode cX8_more 35 = .ok (.aload_n 0, 1) := by decide +kernel
theorem dX8_more_36 : decode cX8_more 36 = .ok (.getfield 31, 3) := by decide +kernel
theorem dX8_more_39 : decode cX8_more 39 = .ok (.iconst 3, 1) := by decide +kernel
theorem dX8_more_40 : decode cX8_more 40 = .ok (.iload_n 1, 1) := by decide +kernel
theorem dX8_more_41 : decode cX8_more 41 = .ok (.iadd, 1) := by decide +kernel
theorem dX8_more_42 : decode cX8_more 42 = .ok (.dup2, 1) := by decide +kernel
theorem dX8_more_43 : decode cX8_more 43 = .ok (.iaload, 1) := by decide +kernel
theorem dX8_more_44 : decode cX8_more 44 = .ok (.iconst 1, 1) := by decide +kernel
theorem dX8_more_45 : decode cX8_more 45 = .ok (.iadd, 1) := by decide +kernel
theorem dX8_more_46 : decode cX8_more 46 = .ok (.iastore, 1) := by decide +kernel
theorem dX8_more_47 : decode cX8_more 47 = .ok (.aload_n 0, 1) := by decide +kernel
theorem dX8_more_48 : decode cX8_more 48 = .ok (.aload_n 0, 1) := by decide +kernel
theorem dX8_more_49 : decode cX8_more 49 = .ok (.getfield 31, 3) := by decide +kernel
theorem dX8_more_52 : decode cX8_more 52 = .ok (.ldc 66, 2) := by decide +kernel
theorem dX8_more_54 : decode cX8_more 54 = .ok (.invokevirtual 230, 3) := by decide +kernel
theorem dX8_more_57 : decode cX8_more 57 = .ok (.istore_n 3, 1) := by decide +kernel
theorem dX8_more_58 : decode cX8_more 58 = .ok (.iload_n 2, 1) := by decide +kernel
theorem dX8_more_59 : decode cX8_more 59 = .ok (.ldc 66, 2) := by decide +kernel
theorem dX8_more_61 : decode cX8_more 61 = .ok (.if_icmp .eq 9, 3) := by decide +kernel
theorem dX8_more_64 : decode cX8_more 64 = .ok (.iload_n 3, 1) := by decide +kernel
theorem dX8_more_65 : decode cX8_more 65 = .ok (.ldc 66, 2) := by decide +kernel
theorem dX8_more_67 : decode cX8_more 67 = .ok (.if_icmp .ne 8, 3) := by decide +kernel
theorem dX8_more_70 : decode cX8_more 70 = .ok (.ldc 66, 2) := by decide +kernel
theorem dX8_more_72 : decode cX8_more 72 = .ok (.goto 6, 3) := by decide +kernel
theorem dX8_more_75 : decode cX8_more 75 = .ok (.iload_n 3, 1) := by decide +kernel
theorem dX8_more_76 : decode cX8_more 76 = .ok (.iload_n 2, 1) := by decide +kernel
theorem dX8_more_77 : decode cX8_more 77 = .ok (.isub, 1) := by decide +kernel
theorem dX8_more_78 : decode cX8_more 78 = .ok (.ireturn, 1) := by decide +kernel
theorem dX8_wanted_0 : decode cX8_wanted 0 = .ok (.aload_n 0, 1) := by decide +kernel
theorem dX8_wanted_1 : decode cX8_wanted 1 = .ok (.invokevirtual 227, 3) := by decide +kernel
theorem dX8_wanted_4 : decode cX8_wanted 4 = .ok (.ifCond .ne 6, 3) := by decide +kernel
theorem dX8_wanted_7 : decode cX8_wanted 7 = .ok (.ldc 223, 2) := by decide +kernel
theorem dX8_wanted_9 : decode cX8_wanted 9 = .ok (.ireturn, 1) := by decide +kernel
theorem dX8_wanted_10 : decode cX8_wanted 10 = .ok (.aload_n 0, 1) := by decide +kernel
theorem dX8_wanted_11 : decode cX8_wanted 11 = .ok (.aload_n 0, 1) := by decide +kernel
theorem dX8_wanted_12 : decode cX8_wanted 12 = .ok (.getfield 25, 3) := by decide +kernel
theorem dX8_wanted_15 : decode cX8_wanted 15 = .ok (.ldc 66, 2) := by decide +kernel
theorem dX8_wanted_17 : decode cX8_wanted 17 = .ok (.invokevirtual 230, 3) := by decide +kernel
theorem dX8_wanted_20 : decode cX8_wanted 20 = .ok (.ldc 66, 2) := by decide +kernel
theorem dX8_wanted_22 : decode cX8_wanted 22 = .ok (.if_icmp .ne 6, 3) := by decide +kernel
theorem dX8_wanted_25 : decode cX8_wanted 25 = .ok (.ldc 66, 2) := by decide +kernel
theorem dX8_wanted_27 : decode cX8_wanted 27 = .ok (.ireturn, 1) := by decide +kernel
theorem dX8_wanted_28 : decode cX8_wanted 28 = .ok (.iconst 0, 1) := by decide +kernel
theorem dX8_wanted_29 : decode cX8_wanted 29 = .ok (.istore_n 1, 1) := by decide +kernel
theorem dX8_wanted_30 : decode cX8_wanted 30 = .ok (.iconst 0, 1) := by decide +kernel
theorem dX8_wanted_31 : decode cX8_wanted 31 = .ok (.istore_n 2, 1) := by decide +kernel
theorem dX8_wanted_32 : decode cX8_wanted 32 = .ok (.iload_n 2, 1) := by decide +kernel
theorem dX8_wanted_33 : decode cX8_wanted 33 = .ok (.aload_n 0, 1) := by decide +kernel
theorem dX8_wanted_34 : decode cX8_wanted 34 = .ok (.getfield 25, 3) := by decide +kernel
theorem dX8_wanted_37 : decode cX8_wanted 37 = .ok (.iconst 0, 1) := by decide +kernel
theorem dX8_wanted_38 : decode cX8_wanted 38 = .ok (.iaload, 1) := by decide +kernel
theorem dX8_wanted_39 : decode cX8_wanted 39 = .ok (.if_icmp .ge 33, 3) := by decide +kernel
theorem dX8_wanted_42 : decode cX8_wanted 42 = .ok (.iload_n 1, 1) := by decide +kernel
theorem dX8_wanted_43 : decode cX8_wanted 43 = .ok (.aload_n 0, 1) := by decide +kernel
theorem dX8_wanted_44 : decode cX8_wanted 44 = .ok (.aload_n 0, 1) := by decide +kernel
theorem dX8_wanted_45 : decode cX8_wanted 45 = .ok (.getfield 25, 3) := by decide +kernel
theorem dX8_wanted_48 : decode cX8_wanted 48 = .ok (.iload_n 2, 1) := by decide +kernel
theorem dX8_wanted_49 : decode cX8_wanted 49 = .ok (.invokevirtual 230, 3) := by decide +kernel
theorem dX8_wanted_52 : decode cX8_wanted 52 = .ok (.ldc 66, 2) := by decide +kernel
theorem dX8_wanted_54 : decode cX8_wanted 54 = .ok (.if_icmp .ne 9, 3) := by decide +kernel
theorem dX8_wanted_57 : decode cX8_wanted 57 = .ok (.iconst 1, 1) := by decide +kernel
theorem dX8_wanted_58 : decode cX8_wanted 58 = .ok (.iload_n 2, 1) := by decide +kernel
theorem dX8_wanted_59 : decode cX8_wanted 59 = .ok (.ishl, 1) := by decide +kernel
theorem dX8_wanted_60 : decode cX8_wanted 60 = .ok (.goto 4, 3) := by decide +kernel
theorem dX8_wanted_63 : decode cX8_wanted 63 = .ok (.iconst 0, 1) := by decide +kernel
theorem dX8_wanted_64 : decode cX8_wanted 64 = .ok (.ior, 1) := by decide +kernel
theorem dX8_wanted_65 : decode cX8_wanted 65 = .ok (.istore_n 1, 1) := by decide +kernel
theorem dX8_wanted_66 : decode cX8_wanted 66 = .ok (.iinc 2 1, 3) := by decide +kernel
theorem dX8_wanted_69 : decode cX8_wanted 69 = .ok (.goto (-37), 3) := by decide +kernel
theorem dX8_wanted_72 : decode cX8_wanted 72 = .ok (.iload_n 1, 1) := by decide +kernel
theorem dX8_wanted_73 : decode cX8_wanted 73 = .ok (.ireturn, 1) := by decide +kernel
theorem dX8_who_0 : decode cX8_who 0 = .ok (.aload_n 0, 1) := by decide +kernel
theorem dX8_who_1 : decode cX8_who 1 = .ok (.invokevirtual 227, 3) := by decide +kernel
theorem dX8_who_4 : decode cX8_who 4 = .ok (.ifCond .ne 6, 3) := by decide +kernel
theorem dX8_who_7 : decode cX8_who 7 = .ok (.ldc 223, 2) := by decide +kernel
theorem dX8_who_9 : decode cX8_who 9 = .ok (.ireturn, 1) := by decide +kernel
theorem dX8_who_10 : decode cX8_who 10 = .ok (.iload_n 1, 1) := by decide +kernel
theorem dX8_who_11 : decode cX8_who 11 = .ok (.iconst 0, 1) := by decide +kernel
theorem dX8_who_12 : decode cX8_who 12 = .ok (.iconst 3, 1) := by decide +kernel
theorem dX8_who_13 : decode cX8_who 13 = .ok (.invokestatic 72, 3) := by decide +kernel
theorem dX8_who_16 : decode cX8_who 16 = .ok (.ifCond .eq 31, 3) := by decide +kernel
theorem dX8_who_19 : decode cX8_who 19 = .ok (.iload_n 1, 1) := by decide +kernel
theorem dX8_who_20 : decode cX8_who 20 = .ok (.iconst 2, 1) := by decide +kernel
theorem dX8_who_21 : decode cX8_who 21 = .ok (.if_icmp .ge 14, 3) := by decide +kernel
theorem dX8_who_24 : decode cX8_who 24 = .ok (.aload_n 0, 1) := by decide +kernel
theorem dX8_who_25 : decode cX8_who 25 = .ok (.iload_n 2, 1) := by decide +kernel
theorem dX8_who_26 : decode cX8_who 26 = .ok (.invokevirtual 233, 3) := by decide +kernel
theorem dX8_who_29 : decode cX8_who 29 = .ok (.ifCond .eq 18, 3) := by decide +kernel
theorem dX8_who_32 : decode cX8_who 32 = .ok (.goto 11, 3) := by decide +kernel
theorem dX8_who_35 : decode cX8_who 35 = .ok (.aload_n 0, 1) := by decide +kernel
theorem dX8_who_36 : decode cX8_who 36 = .ok (.iload_n 2, 1) := by decide +kernel
theorem dX8_who_37 : decode cX8_who 37 = .ok (.invokevirtual 220, 3) := by decide +kernel
theorem dX8_who_40 : decode cX8_who 40 = .ok (.ifCond .eq 7, 3) := by decide +kernel
theorem dX8_who_43 : decode cX8_who 43 = .ok (.iconst 1, 1) := by decide +kernel
theorem dX8_who_44 : decode cX8_who 44 = .ok (.goto 4, 3) := by decide +kernel
theorem dX8_who_47 : decode cX8_who 47 = .ok (.iconst 0, 1) := by decide +kernel
theorem dX8_who_48 : decode cX8_who 48 = .ok (.istore 4, 2) := by decide +kernel
theorem dX8_who_50 : decode cX8_who 50 = .ok (.iload 4, 2) := by decide +kernel
theorem dX8_who_52 : decode cX8_who 52 = .ok (.ifCond .eq 14, 3) := by decide +kernel
theorem dX8_who_55 : decode cX8_who 55 = .ok (.iload_n 3, 1) := by decide +kernel
theorem dX8_who_56 : decode cX8_who 56 = .ok (.iconst 0, 1) := by decide +kernel
theorem dX8_who_57 : decode cX8_who 57 = .ok (.ldc_w 285, 3) := by decide +kernel
theorem dX8_who_60 : decode cX8_who 60 = .ok (.invokestatic 72, 3) := by decide +kernel
theorem dX8_who_63 : decode cX8_who 63 = .ok (.ifCond .ne 6, 3) := by decide +kernel
theorem dX8_who_66 : decode cX8_who 66 = .ok (.ldc 80, 2) := by decide +kernel
theorem dX8_who_68 : decode cX8_who 68 = .ok (.ireturn, 1) := by decide +kernel
theorem dX8_who_69 : decode cX8_who 69 = .ok (.aload_n 0, 1) := by decide +kernel
theorem dX8_who_70 : decode cX8_who 70 = .ok (.getfield 25, 3) := by decide +kernel
theorem dX8_who_73 : decode cX8_who 73 = .ok (.iconst 0, 1) := by decide +kernel
theorem dX8_who_74 : decode cX8_who 74 = .ok (.aload_n 0, 1) := by decide +kernel
theorem dX8_who_75 : decode cX8_who 75 = .ok (.getfield 31, 3) := by decide +kernel
theorem dX8_who_78 : decode cX8_who 78 = .ok (.iconst 0, 1) := by decide +kernel
theorem dX8_who_79 : decode cX8_who 79 = .ok (.invokestatic 154, 3) := by decide +kernel
theorem dX8_who_82 : decode cX8_who 82 = .ok (.iload_n 1, 1) := by decide +kernel
theorem dX8_who_83 : decode cX8_who 83 = .ok (.iconst 2, 1) := by decide +kernel
theorem dX8_who_84 : decode cX8_who 84 = .ok (.if_icmp .ge 9, 3) := by decide +kernel
theorem dX8_who_87 : decode cX8_who 87 = .ok (.iconst 3, 1) := by decide +kernel
theorem dX8_who_88 : decode cX8_who 88 = .ok (.iload_n 2, 1) := by decide +kernel
theorem dX8_who_89 : decode cX8_who 89 = .ok (.iadd, 1) := by decide +kernel
theorem dX8_who_90 : decode cX8_who 90 = .ok (.goto 27, 3) := by decide +kernel
theorem dX8_who_93 : decode cX8_who 93 = .ok (.iload_n 1, 1) := by decide +kernel
theorem dX8_who_94 : decode cX8_who 94 = .ok (.iconst 2, 1) := by decide +kernel
theorem dX8_who_95 : decode cX8_who 95 = .ok (.if_icmp .ne 13, 3) := by decide +kernel
theorem dX8_who_98 : decode cX8_who 98 = .ok (.bipush 9, 2) := by decide +kernel
theorem dX8_who_100 : decode cX8_who 100 = .ok (.bipush 8, 2) := by decide +kernel
theorem dX8_who_102 : decode cX8_who 102 = .ok (.iload_n 2, 1) := by decide +kernel
theorem dX8_who_103 : decode cX8_who 103 = .ok (.imul, 1) := by decide +kernel
theorem dX8_who_104 : decode cX8_who 104 = .ok (.iadd, 1) := by decide +kernel
theorem dX8_who_105 : decode cX8_who 105 = .ok (.goto 12, 3) := by decide +kernel
theorem dX8_who_108 : decode cX8_who 108 = .ok (.bipush 9, 2) := by decide +kernel
theorem dX8_who_110 : decode cX8_who 110 = .ok (.bipush 8, 2) := by decide +kernel
theorem dX8_who_112 : decode cX8_who 112 = .ok (.iload_n 2, 1) := by decide +kernel
theorem dX8_who_113 : decode cX8_who 113 = .ok (.imul, 1) := by decide +kernel
theorem dX8_who_114 : decode cX8_who 114 = .ok (.iadd, 1) := by decide +kernel
theorem dX8_who_115 : decode cX8_who 115 = .ok (.iconst 3, 1) := by decide +kernel
theorem dX8_who_116 : decode cX8_who 116 = .ok (.iadd, 1) := by decide +kernel
theorem dX8_who_117 : decode cX8_who 117 = .ok (.istore 5, 2) := by decide +kernel
theorem dX8_who_119 : decode cX8_who 119 = .ok (.iconst 0, 1) := by decide +kernel
theorem dX8_who_120 : decode cX8_who 120 = .ok (.istore 6, 2) := by decide +kernel
theorem dX8_who_122 : decode cX8_who 122 = .ok (.iconst 0, 1) := by decide +kernel
theorem dX8_who_123 : decode cX8_who 123 = .ok (.istore 7, 2) := by decide +kernel
theorem dX8_who_125 : decode cX8_who 125 = .ok (.ldc 66, 2) := by decide +kernel
theorem dX8_who_127 : decode cX8_who 127 = .ok (.istore 8, 2) := by decide +kernel
theorem dX8_who_129 : decode cX8_who 129 = .ok (.iload_n 1, 1) := by decide +kernel
theorem dX8_who_130 : decode cX8_who 130 = .ok (.iconst 2, 1) := by decide +kernel
theorem dX8_who_131 : decode cX8_who 131 = .ok (.if_icmp .ge 8, 3) := by decide +kernel
theorem dX8_who_134 : decode cX8_who 134 = .ok (.bipush 60, 2) := by decide +kernel
theorem dX8_who_136 : decode cX8_who 136 = .ok (.goto 14, 3) := by decide +kernel
theorem dX8_who_139 : decode cX8_who 139 = .ok (.iload_n 1, 1) := by decide +kernel
theorem dX8_who_140 : decode cX8_who 140 = .ok (.iconst 2, 1) := by decide +kernel
theorem dX8_who_141 : decode cX8_who 141 = .ok (.if_icmp .ne 7, 3) := by decide +kernel
theorem dX8_who_144 : decode cX8_who 144 = .ok (.iconst 5, 1) := by decide +kernel
theorem dX8_who_145 : decode cX8_who 145 = .ok (.goto 5, 3) := by decide +kernel
theorem dX8_who_148 : decode cX8_who 148 = .ok (.bipush 9, 2) := by decide +kernel
theorem dX8_who_150 : decode cX8_who 150 = .ok (.istore 9, 2) := by decide +kernel
theorem dX8_who_152 : decode cX8_who 152 = .ok (.iload 9, 2) := by decide +kernel
theorem dX8_who_154 : decode cX8_who 154 = .ok (.iload_n 1, 1) := by decide +kernel
theorem dX8_who_155 : decode cX8_who 155 = .ok (.iconst 2, 1) := by decide +kernel
theorem dX8_who_156 : decode cX8_who 156 = .ok (.if_icmp .ge 7, 3) := by decide +kernel
theorem dX8_who_159 : decode cX8_who 159 = .ok (.iconst 0, 1) := by decide +kernel
theorem dX8_who_160 : decode cX8_who 160 = .ok (.goto 4, 3) := by decide +kernel
theorem dX8_who_163 : decode cX8_who 163 = .ok (.iconst 1, 1) := by decide +kernel
theorem dX8_who_164 : decode cX8_who 164 = .ok (.if_icmp .lt 57, 3) := by decide +kernel
theorem dX8_who_167 : decode cX8_who 167 = .ok (.aload_n 0, 1) := by decide +kernel
theorem dX8_who_168 : decode cX8_who 168 = .ok (.getfield 31, 3) := by decide +kernel
theorem dX8_who_171 : decode cX8_who 171 = .ok (.iload 5, 2) := by decide +kernel
theorem dX8_who_173 : decode cX8_who 173 = .ok (.iload 9, 2) := by decide +kernel
theorem dX8_who_175 : decode cX8_who 175 = .ok (.iastore, 1) := by decide +kernel
theorem dX8_who_176 : decode cX8_who 176 = .ok (.aload_n 0, 1) := by decide +kernel
theorem dX8_who_177 : decode cX8_who 177 = .ok (.aload_n 0, 1) := by decide +kernel
theorem dX8_who_178 : decode cX8_who 178 = .ok (.getfield 31, 3) := by decide +kernel
theorem dX8_who_181 : decode cX8_who 181 = .ok (.ldc 66, 2) := by decide +kernel
theorem dX8_who_183 : decode cX8_who 183 = .ok (.invokevirtual 230, 3) := by decide +kernel
theorem dX8_who_186 : decode cX8_who 186 = .ok (.iload_n 3, 1) := by decide +kernel
theorem dX8_who_187 : decode cX8_who 187 = .ok (.if_icmp .ne 28, 3) := by decide +kernel
theorem dX8_who_190 : decode cX8_who 190 = .ok (.iload 6, 2) := by decide +kernel
theorem dX8_who_192 : decode cX8_who 192 = .ok (.iload_n 1, 1) := by decide +kernel
theorem dX8_who_193 : decode cX8_who 193 = .ok (.iconst 1, 1) := by decide +kernel
theorem dX8_who_194 : decode cX8_who 194 = .ok (.if_icmp .le 10, 3) := by decide +kernel
theorem dX8_who_197 : decode cX8_who 197 = .ok (.iconst 1, 1) := by decide +kernel
theorem dX8_who_198 : decode cX8_who 198 = .ok (.iload 9, 2) := by decide +kernel
theorem dX8_who_200 : decode cX8_who 200 = .ok (.ishl, 1) := by decide +kernel
theorem dX8_who_201 : decode cX8_who 201 = .ok (.goto 4, 3) := by decide +kernel
theorem dX8_who_204 : decode cX8_who 204 = .ok (.iconst 0, 1) := by decide +kernel
theorem dX8_who_205 : decode cX8_who 205 = .ok (.ior, 1) := by decide +kernel
theorem dX8_who_206 : decode cX8_who 206 = .ok (.istore 6, 2) := by decide +kernel
theorem dX8_who_208 : decode cX8_who 208 = .ok (.iinc 7 1, 3) := by decide +kernel
theorem dX8_who_211 : decode cX8_who 211 = .ok (.iload 9, 2) := by decide +kernel
theorem dX8_who_213 : decode cX8_who 213 = .ok (.istore 8, 2) := by decide +kernel
theorem dX8_who_215 : decode cX8_who 215 = .ok (.iinc 9 (-1), 3) := by decide +kernel
theorem dX8_who_218 : decode cX8_who 218 = .ok (.goto (-66), 3) := by decide +kernel
theorem dX8_who_221 : decode cX8_who 221 = .ok (.iload_n 1, 1) := by decide +kernel
theorem dX8_who_222 : decode cX8_who 222 = .ok (.ifCond .ne 8, 3) := by decide +kernel
theorem dX8_who_225 : decode cX8_who 225 = .ok (.iload 7, 2) := by decide +kernel
theorem dX8_who_227 : decode cX8_who 227 = .ok (.goto 15, 3) := by decide +kernel
theorem dX8_who_230 : decode cX8_who 230 = .ok (.iload_n 1, 1) := by decide +kernel
theorem dX8_who_231 : decode cX8_who 231 = .ok (.iconst 1, 1) := by decide +kernel
theorem dX8_who_232 : decode cX8_who 232 = .ok (.if_icmp .ne 8, 3) := by decide +kernel
theorem dX8_who_235 : decode cX8_who 235 = .ok (.iload 8, 2) := by decide +kernel
theorem dX8_who_237 : decode cX8_who 237 = .ok (.goto 5, 3) := by decide +kernel
theorem dX8_who_240 : decode cX8_who 240 = .ok (.iload 6, 2) := by decide +kernel
theorem dX8_who_242 : decode cX8_who 242 = .ok (.ireturn, 1) := by decide +kernel
theorem dX8_fits_0 : decode cX8_fits 0 = .ok (.aload_n 0, 1) := by decide +kernel
theorem dX8_fits_1 : decode cX8_fits 1 = .ok (.iload_n 1, 1) := by decide +kernel
theorem dX8_fits_2 : decode cX8_fits 2 = .ok (.invokevirtual 220, 3) := by decide +kernel
theorem dX8_fits_5 : decode cX8_fits 5 = .ok (.ifCond .eq 24, 3) := by decide +kernel
theorem dX8_fits_8 : decode cX8_fits 8 = .ok (.iload_n 2, 1) := by decide +kernel
theorem dX8_fits_9 : decode cX8_fits 9 = .ok (.invokestatic 76, 3) := by decide +kernel
theorem dX8_fits_12 : decode cX8_fits 12 = .ok (.ifCond .eq 17, 3) := by decide +kernel
theorem dX8_fits_15 : decode cX8_fits 15 = .ok (.iload_n 3, 1) := by decide +kernel
theorem dX8_fits_16 : decode cX8_fits 16 = .ok (.iconst 1, 1) := by decide +kernel
theorem dX8_fits_17 : decode cX8_fits 17 = .ok (.aload_n 0, 1) := by decide +kernel
theorem dX8_fits_18 : decode cX8_fits 18 = .ok (.getfield 25, 3) := by decide +kernel
theorem dX8_fits_21 : decode cX8_fits 21 = .ok (.iconst 1, 1) := by decide +kernel
theorem dX8_fits_22 : decode cX8_fits 22 = .ok (.iaload, 1) := by decide +kernel
theorem dX8_fits_23 : decode cX8_fits 23 = .ok (.invokestatic 72, 3) := by decide +kernel
theorem dX8_fits_26 : decode cX8_fits 26 = .ok (.ifCond .ne 6, 3) := by decide +kernel
theorem dX8_fits_29 : decode cX8_fits 29 = .ok (.ldc 80, 2) := by decide +kernel
theorem dX8_fits_31 : decode cX8_fits 31 = .ok (.ireturn, 1) := by decide +kernel
theorem dX8_fits_32 : decode cX8_fits 32 = .ok (.aload_n 0, 1) := by decide +kernel
theorem dX8_fits_33 : decode cX8_fits 33 = .ok (.iload_n 2, 1) := by decide +kernel
theorem dX8_fits_34 : decode cX8_fits 34 = .ok (.invokevirtual 88, 3) := by decide +kernel
theorem dX8_fits_37 : decode cX8_fits 37 = .ok (.ifCond .eq 9, 3) := by decide +kernel
theorem dX8_fits_40 : decode cX8_fits 40 = .ok (.aload_n 0, 1) := by decide +kernel
theorem dX8_fits_41 : decode cX8_fits 41 = .ok (.iconst 1, 1) := by decide +kernel
theorem dX8_fits_42 : decode cX8_fits 42 = .ok (.invokevirtual 81, 3) := by decide +kernel
theorem dX8_fits_45 : decode cX8_fits 45 = .ok (.ireturn, 1) := by decide +kernel
theorem dX8_fits_46 : decode cX8_fits 46 = .ok (.aload_n 0, 1) := by decide +kernel
theorem dX8_fits_47 : decode cX8_fits 47 = .ok (.iload_n 2, 1) := by decide +kernel
theorem dX8_fits_48 : decode cX8_fits 48 = .ok (.iconst 0, 1) := by decide +kernel
theorem dX8_fits_49 : decode cX8_fits 49 = .ok (.iload_n 3, 1) := by decide +kernel
theorem dX8_fits_50 : decode cX8_fits 50 = .ok (.invokevirtual 95, 3) := by decide +kernel
theorem dX8_fits_53 : decode cX8_fits 53 = .ok (.ifCond .ne 9, 3) := by decide +kernel
theorem dX8_fits_56 : decode cX8_fits 56 = .ok (.aload_n 0, 1) := by decide +kernel
theorem dX8_fits_57 : decode cX8_fits 57 = .ok (.iconst 2, 1) := by decide +kernel
theorem dX8_fits_58 : decode cX8_fits 58 = .ok (.invokevirtual 81, 3) := by decide +kernel
theorem dX8_fits_61 : decode cX8_fits 61 = .ok (.ireturn, 1) := by decide +kernel
theorem dX8_fits_62 : decode cX8_fits 62 = .ok (.aload_n 0, 1) := by decide +kernel
theorem dX8_fits_63 : decode cX8_fits 63 = .ok (.getfield 25, 3) := by decide +kernel
theorem dX8_fits_66 : decode cX8_fits 66 = .ok (.iconst 0, 1) := by decide +kernel
theorem dX8_fits_67 : decode cX8_fits 67 = .ok (.aload_n 0, 1) := by decide +kernel
theorem dX8_fits_68 : decode cX8_fits 68 = .ok (.getfield 31, 3) := by decide +kernel
theorem dX8_fits_71 : decode cX8_fits 71 = .ok (.iconst 0, 1) := by decide +kernel
theorem dX8_fits_72 : decode cX8_fits 72 = .ok (.invokestatic 154, 3) := by decide +kernel
theorem dX8_fits_75 : decode cX8_fits 75 = .ok (.iconst 0, 1) := by decide +kernel
theorem dX8_fits_76 : decode cX8_fits 76 = .ok (.istore 4, 2) := by decide +kernel
theorem dX8_fits_78 : decode cX8_fits 78 = .ok (.iconst 1, 1) := by decide +kernel
theorem dX8_fits_79 : decode cX8_fits 79 = .ok (.istore 5, 2) := by decide +kernel
theorem dX8_fits_81 : decode cX8_fits 81 = .ok (.iload 5, 2) := by decide +kernel
theorem dX8_fits_83 : decode cX8_fits 83 = .ok (.bipush 6, 2) := by decide +kernel
theorem dX8_fits_85 : decode cX8_fits 85 = .ok (.if_icmp .ge 112, 3) := by decide +kernel
theorem dX8_fits_88 : decode cX8_fits 88 = .ok (.aload_n 0, 1) := by decide +kernel
theorem dX8_fits_89 : decode cX8_fits 89 = .ok (.getfield 31, 3) := by decide +kernel
theorem dX8_fits_92 : decode cX8_fits 92 = .ok (.bipush 9, 2) := by decide +kernel
theorem dX8_fits_94 : decode cX8_fits 94 = .ok (.bipush 8, 2) := by decide +kernel
theorem dX8_fits_96 : decode cX8_fits 96 = .ok (.iload_n 1, 1) := by decide +kernel
theorem dX8_fits_97 : decode cX8_fits 97 = .ok (.imul, 1) := by decide +kernel
theorem dX8_fits_98 : decode cX8_fits 98 = .ok (.iadd, 1) := by decide +kernel
theorem dX8_fits_99 : decode cX8_fits 99 = .ok (.iload 5, 2) := by decide +kernel
theorem dX8_fits_101 : decode cX8_fits 101 = .ok (.iastore, 1) := by decide +kernel
theorem dX8_fits_102 : decode cX8_fits 102 = .ok (.aload_n 0, 1) := by decide +kernel
theorem dX8_fits_103 : decode cX8_fits 103 = .ok (.aload_n 0, 1) := by decide +kernel
theorem dX8_fits_104 : decode cX8_fits 104 = .ok (.getfield 31, 3) := by decide +kernel
theorem dX8_fits_107 : decode cX8_fits 107 = .ok (.ldc 66, 2) := by decide +kernel
theorem dX8_fits_109 : decode cX8_fits 109 = .ok (.invokevirtual 230, 3) := by decide +kernel
theorem dX8_fits_112 : decode cX8_fits 112 = .ok (.ldc 66, 2) := by decide +kernel
theorem dX8_fits_114 : decode cX8_fits 114 = .ok (.if_icmp .eq 7, 3) := by decide +kernel
theorem dX8_fits_117 : decode cX8_fits 117 = .ok (.iconst 1, 1) := by decide +kernel
theorem dX8_fits_118 : decode cX8_fits 118 = .ok (.goto 4, 3) := by decide +kernel
theorem dX8_fits_121 : decode cX8_fits 121 = .ok (.iconst 0, 1) := by decide +kernel
theorem dX8_fits_122 : decode cX8_fits 122 = .ok (.istore 6, 2) := by decide +kernel
theorem dX8_fits_124 : decode cX8_fits 124 = .ok (.iconst 0, 1) := by decide +kernel
theorem dX8_fits_125 : decode cX8_fits 125 = .ok (.istore 7, 2) := by decide +kernel
theorem dX8_fits_127 : decode cX8_fits 127 = .ok (.iload 7, 2) := by decide +kernel
theorem dX8_fits_129 : decode cX8_fits 129 = .ok (.iload_n 3, 1) := by decide +kernel
theorem dX8_fits_130 : decode cX8_fits 130 = .ok (.if_icmp .ge 43, 3) := by decide +kernel
theorem dX8_fits_133 : decode cX8_fits 133 = .ok (.iload 6, 2) := by decide +kernel
theorem dX8_fits_135 : decode cX8_fits 135 = .ok (.ifCond .eq 38, 3) := by decide +kernel
theorem dX8_fits_138 : decode cX8_fits 138 = .ok (.aload_n 0, 1) := by decide +kernel
theorem dX8_fits_139 : decode cX8_fits 139 = .ok (.getfield 53, 3) := by decide +kernel
theorem dX8_fits_142 : decode cX8_fits 142 = .ok (.iload 7, 2) := by decide +kernel
theorem dX8_fits_144 : decode cX8_fits 144 = .ok (.iaload, 1) := by decide +kernel
theorem dX8_fits_145 : decode cX8_fits 145 = .ok (.aload_n 0, 1) := by decide +kernel
theorem dX8_fits_146 : decode cX8_fits 146 = .ok (.getfield 16, 3) := by decide +kernel
theorem dX8_fits_149 : decode cX8_fits 149 = .ok (.bipush 40, 2) := by decide +kernel
theorem dX8_fits_151 : decode cX8_fits 151 = .ok (.iload_n 2, 1) := by decide +kernel
theorem dX8_fits_152 : decode cX8_fits 152 = .ok (.imul, 1) := by decide +kernel
theorem dX8_fits_153 : decode cX8_fits 153 = .ok (.iload 7, 2) := by decide +kernel
theorem dX8_fits_155 : decode cX8_fits 155 = .ok (.iadd, 1) := by decide +kernel
theorem dX8_fits_156 : decode cX8_fits 156 = .ok (.iaload, 1) := by decide +kernel
theorem dX8_fits_157 : decode cX8_fits 157 = .ok (.if_icmp .ne 7, 3) := by decide +kernel
theorem dX8_fits_160 : decode cX8_fits 160 = .ok (.iconst 1, 1) := by decide +kernel
theorem dX8_fits_161 : decode cX8_fits 161 = .ok (.goto 4, 3) := by decide +kernel
theorem dX8_fits_164 : decode cX8_fits 164 = .ok (.iconst 0, 1) := by decide +kernel
theorem dX8_fits_165 : decode cX8_fits 165 = .ok (.istore 6, 2) := by decide +kernel
theorem dX8_fits_167 : decode cX8_fits 167 = .ok (.iinc 7 1, 3) := by decide +kernel
theorem dX8_fits_170 : decode cX8_fits 170 = .ok (.goto (-43), 3) := by decide +kernel
theorem dX8_fits_173 : decode cX8_fits 173 = .ok (.iload 4, 2) := by decide +kernel
theorem dX8_fits_175 : decode cX8_fits 175 = .ok (.iload 6, 2) := by decide +kernel
theorem dX8_fits_177 : decode cX8_fits 177 = .ok (.ifCond .eq 10, 3) := by decide +kernel
theorem dX8_fits_180 : decode cX8_fits 180 = .ok (.iconst 1, 1) := by decide +kernel
theorem dX8_fits_181 : decode cX8_fits 181 = .ok (.iload 5, 2) := by decide +kernel
theorem dX8_fits_183 : decode cX8_fits 183 = .ok (.ishl, 1) := by decide +kernel
theorem dX8_fits_184 : decode cX8_fits 184 = .ok (.goto 4, 3) := by decide +kernel
theorem dX8_fits_187 : decode cX8_fits 187 = .ok (.iconst 0, 1) := by decide +kernel
theorem dX8_fits_188 : decode cX8_fits 188 = .ok (.ior, 1) := by decide +kernel
theorem dX8_fits_189 : decode cX8_fits 189 = .ok (.istore 4, 2) := by decide +kernel
theorem dX8_fits_191 : decode cX8_fits 191 = .ok (.iinc 5 1, 3) := by decide +kernel
theorem dX8_fits_194 : decode cX8_fits 194 = .ok (.goto (-113), 3) := by decide +kernel
theorem dX8_fits_197 : decode cX8_fits 197 = .ok (.aload_n 0, 1) := by decide +kernel
theorem dX8_fits_198 : decode cX8_fits 198 = .ok (.iload 4, 2) := by decide +kernel
theorem dX8_fits_200 : decode cX8_fits 200 = .ok (.invokevirtual 85, 3) := by decide +kernel
theorem dX8_fits_203 : decode cX8_fits 203 = .ok (.ireturn, 1) := by decide +kernel
theorem dX8_drawn_0 : decode cX8_drawn 0 = .ok (.aload_n 0, 1) := by decide +kernel
theorem dX8_drawn_1 : decode cX8_drawn 1 = .ok (.invokevirtual 227, 3) := by decide +kernel
theorem dX8_drawn_4 : decode cX8_drawn 4 = .ok (.ifCond .ne 6, 3) := by decide +kernel
theorem dX8_drawn_7 : decode cX8_drawn 7 = .ok (.ldc 223, 2) := by decide +kernel
theorem dX8_drawn_9 : decode cX8_drawn 9 = .ok (.ireturn, 1) := by decide +kernel
theorem dX8_drawn_10 : decode cX8_drawn 10 = .ok (.iload_n 1, 1) := by decide +kernel
theorem dX8_drawn_11 : decode cX8_drawn 11 = .ok (.iconst 0, 1) := by decide +kernel
theorem dX8_drawn_12 : decode cX8_drawn 12 = .ok (.bipush 8, 2) := by decide +kernel
theorem dX8_drawn_14 : decode cX8_drawn 14 = .ok (.invokestatic 72, 3) := by decide +kernel
theorem dX8_drawn_17 : decode cX8_drawn 17 = .ok (.ifCond .eq 23, 3) := by decide +kernel
theorem dX8_drawn_20 : decode cX8_drawn 20 = .ok (.iload_n 2, 1) := by decide +kernel
theorem dX8_drawn_21 : decode cX8_drawn 21 = .ok (.iconst 1, 1) := by decide +kernel
theorem dX8_drawn_22 : decode cX8_drawn 22 = .ok (.ldc_w 286, 3) := by decide +kernel
theorem dX8_drawn_25 : decode cX8_drawn 25 = .ok (.invokestatic 72, 3) := by decide +kernel
theorem dX8_drawn_28 : decode cX8_drawn 28 = .ok (.ifCond .eq 12, 3) := by decide +kernel
theorem dX8_drawn_31 : decode cX8_drawn 31 = .ok (.iload_n 3, 1) := by decide +kernel
theorem dX8_drawn_32 : decode cX8_drawn 32 = .ok (.iconst 0, 1) := by decide +kernel
theorem dX8_drawn_33 : decode cX8_drawn 33 = .ok (.iconst 1, 1) := by decide +kernel
theorem dX8_drawn_34 : decode cX8_drawn 34 = .ok (.invokestatic 72, 3) := by decide +kernel
theorem dX8_drawn_37 : decode cX8_drawn 37 = .ok (.ifCond .ne 6, 3) := by decide +kernel
theorem dX8_drawn_40 : decode cX8_drawn 40 = .ok (.ldc 80, 2) := by decide +kernel
theorem dX8_drawn_42 : decode cX8_drawn 42 = .ok (.ireturn, 1) := by decide +kernel
theorem dX8_drawn_43 : decode cX8_drawn 43 = .ok (.aload_n 0, 1) := by decide +kernel
theorem dX8_drawn_44 : decode cX8_drawn 44 = .ok (.getfield 25, 3) := by decide +kernel
theorem dX8_drawn_47 : decode cX8_drawn 47 = .ok (.iconst 0, 1) := by decide +kernel
theorem dX8_drawn_48 : decode cX8_drawn 48 = .ok (.aload_n 0, 1) := by decide +kernel
theorem dX8_drawn_49 : decode cX8_drawn 49 = .ok (.getfield 31, 3) := by decide +kernel
theorem dX8_drawn_52 : decode cX8_drawn 52 = .ok (.iconst 0, 1) := by decide +kernel
theorem dX8_drawn_53 : decode cX8_drawn 53 = .ok (.invokestatic 154, 3) := by decide +kernel
theorem dX8_drawn_56 : decode cX8_drawn 56 = .ok (.iload_n 2, 1) := by decide +kernel
theorem dX8_drawn_57 : decode cX8_drawn 57 = .ok (.i2l, 1) := by decide +kernel
theorem dX8_drawn_58 : decode cX8_drawn 58 = .ok (.lstore 4, 2) := by decide +kernel
theorem dX8_drawn_60 : decode cX8_drawn 60 = .ok (.iconst 0, 1) := by decide +kernel
theorem dX8_drawn_61 : decode cX8_drawn 61 = .ok (.istore 6, 2) := by decide +kernel
theorem dX8_drawn_63 : decode cX8_drawn 63 = .ok (.iconst 0, 1) := by decide +kernel
theorem dX8_drawn_64 : decode cX8_drawn 64 = .ok (.istore 7, 2) := by decide +kernel
theorem dX8_drawn_66 : decode cX8_drawn 66 = .ok (.iconst 0, 1) := by decide +kernel
theorem dX8_drawn_67 : decode cX8_drawn 67 = .ok (.istore 8, 2) := by decide +kernel
theorem dX8_drawn_69 : decode cX8_drawn 69 = .ok (.iload 8, 2) := by decide +kernel
theorem dX8_drawn_71 : decode cX8_drawn 71 = .ok (.iload_n 1, 1) := by decide +kernel
theorem dX8_drawn_72 : decode cX8_drawn 72 = .ok (.if_icmp .ge 97, 3) := by decide +kernel
theorem dX8_drawn_75 : decode cX8_drawn 75 = .ok (.lload 4, 2) := by decide +kernel
theorem dX8_drawn_77 : decode cX8_drawn 77 = .ok (.ldc2_w 287, 3) := by decide +kernel
theorem dX8_drawn_80 : decode cX8_drawn 80 = .ok (.lmul, 1) := by decide +kernel
theorem dX8_drawn_81 : decode cX8_drawn 81 = .ok (.ldc2_w 289, 3) := by decide +kernel
theorem dX8_drawn_84 : decode cX8_drawn 84 = .ok (.lrem, 1) := by decide +kernel
theorem dX8_drawn_85 : decode cX8_drawn 85 = .ok (.lstore 4, 2) := by decide +kernel
theorem dX8_drawn_87 : decode cX8_drawn 87 = .ok (.aload_n 0, 1) := by decide +kernel
theorem dX8_drawn_88 : decode cX8_drawn 88 = .ok (.getfield 31, 3) := by decide +kernel
theorem dX8_drawn_91 : decode cX8_drawn 91 = .ok (.iconst 3, 1) := by decide +kernel
theorem dX8_drawn_92 : decode cX8_drawn 92 = .ok (.lload 4, 2) := by decide +kernel
theorem dX8_drawn_94 : decode cX8_drawn 94 = .ok (.aload_n 0, 1) := by decide +kernel
theorem dX8_drawn_95 : decode cX8_drawn 95 = .ok (.getfield 25, 3) := by decide +kernel
theorem dX8_drawn_98 : decode cX8_drawn 98 = .ok (.iconst 1, 1) := by decide +kernel
theorem dX8_drawn_99 : decode cX8_drawn 99 = .ok (.iaload, 1) := by decide +kernel
theorem dX8_drawn_100 : decode cX8_drawn 100 = .ok (.i2l, 1) := by decide +kernel
theorem dX8_drawn_101 : decode cX8_drawn 101 = .ok (.lrem, 1) := by decide +kernel
theorem dX8_drawn_102 : decode cX8_drawn 102 = .ok (.l2i, 1) := by decide +kernel
theorem dX8_drawn_103 : decode cX8_drawn 103 = .ok (.iadd, 1) := by decide +kernel
theorem dX8_drawn_104 : decode cX8_drawn 104 = .ok (.lload 4, 2) := by decide +kernel
theorem dX8_drawn_106 : decode cX8_drawn 106 = .ok (.ldc2_w 291, 3) := by decide +kernel
theorem dX8_drawn_109 : decode cX8_drawn 109 = .ok (.ldiv, 1) := by decide +kernel
theorem dX8_drawn_110 : decode cX8_drawn 110 = .ok (.ldc2_w 293, 3) := by decide +kernel
theorem dX8_drawn_113 : decode cX8_drawn 113 = .ok (.lrem, 1) := by decide +kernel
theorem dX8_drawn_114 : decode cX8_drawn 114 = .ok (.l2i, 1) := by decide +kernel
theorem dX8_drawn_115 : decode cX8_drawn 115 = .ok (.iastore, 1) := by decide +kernel
theorem dX8_drawn_116 : decode cX8_drawn 116 = .ok (.aload_n 0, 1) := by decide +kernel
theorem dX8_drawn_117 : decode cX8_drawn 117 = .ok (.aload_n 0, 1) := by decide +kernel
theorem dX8_drawn_118 : decode cX8_drawn 118 = .ok (.getfield 31, 3) := by decide +kernel
theorem dX8_drawn_121 : decode cX8_drawn 121 = .ok (.ldc 66, 2) := by decide +kernel
theorem dX8_drawn_123 : decode cX8_drawn 123 = .ok (.invokevirtual 230, 3) := by decide +kernel
theorem dX8_drawn_126 : decode cX8_drawn 126 = .ok (.istore 9, 2) := by decide +kernel
theorem dX8_drawn_128 : decode cX8_drawn 128 = .ok (.iload 6, 2) := by decide +kernel
theorem dX8_drawn_130 : decode cX8_drawn 130 = .ok (.iload 9, 2) := by decide +kernel
theorem dX8_drawn_132 : decode cX8_drawn 132 = .ok (.ldc 66, 2) := by decide +kernel
theorem dX8_drawn_134 : decode cX8_drawn 134 = .ok (.if_icmp .ne 7, 3) := by decide +kernel
theorem dX8_drawn_137 : decode cX8_drawn 137 = .ok (.iconst 0, 1) := by decide +kernel
theorem dX8_drawn_138 : decode cX8_drawn 138 = .ok (.goto 4, 3) := by decide +kernel
theorem dX8_drawn_141 : decode cX8_drawn 141 = .ok (.iconst 1, 1) := by decide +kernel
theorem dX8_drawn_142 : decode cX8_drawn 142 = .ok (.iadd, 1) := by decide +kernel
theorem dX8_drawn_143 : decode cX8_drawn 143 = .ok (.istore 6, 2) := by decide +kernel
theorem dX8_drawn_145 : decode cX8_drawn 145 = .ok (.iload 7, 2) := by decide +kernel
theorem dX8_drawn_147 : decode cX8_drawn 147 = .ok (.iload 9, 2) := by decide +kernel
theorem dX8_drawn_149 : decode cX8_drawn 149 = .ok (.ldc 66, 2) := by decide +kernel
theorem dX8_drawn_151 : decode cX8_drawn 151 = .ok (.if_icmp .ne 7, 3) := by decide +kernel
theorem dX8_drawn_154 : decode cX8_drawn 154 = .ok (.iconst 0, 1) := by decide +kernel
theorem dX8_drawn_155 : decode cX8_drawn 155 = .ok (.goto 5, 3) := by decide +kernel
theorem dX8_drawn_158 : decode cX8_drawn 158 = .ok (.iload 9, 2) := by decide +kernel
theorem dX8_drawn_160 : decode cX8_drawn 160 = .ok (.iadd, 1) := by decide +kernel
theorem dX8_drawn_161 : decode cX8_drawn 161 = .ok (.istore 7, 2) := by decide +kernel
theorem dX8_drawn_163 : decode cX8_drawn 163 = .ok (.iinc 8 1, 3) := by decide +kernel
theorem dX8_drawn_166 : decode cX8_drawn 166 = .ok (.goto (-97), 3) := by decide +kernel
theorem dX8_drawn_169 : decode cX8_drawn 169 = .ok (.iload_n 3, 1) := by decide +kernel
theorem dX8_drawn_170 : decode cX8_drawn 170 = .ok (.ifCond .ne 8, 3) := by decide +kernel
theorem dX8_drawn_173 : decode cX8_drawn 173 = .ok (.iload 6, 2) := by decide +kernel
theorem dX8_drawn_175 : decode cX8_drawn 175 = .ok (.goto 5, 3) := by decide +kernel
theorem dX8_drawn_178 : decode cX8_drawn 178 = .ok (.iload 7, 2) := by decide +kernel
theorem dX8_drawn_180 : decode cX8_drawn 180 = .ok (.ireturn, 1) := by decide +kernel
theorem dX8_image_0 : decode cX8_image 0 = .ok (.iload_n 1, 1) := by decide +kernel
theorem dX8_image_1 : decode cX8_image 1 = .ok (.iconst 0, 1) := by decide +kernel
theorem dX8_image_2 : decode cX8_image 2 = .ok (.iconst 1, 1) := by decide +kernel
theorem dX8_image_3 : decode cX8_image 3 = .ok (.invokestatic 72, 3) := by decide +kernel
theorem dX8_image_6 : decode cX8_image 6 = .ok (.ifCond .ne 6, 3) := by decide +kernel
theorem dX8_image_9 : decode cX8_image 9 = .ok (.ldc 80, 2) := by decide +kernel
theorem dX8_image_11 : decode cX8_image 11 = .ok (.ireturn, 1) := by decide +kernel
theorem dX8_image_12 : decode cX8_image 12 = .ok (.aload_n 0, 1) := by decide +kernel
theorem dX8_image_13 : decode cX8_image 13 = .ok (.invokevirtual 227, 3) := by decide +kernel
theorem dX8_image_16 : decode cX8_image 16 = .ok (.ifCond .ne 6, 3) := by decide +kernel
theorem dX8_image_19 : decode cX8_image 19 = .ok (.ldc 223, 2) := by decide +kernel
theorem dX8_image_21 : decode cX8_image 21 = .ok (.ireturn, 1) := by decide +kernel
theorem dX8_image_22 : decode cX8_image 22 = .ok (.aload_n 0, 1) := by decide +kernel
theorem dX8_image_23 : decode cX8_image 23 = .ok (.getfield 25, 3) := by decide +kernel
theorem dX8_image_26 : decode cX8_image 26 = .ok (.iconst 0, 1) := by decide +kernel
theorem dX8_image_27 : decode cX8_image 27 = .ok (.aload_n 0, 1) := by decide +kernel
theorem dX8_image_28 : decode cX8_image 28 = .ok (.getfield 37, 3) := by decide +kernel
theorem dX8_image_31 : decode cX8_image 31 = .ok (.bipush 41, 2) := by decide +kernel
theorem dX8_image_33 : decode cX8_image 33 = .ok (.iload_n 1, 1) := by decide +kernel
theorem dX8_image_34 : decode cX8_image 34 = .ok (.imul, 1) := by decide +kernel
theorem dX8_image_35 : decode cX8_image 35 = .ok (.invokestatic 154, 3) := by decide +kernel
theorem dX8_image_38 : decode cX8_image 38 = .ok (.aload_n 0, 1) := by decide +kernel
theorem dX8_image_39 : decode cX8_image 39 = .ok (.getfield 40, 3) := by decide +kernel
theorem dX8_image_42 : decode cX8_image 42 = .ok (.iload_n 1, 1) := by decide +kernel
theorem dX8_image_43 : decode cX8_image 43 = .ok (.iconst 1, 1) := by decide +kernel
theorem dX8_image_44 : decode cX8_image 44 = .ok (.bastore, 1) := by decide +kernel
theorem dX8_image_45 : decode cX8_image 45 = .ok (.iconst 1, 1) := by decide +kernel
theorem dX8_image_46 : decode cX8_image 46 = .ok (.ireturn, 1) := by decide +kernel
theorem dX8_restore_0 : decode cX8_restore 0 = .ok (.iload_n 1, 1) := by decide +kernel
theorem dX8_restore_1 : decode cX8_restore 1 = .ok (.iconst 0, 1) := by decide +kernel
theorem dX8_restore_2 : decode cX8_restore 2 = .ok (.iconst 1, 1) := by decide +kernel
theorem dX8_restore_3 : decode cX8_restore 3 = .ok (.invokestatic 72, 3) := by decide +kernel
theorem dX8_restore_6 : decode cX8_restore 6 = .ok (.ifCond .ne 6, 3) := by decide +kernel
theorem dX8_restore_9 : decode cX8_restore 9 = .ok (.ldc 80, 2) := by decide +kernel
theorem dX8_restore_11 : decode cX8_restore 11 = .ok (.ireturn, 1) := by decide +kernel
theorem dX8_restore_12 : decode cX8_restore 12 = .ok (.aload_n 0, 1) := by decide +kernel
theorem dX8_restore_13 : decode cX8_restore 13 = .ok (.getfield 40, 3) := by decide +kernel
theorem dX8_restore_16 : decode cX8_restore 16 = .ok (.iload_n 1, 1) := by decide +kernel
theorem dX8_restore_17 : decode cX8_restore 17 = .ok (.baload, 1) := by decide +kernel
theorem dX8_restore_18 : decode cX8_restore 18 = .ok (.ifCond .ne 6, 3) := by decide +kernel
theorem dX8_restore_21 : decode cX8_restore 21 = .ok (.ldc 223, 2) := by decide +kernel
theorem dX8_restore_23 : decode cX8_restore 23 = .ok (.ireturn, 1) := by decide +kernel
theorem dX8_restore_24 : decode cX8_restore 24 = .ok (.aload_n 0, 1) := by decide +kernel
theorem dX8_restore_25 : decode cX8_restore 25 = .ok (.getfield 37, 3) := by decide +kernel
theorem dX8_restore_28 : decode cX8_restore 28 = .ok (.bipush 41, 2) := by decide +kernel
theorem dX8_restore_30 : decode cX8_restore 30 = .ok (.iload_n 1, 1) := by decide +kernel
theorem dX8_restore_31 : decode cX8_restore 31 = .ok (.imul, 1) := by decide +kernel
theorem dX8_restore_32 : decode cX8_restore 32 = .ok (.aload_n 0, 1) := by decide +kernel
theorem dX8_restore_33 : decode cX8_restore 33 = .ok (.getfield 25, 3) := by decide +kernel
theorem dX8_restore_36 : decode cX8_restore 36 = .ok (.iconst 0, 1) := by decide +kernel
theorem dX8_restore_37 : decode cX8_restore 37 = .ok (.invokestatic 154, 3) := by decide +kernel
theorem dX8_restore_40 : decode cX8_restore 40 = .ok (.aload_n 0, 1) := by decide +kernel
theorem dX8_restore_41 : decode cX8_restore 41 = .ok (.iconst 0, 1) := by decide +kernel
theorem dX8_restore_42 : decode cX8_restore 42 = .ok (.putfield 158, 3) := by decide +kernel
theorem dX8_restore_45 : decode cX8_restore 45 = .ok (.iconst 1, 1) := by decide +kernel
theorem dX8_restore_46 : decode cX8_restore 46 = .ok (.ireturn, 1) := by decide +kernel
theorem dX8_kindIn_0 : decode cX8_kindIn 0 = .ok (.aload_n 0, 1) := by decide +kernel
theorem dX8_kindIn_1 : decode cX8_kindIn 1 = .ok (.getfield 25, 3) := by decide +kernel
theorem dX8_kindIn_4 : decode cX8_kindIn 4 = .ok (.bipush 9, 2) := by decide +kernel
theorem dX8_kindIn_6 : decode cX8_kindIn 6 = .ok (.bipush 8, 2) := by decide +kernel
theorem dX8_kindIn_8 : decode cX8_kindIn 8 = .ok (.iload_n 1, 1) := by decide +kernel
theorem dX8_kindIn_9 : decode cX8_kindIn 9 = .ok (.imul, 1) := by decide +kernel
theorem dX8_kindIn_10 : decode cX8_kindIn 10 = .ok (.iadd, 1) := by decide +kernel
theorem dX8_kindIn_11 : decode cX8_kindIn 11 = .ok (.iaload, 1) := by decide +kernel
theorem dX8_kindIn_12 : decode cX8_kindIn 12 = .ok (.ireturn, 1) := by decide +kernel
theorem dX8_kind_0 : decode cX8_kind 0 = .ok (.aload_n 0, 1) := by decide +kernel
theorem dX8_kind_1 : decode cX8_kind 1 = .ok (.iload_n 1, 1) := by decide +kernel
theorem dX8_kind_2 : decode cX8_kind 2 = .ok (.invokevirtual 220, 3) := by decide +kernel
theorem dX8_kind_5 : decode cX8_kind 5 = .ok (.ifCond .eq 11, 3) := by decide +kernel
theorem dX8_kind_8 : decode cX8_kind 8 = .ok (.aload_n 0, 1) := by decide +kernel
theorem dX8_kind_9 : decode cX8_kind 9 = .ok (.iload_n 1, 1) := by decide +kernel
theorem dX8_kind_10 : decode cX8_kind 10 = .ok (.invokevirtual 295, 3) := by decide +kernel
theorem dX8_kind_13 : decode cX8_kind 13 = .ok (.goto 5, 3) := by decide +kernel
theorem dX8_kind_16 : decode cX8_kind 16 = .ok (.ldc 80, 2) := by decide +kernel
theorem dX8_kind_18 : decode cX8_kind 18 = .ok (.ireturn, 1) := by decide +kernel
theorem dX8_as_0 : decode cX8_as 0 = .ok (.aload_n 0, 1) := by decide +kernel
theorem dX8_as_1 : decode cX8_as 1 = .ok (.iload_n 1, 1) := by decide +kernel
theorem dX8_as_2 : decode cX8_as 2 = .ok (.invokevirtual 220, 3) := by decide +kernel
theorem dX8_as_5 : decode cX8_as 5 = .ok (.ifCond .eq 12, 3) := by decide +kernel
theorem dX8_as_8 : decode cX8_as 8 = .ok (.iload_n 2, 1) := by decide +kernel
theorem dX8_as_9 : decode cX8_as 9 = .ok (.iconst 0, 1) := by decide +kernel
theorem dX8_as_10 : decode cX8_as 10 = .ok (.iconst 5, 1) := by decide +kernel
theorem dX8_as_11 : decode cX8_as 11 = .ok (.invokestatic 72, 3) := by decide +kernel
theorem dX8_as_14 : decode cX8_as 14 = .ok (.ifCond .ne 6, 3) := by decide +kernel
theorem dX8_as_17 : decode cX8_as 17 = .ok (.ldc 80, 2) := by decide +kernel
theorem dX8_as_19 : decode cX8_as 19 = .ok (.ireturn, 1) := by decide +kernel
theorem dX8_as_20 : decode cX8_as 20 = .ok (.aload_n 0, 1) := by decide +kernel
theorem dX8_as_21 : decode cX8_as 21 = .ok (.iload_n 1, 1) := by decide +kernel
theorem dX8_as_22 : decode cX8_as 22 = .ok (.invokevirtual 295, 3) := by decide +kernel
theorem dX8_as_25 : decode cX8_as 25 = .ok (.istore_n 3, 1) := by decide +kernel
theorem dX8_as_26 : decode cX8_as 26 = .ok (.iload_n 2, 1) := by decide +kernel
theorem dX8_as_27 : decode cX8_as 27 = .ok (.ifCond .eq 28, 3) := by decide +kernel
theorem dX8_as_30 : decode cX8_as 30 = .ok (.iload_n 2, 1) := by decide +kernel
theorem dX8_as_31 : decode cX8_as 31 = .ok (.iload_n 3, 1) := by decide +kernel
theorem dX8_as_32 : decode cX8_as 32 = .ok (.if_icmp .eq 23, 3) := by decide +kernel
theorem dX8_as_35 : decode cX8_as 35 = .ok (.iload_n 2, 1) := by decide +kernel
theorem dX8_as_36 : decode cX8_as 36 = .ok (.iconst 1, 1) := by decide +kernel
theorem dX8_as_37 : decode cX8_as 37 = .ok (.if_icmp .ne 8, 3) := by decide +kernel
theorem dX8_as_40 : decode cX8_as 40 = .ok (.iload_n 3, 1) := by decide +kernel
theorem dX8_as_41 : decode cX8_as 41 = .ok (.iconst 4, 1) := by decide +kernel
theorem dX8_as_42 : decode cX8_as 42 = .ok (.if_icmp .lt 13, 3) := by decide +kernel
theorem dX8_as_45 : decode cX8_as 45 = .ok (.iload_n 2, 1) := by decide +kernel
theorem dX8_as_46 : decode cX8_as 46 = .ok (.iconst 4, 1) := by decide +kernel
theorem dX8_as_47 : decode cX8_as 47 = .ok (.if_icmp .ne 12, 3) := by decide +kernel
theorem dX8_as_50 : decode cX8_as 50 = .ok (.iload_n 3, 1) := by decide +kernel
theorem dX8_as_51 : decode cX8_as 51 = .ok (.iconst 5, 1) := by decide +kernel
theorem dX8_as_52 : decode cX8_as 52 = .ok (.if_icmp .ne 7, 3) := by decide +kernel
theorem dX8_as_55 : decode cX8_as 55 = .ok (.iconst 1, 1) := by decide +kernel
theorem dX8_as_56 : decode cX8_as 56 = .ok (.goto 4, 3) := by decide +kernel
theorem dX8_as_59 : decode cX8_as 59 = .ok (.iconst 0, 1) := by decide +kernel
theorem dX8_as_60 : decode cX8_as 60 = .ok (.istore 4, 2) := by decide +kernel
theorem dX8_as_62 : decode cX8_as 62 = .ok (.iload 4, 2) := by decide +kernel
theorem dX8_as_64 : decode cX8_as 64 = .ok (.ifCond .eq 11, 3) := by decide +kernel
theorem dX8_as_67 : decode cX8_as 67 = .ok (.aload_n 0, 1) := by decide +kernel
theorem dX8_as_68 : decode cX8_as 68 = .ok (.iload_n 1, 1) := by decide +kernel
theorem dX8_as_69 : decode cX8_as 69 = .ok (.invokevirtual 85, 3) := by decide +kernel
theorem dX8_as_72 : decode cX8_as 72 = .ok (.goto 8, 3) := by decide +kernel
theorem dX8_as_75 : decode cX8_as 75 = .ok (.aload_n 0, 1) := by decide +kernel
theorem dX8_as_76 : decode cX8_as 76 = .ok (.iconst 3, 1) := by decide +kernel
theorem dX8_as_77 : decode cX8_as 77 = .ok (.invokevirtual 81, 3) := by decide +kernel
theorem dX8_as_80 : decode cX8_as 80 = .ok (.ireturn, 1) := by decide +kernel
theorem dX8_begins_0 : decode cX8_begins 0 = .ok (.aload_n 0, 1) := by decide +kernel
theorem dX8_begins_1 : decode cX8_begins 1 = .ok (.getfield 298, 3) := by decide +kernel
theorem dX8_begins_4 : decode cX8_begins 4 = .ok (.bipush 16, 2) := by decide +kernel
theorem dX8_begins_6 : decode cX8_begins 6 = .ok (.if_icmp .ge 23, 3) := by decide +kernel
theorem dX8_begins_9 : decode cX8_begins 9 = .ok (.aload_n 0, 1) := by decide +kernel
theorem dX8_begins_10 : decode cX8_begins 10 = .ok (.getfield 63, 3) := by decide +kernel
theorem dX8_begins_13 : decode cX8_begins 13 = .ok (.aload_n 0, 1) := by decide +kernel
theorem dX8_begins_14 : decode cX8_begins 14 = .ok (.getfield 298, 3) := by decide +kernel
theorem dX8_begins_17 : decode cX8_begins 17 = .ok (.iload_n 1, 1) := by decide +kernel
theorem dX8_begins_18 : decode cX8_begins 18 = .ok (.iastore, 1) := by decide +kernel
theorem dX8_begins_19 : decode cX8_begins 19 = .ok (.aload_n 0, 1) := by decide +kernel
theorem dX8_begins_20 : decode cX8_begins 20 = .ok (.dup, 1) := by decide +kernel
theorem dX8_begins_21 : decode cX8_begins 21 = .ok (.getfield 298, 3) := by decide +kernel
theorem dX8_begins_24 : decode cX8_begins 24 = .ok (.iconst 1, 1) := by decide +kernel
theorem dX8_begins_25 : decode cX8_begins 25 = .ok (.iadd, 1) := by decide +kernel
theorem dX8_begins_26 : decode cX8_begins 26 = .ok (.putfield 298, 3) := by decide +kernel
theorem dX8_begins_29 : decode cX8_begins 29 = .ok (.return_, 1) := by decide +kernel
theorem dX8_plainMark_0 : decode cX8_plainMark 0 = .ok (.aload_n 0, 1) := by decide +kernel
theorem dX8_plainMark_1 : decode cX8_plainMark 1 = .ok (.iload_n 1, 1) := by decide +kernel
theorem dX8_plainMark_2 : decode cX8_plainMark 2 = .ok (.invokevirtual 295, 3) := by decide +kernel
theorem dX8_plainMark_5 : decode cX8_plainMark 5 = .ok (.istore_n 2, 1) := by decide +kernel
theorem dX8_plainMark_6 : decode cX8_plainMark 6 = .ok (.iload_n 2, 1) := by decide +kernel
theorem dX8_plainMark_7 : decode cX8_plainMark 7 = .ok (.iconst 1, 1) := by decide +kernel
theorem dX8_plainMark_8 : decode cX8_plainMark 8 = .ok (.if_icmp .eq 19, 3) := by decide +kernel
theorem dX8_plainMark_11 : decode cX8_plainMark 11 = .ok (.aload_n 0, 1) := by decide +kernel
theorem dX8_plainMark_12 : decode cX8_plainMark 12 = .ok (.iload_n 2, 1) := by decide +kernel
theorem dX8_plainMark_13 : decode cX8_plainMark 13 = .ok (.iconst 2, 1) := by decide +kernel
theorem dX8_plainMark_14 : decode cX8_plainMark 14 = .ok (.if_icmp .ne 8, 3) := by decide +kernel
theorem dX8_plainMark_17 : decode cX8_plainMark 17 = .ok (.bipush 24, 2) := by decide +kernel
theorem dX8_plainMark_19 : decode cX8_plainMark 19 = .ok (.goto 5, 3) := by decide +kernel
theorem dX8_plainMark_22 : decode cX8_plainMark 22 = .ok (.bipush 22, 2) := by decide +kernel
theorem dX8_plainMark_24 : decode cX8_plainMark 24 = .ok (.invokevirtual 301, 3) := by decide +kernel
theorem dX8_plainMark_27 : decode cX8_plainMark 27 = .ok (.aload_n 0, 1) := by decide +kernel
theorem dX8_plainMark_28 : decode cX8_plainMark 28 = .ok (.bipush 21, 2) := by decide +kernel
theorem dX8_plainMark_30 : decode cX8_plainMark 30 = .ok (.invokevirtual 301, 3) := by decide +kernel
theorem dX8_plainMark_33 : decode cX8_plainMark 33 = .ok (.aload_n 0, 1) := by decide +kernel
theorem dX8_plainMark_34 : decode cX8_plainMark 34 = .ok (.bipush 20, 2) := by decide +kernel
theorem dX8_plainMark_36 : decode cX8_plainMark 36 = .ok (.invokevirtual 301, 3) := by decide +kernel
theorem dX8_plainMark_39 : decode cX8_plainMark 39 = .ok (.iload_n 1, 1) := by decide +kernel
theorem dX8_plainMark_40 : decode cX8_plainMark 40 = .ok (.aload_n 0, 1) := by decide +kernel
theorem dX8_plainMark_41 : decode cX8_plainMark 41 = .ok (.getfield 25, 3) := by decide +kernel
theorem dX8_plainMark_44 : decode cX8_plainMark 44 = .ok (.bipush 9, 2) := by decide +kernel
theorem dX8_plainMark_46 : decode cX8_plainMark 46 = .ok (.bipush 8, 2) := by decide +kernel
theorem dX8_plainMark_48 : decode cX8_plainMark 48 = .ok (.iload_n 1, 1) := by decide +kernel
theorem dX8_plainMark_49 : decode cX8_plainMark 49 = .ok (.imul, 1) := by decide +kernel
theorem dX8_plainMark_50 : decode cX8_plainMark 50 = .ok (.iadd, 1) := by decide +kernel
theorem dX8_plainMark_51 : decode cX8_plainMark 51 = .ok (.bipush 7, 2) := by decide +kernel
theorem dX8_plainMark_53 : decode cX8_plainMark 53 = .ok (.iadd, 1) := by decide +kernel
theorem dX8_plainMark_54 : decode cX8_plainMark 54 = .ok (.iaload, 1) := by decide +kernel
theorem dX8_plainMark_55 : decode cX8_plainMark 55 = .ok (.invokestatic 256, 3) := by decide +kernel
theorem dX8_plainMark_58 : decode cX8_plainMark 58 = .ok (.iadd, 1) := by decide +kernel
theorem dX8_plainMark_59 : decode cX8_plainMark 59 = .ok (.istore_n 3, 1) := by decide +kernel
theorem dX8_plainMark_60 : decode cX8_plainMark 60 = .ok (.iload_n 2, 1) := by decide +kernel
theorem dX8_plainMark_61 : decode cX8_plainMark 61 = .ok (.iconst 2, 1) := by decide +kernel
theorem dX8_plainMark_62 : decode cX8_plainMark 62 = .ok (.if_icmp .ne 9, 3) := by decide +kernel
theorem dX8_plainMark_65 : decode cX8_plainMark 65 = .ok (.iconst 2, 1) := by decide +kernel
theorem dX8_plainMark_66 : decode cX8_plainMark 66 = .ok (.iload_n 3, 1) := by decide +kernel
theorem dX8_plainMark_67 : decode cX8_plainMark 67 = .ok (.imul, 1) := by decide +kernel
theorem dX8_plainMark_68 : decode cX8_plainMark 68 = .ok (.goto 17, 3) := by decide +kernel
theorem dX8_plainMark_71 : decode cX8_plainMark 71 = .ok (.iload_n 2, 1) := by decide +kernel
theorem dX8_plainMark_72 : decode cX8_plainMark 72 = .ok (.iconst 3, 1) := by decide +kernel
theorem dX8_plainMark_73 : decode cX8_plainMark 73 = .ok (.if_icmp .ne 11, 3) := by decide +kernel
theorem dX8_plainMark_76 : decode cX8_plainMark 76 = .ok (.iload_n 3, 1) := by decide +kernel
theorem dX8_plainMark_77 : decode cX8_plainMark 77 = .ok (.sipush 1000, 3) := by decide +kernel
theorem dX8_plainMark_80 : decode cX8_plainMark 80 = .ok (.isub, 1) := by decide +kernel
theorem dX8_plainMark_81 : decode cX8_plainMark 81 = .ok (.goto 4, 3) := by decide +kernel
theorem dX8_plainMark_84 : decode cX8_plainMark 84 = .ok (.iload_n 3, 1) := by decide +kernel
theorem dX8_plainMark_85 : decode cX8_plainMark 85 = .ok (.ireturn, 1) := by decide +kernel
theorem dX8_waterSize_0 : decode cX8_waterSize 0 = .ok (.aload_n 0, 1) := by decide +kernel
theorem dX8_waterSize_1 : decode cX8_waterSize 1 = .ok (.iload_n 1, 1) := by decide +kernel
theorem dX8_waterSize_2 : decode cX8_waterSize 2 = .ok (.invokevirtual 295, 3) := by decide +kernel
theorem dX8_waterSize_5 : decode cX8_waterSize 5 = .ok (.iconst 5, 1) := by decide +kernel
theorem dX8_waterSize_6 : decode cX8_waterSize 6 = .ok (.if_icmp .ne 7, 3) := by decide +kernel
theorem dX8_waterSize_9 : decode cX8_waterSize 9 = .ok (.iconst 1, 1) := by decide +kernel
theorem dX8_waterSize_10 : decode cX8_waterSize 10 = .ok (.goto 4, 3) := by decide +kernel
theorem dX8_waterSize_13 : decode cX8_waterSize 13 = .ok (.iconst 0, 1) := by decide +kernel
theorem dX8_waterSize_14 : decode cX8_waterSize 14 = .ok (.istore_n 2, 1) := by decide +kernel
theorem dX8_waterSize_15 : decode cX8_waterSize 15 = .ok (.iload_n 2, 1) := by decide +kernel
theorem dX8_waterSize_16 : decode cX8_waterSize 16 = .ok (.ifCond .eq 9, 3) := by decide +kernel
theorem dX8_waterSize_19 : decode cX8_waterSize 19 = .ok (.aload_n 0, 1) := by decide +kernel
theorem dX8_waterSize_20 : decode cX8_waterSize 20 = .ok (.bipush 14, 2) := by decide +kernel
theorem dX8_waterSize_22 : decode cX8_waterSize 22 = .ok (.invokevirtual 301, 3) := by decide +kernel
theorem dX8_waterSize_25 : decode cX8_waterSize 25 = .ok (.aload_n 0, 1) := by decide +kernel
theorem dX8_waterSize_26 : decode cX8_waterSize 26 = .ok (.bipush 13, 2) := by decide +kernel
theorem dX8_waterSize_28 : decode cX8_waterSize 28 = .ok (.invokevirtual 301, 3) := by decide +kernel
theorem dX8_waterSize_31 : decode cX8_waterSize 31 = .ok (.aload_n 0, 1) := by decide +kernel
theorem dX8_waterSize_32 : decode cX8_waterSize 32 = .ok (.bipush 10, 2) := by decide +kernel
theorem dX8_waterSize_34 : decode cX8_waterSize 34 = .ok (.invokevirtual 301, 3) := by decide +kernel
theorem dX8_waterSize_37 : decode cX8_waterSize 37 = .ok (.aload_n 0, 1) := by decide +kernel
theorem dX8_waterSize_38 : decode cX8_waterSize 38 = .ok (.getfield 25, 3) := by decide +kernel
