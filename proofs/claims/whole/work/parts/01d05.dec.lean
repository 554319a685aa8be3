theorem dX8_shares_221 : decode cX8_shares 221 = .ok (.ireturn, 1) := by decide +kernel
theorem dX8_onAt_0 : decode cX8_onAt 0 = .ok (.iconst 0, 1) := by decide +kernel
theorem dX8_onAt_1 : decode cX8_onAt 1 = .ok (.istore_n 2, 1) := by decide +kernel
theorem dX8_onAt_2 : decode cX8_onAt 2 = .ok (.iconst 0, 1) := by decide +kernel
theorem dX8_onAt_3 : decode cX8_onAt 3 = .ok (.istore_n 3, 1) := by decide +kernel
theorem dX8_onAt_4 : decode cX8_onAt 4 = .ok (.iload_n 3, 1) := by decide +kernel
theorem dX8_onAt_5 : decode cX8_onAt 5 = .ok (.aload_n 0, 1) := by decide +kernel
theorem dX8_onAt_6 : decode cX8_onAt 6 = .ok (.iconst 0, 1) := by decide +kernel
theorem dX8_onAt_7 : decode cX8_onAt 7 = .ok (.iaload, 1) := by decide +kernel
theorem dX8_onAt_8 : decode cX8_onAt 8 = .ok (.if_icmp .ge 38, 3) := by decide +kernel
theorem dX8_onAt_11 : decode cX8_onAt 11 = .ok (.iload_n 2, 1) := by decide +kernel
theorem dX8_onAt_12 : decode cX8_onAt 12 = .ok (.aload_n 0, 1) := by decide +kernel
theorem dX8_onAt_13 : decode cX8_onAt 13 = .ok (.bipush 9, 2) := by decide +kernel
theorem dX8_onAt_15 : decode cX8_onAt 15 = .ok (.bipush 8, 2) := by decide +kernel
theorem dX8_onAt_17 : decode cX8_onAt 17 = .ok (.iload_n 3, 1) := by decide +kernel
theorem dX8_onAt_18 : decode cX8_onAt 18 = .ok (.imul, 1) := by decide +kernel
theorem dX8_onAt_19 : decode cX8_onAt 19 = .ok (.iadd, 1) := by decide +kernel
theorem dX8_onAt_20 : decode cX8_onAt 20 = .ok (.bipush 7, 2) := by decide +kernel
theorem dX8_onAt_22 : decode cX8_onAt 22 = .ok (.iadd, 1) := by decide +kernel
theorem dX8_onAt_23 : decode cX8_onAt 23 = .ok (.iaload, 1) := by decide +kernel
theorem dX8_onAt_24 : decode cX8_onAt 24 = .ok (.iload_n 1, 1) := by decide +kernel
theorem dX8_onAt_25 : decode cX8_onAt 25 = .ok (.invokestatic 165, 3) := by decide +kernel
theorem dX8_onAt_28 : decode cX8_onAt 28 = .ok (.ifCond .eq 9, 3) := by decide +kernel
theorem dX8_onAt_31 : decode cX8_onAt 31 = .ok (.iconst 1, 1) := by decide +kernel
theorem dX8_onAt_32 : decode cX8_onAt 32 = .ok (.iload_n 3, 1) := by decide +kernel
theorem dX8_onAt_33 : decode cX8_onAt 33 = .ok (.ishl, 1) := by decide +kernel
theorem dX8_onAt_34 : decode cX8_onAt 34 = .ok (.goto 4, 3) := by decide +kernel
theorem dX8_onAt_37 : decode cX8_onAt 37 = .ok (.iconst 0, 1) := by decide +kernel
theorem dX8_onAt_38 : decode cX8_onAt 38 = .ok (.ior, 1) := by decide +kernel
theorem dX8_onAt_39 : decode cX8_onAt 39 = .ok (.istore_n 2, 1) := by decide +kernel
theorem dX8_onAt_40 : decode cX8_onAt 40 = .ok (.iinc 3 1, 3) := by decide +kernel
theorem dX8_onAt_43 : decode cX8_onAt 43 = .ok (.goto (-39), 3) := by decide +kernel
theorem dX8_onAt_46 : decode cX8_onAt 46 = .ok (.iload_n 2, 1) := by decide +kernel
theorem dX8_onAt_47 : decode cX8_onAt 47 = .ok (.ireturn, 1) := by decide +kernel
theorem dX8_startingAt_0 : decode cX8_startingAt 0 = .ok (.iconst 0, 1) := by decide +kernel
theorem dX8_startingAt_1 : decode cX8_startingAt 1 = .ok (.istore_n 2, 1) := by decide +kernel
theorem dX8_startingAt_2 : decode cX8_startingAt 2 = .ok (.iconst 0, 1) := by decide +kernel
theorem dX8_startingAt_3 : decode cX8_startingAt 3 = .ok (.istore_n 3, 1) := by decide +kernel
theorem dX8_startingAt_4 : decode cX8_startingAt 4 = .ok (.iload_n 3, 1) := by decide +kernel
theorem dX8_startingAt_5 : decode cX8_startingAt 5 = .ok (.aload_n 0, 1) := by decide +kernel
theorem dX8_startingAt_6 : decode cX8_startingAt 6 = .ok (.iconst 0, 1) := by decide +kernel
theorem dX8_startingAt_7 : decode cX8_startingAt 7 = .ok (.iaload, 1) := by decide +kernel
theorem dX8_startingAt_8 : decode cX8_startingAt 8 = .ok (.if_icmp .ge 38, 3) := by decide +kernel
theorem dX8_startingAt_11 : decode cX8_startingAt 11 = .ok (.iload_n 2, 1) := by decide +kernel
theorem dX8_startingAt_12 : decode cX8_startingAt 12 = .ok (.aload_n 0, 1) := by decide +kernel
theorem dX8_startingAt_13 : decode cX8_startingAt 13 = .ok (.bipush 9, 2) := by decide +kernel
theorem dX8_startingAt_15 : decode cX8_startingAt 15 = .ok (.bipush 8, 2) := by decide +kernel
theorem dX8_startingAt_17 : decode cX8_startingAt 17 = .ok (.iload_n 3, 1) := by decide +kernel
theorem dX8_startingAt_18 : decode cX8_startingAt 18 = .ok (.imul, 1) := by decide +kernel
theorem dX8_startingAt_19 : decode cX8_startingAt 19 = .ok (.iadd, 1) := by decide +kernel
theorem dX8_startingAt_20 : decode cX8_startingAt 20 = .ok (.bipush 7, 2) := by decide +kernel
theorem dX8_startingAt_22 : decode cX8_startingAt 22 = .ok (.iadd, 1) := by decide +kernel
theorem dX8_startingAt_23 : decode cX8_startingAt 23 = .ok (.iaload, 1) := by decide +kernel
theorem dX8_startingAt_24 : decode cX8_startingAt 24 = .ok (.iload_n 1, 1) := by decide +kernel
theorem dX8_startingAt_25 : decode cX8_startingAt 25 = .ok (.invokestatic 169, 3) := by decide +kernel
theorem dX8_startingAt_28 : decode cX8_startingAt 28 = .ok (.ifCond .eq 9, 3) := by decide +kernel
theorem dX8_startingAt_31 : decode cX8_startingAt 31 = .ok (.iconst 1, 1) := by decide +kernel
theorem dX8_startingAt_32 : decode cX8_startingAt 32 = .ok (.iload_n 3, 1) := by decide +kernel
theorem dX8_startingAt_33 : decode cX8_startingAt 33 = .ok (.ishl, 1) := by decide +kernel
theorem dX8_startingAt_34 : decode cX8_startingAt 34 = .ok (.goto 4, 3) := by decide +kernel
theorem dX8_startingAt_37 : decode cX8_startingAt 37 = .ok (.iconst 0, 1) := by decide +kernel
theorem dX8_startingAt_38 : decode cX8_startingAt 38 = .ok (.ior, 1) := by decide +kernel
theorem dX8_startingAt_39 : decode cX8_startingAt 39 = .ok (.istore_n 2, 1) := by decide +kernel
theorem dX8_startingAt_40 : decode cX8_startingAt 40 = .ok (.iinc 3 1, 3) := by decide +kernel
theorem dX8_startingAt_43 : decode cX8_startingAt 43 = .ok (.goto (-39), 3) := by decide +kernel
theorem dX8_startingAt_46 : decode cX8_startingAt 46 = .ok (.iload_n 2, 1) := by decide +kernel
theorem dX8_startingAt_47 : decode cX8_startingAt 47 = .ok (.ireturn, 1) := by decide +kernel
theorem dX8_goes_0 : decode cX8_goes 0 = .ok (.iload_n 1, 1) := by decide +kernel
theorem dX8_goes_1 : decode cX8_goes 1 = .ok (.iload 4, 2) := by decide +kernel
theorem dX8_goes_3 : decode cX8_goes 3 = .ok (.if_icmp .ne 14, 3) := by decide +kernel
theorem dX8_goes_6 : decode cX8_goes 6 = .ok (.iload_n 3, 1) := by decide +kernel
theorem dX8_goes_7 : decode cX8_goes 7 = .ok (.ifCond .eq 8, 3) := by decide +kernel
theorem dX8_goes_10 : decode cX8_goes 10 = .ok (.ldc 66, 2) := by decide +kernel
theorem dX8_goes_12 : decode cX8_goes 12 = .ok (.goto 4, 3) := by decide +kernel
theorem dX8_goes_15 : decode cX8_goes 15 = .ok (.iconst 0, 1) := by decide +kernel
theorem dX8_goes_16 : decode cX8_goes 16 = .ok (.ireturn, 1) := by decide +kernel
theorem dX8_goes_17 : decode cX8_goes 17 = .ok (.iload_n 3, 1) := by decide +kernel
theorem dX8_goes_18 : decode cX8_goes 18 = .ok (.ifCond .eq 34, 3) := by decide +kernel
theorem dX8_goes_21 : decode cX8_goes 21 = .ok (.iload_n 2, 1) := by decide +kernel
theorem dX8_goes_22 : decode cX8_goes 22 = .ok (.ifCond .ne 7, 3) := by decide +kernel
theorem dX8_goes_25 : decode cX8_goes 25 = .ok (.iconst 3, 1) := by decide +kernel
theorem dX8_goes_26 : decode cX8_goes 26 = .ok (.goto 25, 3) := by decide +kernel
theorem dX8_goes_29 : decode cX8_goes 29 = .ok (.iload_n 2, 1) := by decide +kernel
theorem dX8_goes_30 : decode cX8_goes 30 = .ok (.iconst 3, 1) := by decide +kernel
theorem dX8_goes_31 : decode cX8_goes 31 = .ok (.if_icmp .ge 8, 3) := by decide +kernel
theorem dX8_goes_34 : decode cX8_goes 34 = .ok (.ldc 66, 2) := by decide +kernel
theorem dX8_goes_36 : decode cX8_goes 36 = .ok (.goto 15, 3) := by decide +kernel
theorem dX8_goes_39 : decode cX8_goes 39 = .ok (.iload_n 2, 1) := by decide +kernel
theorem dX8_goes_40 : decode cX8_goes 40 = .ok (.iconst 5, 1) := by decide +kernel
theorem dX8_goes_41 : decode cX8_goes 41 = .ok (.if_icmp .ge 9, 3) := by decide +kernel
theorem dX8_goes_44 : decode cX8_goes 44 = .ok (.iload_n 2, 1) := by decide +kernel
theorem dX8_goes_45 : decode cX8_goes 45 = .ok (.iconst 1, 1) := by decide +kernel
theorem dX8_goes_46 : decode cX8_goes 46 = .ok (.iadd, 1) := by decide +kernel
theorem dX8_goes_47 : decode cX8_goes 47 = .ok (.goto 4, 3) := by decide +kernel
theorem dX8_goes_50 : decode cX8_goes 50 = .ok (.iconst 5, 1) := by decide +kernel
theorem dX8_goes_51 : decode cX8_goes 51 = .ok (.ireturn, 1) := by decide +kernel
theorem dX8_goes_52 : decode cX8_goes 52 = .ok (.aload_n 0, 1) := by decide +kernel
theorem dX8_goes_53 : decode cX8_goes 53 = .ok (.iload_n 1, 1) := by decide +kernel
theorem dX8_goes_54 : decode cX8_goes 54 = .ok (.invokestatic 161, 3) := by decide +kernel
theorem dX8_goes_57 : decode cX8_goes 57 = .ok (.iconst 5, 1) := by decide +kernel
theorem dX8_goes_58 : decode cX8_goes 58 = .ok (.if_icmp .ne 6, 3) := by decide +kernel
theorem dX8_goes_61 : decode cX8_goes 61 = .ok (.ldc 66, 2) := by decide +kernel
theorem dX8_goes_63 : decode cX8_goes 63 = .ok (.ireturn, 1) := by decide +kernel
theorem dX8_goes_64 : decode cX8_goes 64 = .ok (.iload_n 2, 1) := by decide +kernel
theorem dX8_goes_65 : decode cX8_goes 65 = .ok (.iconst 3, 1) := by decide +kernel
theorem dX8_goes_66 : decode cX8_goes 66 = .ok (.if_icmp .ge 33, 3) := by decide +kernel
theorem dX8_goes_69 : decode cX8_goes 69 = .ok (.iload_n 2, 1) := by decide +kernel
theorem dX8_goes_70 : decode cX8_goes 70 = .ok (.ifCond .eq 21, 3) := by decide +kernel
theorem dX8_goes_73 : decode cX8_goes 73 = .ok (.iload_n 2, 1) := by decide +kernel
theorem dX8_goes_74 : decode cX8_goes 74 = .ok (.iconst 1, 1) := by decide +kernel
theorem dX8_goes_75 : decode cX8_goes 75 = .ok (.iadd, 1) := by decide +kernel
theorem dX8_goes_76 : decode cX8_goes 76 = .ok (.aload_n 0, 1) := by decide +kernel
theorem dX8_goes_77 : decode cX8_goes 77 = .ok (.bipush 9, 2) := by decide +kernel
theorem dX8_goes_79 : decode cX8_goes 79 = .ok (.bipush 8, 2) := by decide +kernel
theorem dX8_goes_81 : decode cX8_goes 81 = .ok (.iload_n 1, 1) := by decide +kernel
theorem dX8_goes_82 : decode cX8_goes 82 = .ok (.imul, 1) := by decide +kernel
theorem dX8_goes_83 : decode cX8_goes 83 = .ok (.iadd, 1) := by decide +kernel
theorem dX8_goes_84 : decode cX8_goes 84 = .ok (.bipush 6, 2) := by decide +kernel
theorem dX8_goes_86 : decode cX8_goes 86 = .ok (.iadd, 1) := by decide +kernel
theorem dX8_goes_87 : decode cX8_goes 87 = .ok (.iaload, 1) := by decide +kernel
theorem dX8_goes_88 : decode cX8_goes 88 = .ok (.if_icmp .lt 7, 3) := by decide +kernel
theorem dX8_goes_91 : decode cX8_goes 91 = .ok (.iconst 0, 1) := by decide +kernel
theorem dX8_goes_92 : decode cX8_goes 92 = .ok (.goto 6, 3) := by decide +kernel
theorem dX8_goes_95 : decode cX8_goes 95 = .ok (.iload_n 2, 1) := by decide +kernel
theorem dX8_goes_96 : decode cX8_goes 96 = .ok (.iconst 1, 1) := by decide +kernel
theorem dX8_goes_97 : decode cX8_goes 97 = .ok (.iadd, 1) := by decide +kernel
theorem dX8_goes_98 : decode cX8_goes 98 = .ok (.ireturn, 1) := by decide +kernel
theorem dX8_goes_99 : decode cX8_goes 99 = .ok (.iload_n 2, 1) := by decide +kernel
theorem dX8_goes_100 : decode cX8_goes 100 = .ok (.iconst 2, 1) := by decide +kernel
theorem dX8_goes_101 : decode cX8_goes 101 = .ok (.isub, 1) := by decide +kernel
theorem dX8_goes_102 : decode cX8_goes 102 = .ok (.aload_n 0, 1) := by decide +kernel
theorem dX8_goes_103 : decode cX8_goes 103 = .ok (.bipush 9, 2) := by decide +kernel
theorem dX8_goes_105 : decode cX8_goes 105 = .ok (.bipush 8, 2) := by decide +kernel
theorem dX8_goes_107 : decode cX8_goes 107 = .ok (.iload_n 1, 1) := by decide +kernel
theorem dX8_goes_108 : decode cX8_goes 108 = .ok (.imul, 1) := by decide +kernel
theorem dX8_goes_109 : decode cX8_goes 109 = .ok (.iadd, 1) := by decide +kernel
theorem dX8_goes_110 : decode cX8_goes 110 = .ok (.iconst 5, 1) := by decide +kernel
theorem dX8_goes_111 : decode cX8_goes 111 = .ok (.iadd, 1) := by decide +kernel
theorem dX8_goes_112 : decode cX8_goes 112 = .ok (.iaload, 1) := by decide +kernel
theorem dX8_goes_113 : decode cX8_goes 113 = .ok (.if_icmp .ge 8, 3) := by decide +kernel
theorem dX8_goes_116 : decode cX8_goes 116 = .ok (.ldc 66, 2) := by decide +kernel
theorem dX8_goes_118 : decode cX8_goes 118 = .ok (.goto 24, 3) := by decide +kernel
theorem dX8_goes_121 : decode cX8_goes 121 = .ok (.aload_n 0, 1) := by decide +kernel
theorem dX8_goes_122 : decode cX8_goes 122 = .ok (.bipush 9, 2) := by decide +kernel
theorem dX8_goes_124 : decode cX8_goes 124 = .ok (.bipush 8, 2) := by decide +kernel
theorem dX8_goes_126 : decode cX8_goes 126 = .ok (.iload_n 1, 1) := by decide +kernel
theorem dX8_goes_127 : decode cX8_goes 127 = .ok (.imul, 1) := by decide +kernel
theorem dX8_goes_128 : decode cX8_goes 128 = .ok (.iadd, 1) := by decide +kernel
theorem dX8_goes_129 : decode cX8_goes 129 = .ok (.bipush 6, 2) := by decide +kernel
theorem dX8_goes_131 : decode cX8_goes 131 = .ok (.iadd, 1) := by decide +kernel
theorem dX8_goes_132 : decode cX8_goes 132 = .ok (.iaload, 1) := by decide +kernel
theorem dX8_goes_133 : decode cX8_goes 133 = .ok (.iconst 1, 1) := by decide +kernel
theorem dX8_goes_134 : decode cX8_goes 134 = .ok (.if_icmp .ne 7, 3) := by decide +kernel
theorem dX8_goes_137 : decode cX8_goes 137 = .ok (.iconst 0, 1) := by decide +kernel
theorem dX8_goes_138 : decode cX8_goes 138 = .ok (.goto 4, 3) := by decide +kernel
theorem dX8_goes_141 : decode cX8_goes 141 = .ok (.iconst 1, 1) := by decide +kernel
theorem dX8_goes_142 : decode cX8_goes 142 = .ok (.ireturn, 1) := by decide +kernel
theorem dX8_fillsCosts_0 : decode cX8_fillsCosts 0 = .ok (.iconst 0, 1) := by decide +kernel
theorem dX8_fillsCosts_1 : decode cX8_fillsCosts 1 = .ok (.istore_n 2, 1) := by decide +kernel
theorem dX8_fillsCosts_2 : decode cX8_fillsCosts 2 = .ok (.iload_n 2, 1) := by decide +kernel
theorem dX8_fillsCosts_3 : decode cX8_fillsCosts 3 = .ok (.aload_n 1, 1) := by decide +kernel
theorem dX8_fillsCosts_4 : decode cX8_fillsCosts 4 = .ok (.iconst 1, 1) := by decide +kernel
theorem dX8_fillsCosts_5 : decode cX8_fillsCosts 5 = .ok (.iaload, 1) := by decide +kernel
theorem dX8_fillsCosts_6 : decode cX8_fillsCosts 6 = .ok (.if_icmp .ge 167, 3) := by decide +kernel
theorem dX8_fillsCosts_9 : decode cX8_fillsCosts 9 = .ok (.iconst 0, 1) := by decide +kernel
theorem dX8_fillsCosts_10 : decode cX8_fillsCosts 10 = .ok (.istore_n 3, 1) := by decide +kernel
theorem dX8_fillsCosts_11 : decode cX8_fillsCosts 11 = .ok (.iload_n 3, 1) := by decide +kernel
theorem dX8_fillsCosts_12 : decode cX8_fillsCosts 12 = .ok (.bipush 81, 2) := by decide +kernel
theorem dX8_fillsCosts_14 : decode cX8_fillsCosts 14 = .ok (.if_icmp .ge 153, 3) := by decide +kernel
theorem dX8_fillsCosts_17 : decode cX8_fillsCosts 17 = .ok (.iconst 0, 1) := by decide +kernel
theorem dX8_fillsCosts_18 : decode cX8_fillsCosts 18 = .ok (.istore 4, 2) := by decide +kernel
theorem dX8_fillsCosts_20 : decode cX8_fillsCosts 20 = .ok (.iconst 0, 1) := by decide +kernel
theorem dX8_fillsCosts_21 : decode cX8_fillsCosts 21 = .ok (.istore 5, 2) := by decide +kernel
theorem dX8_fillsCosts_23 : decode cX8_fillsCosts 23 = .ok (.iload_n 3, 1) := by decide +kernel
theorem dX8_fillsCosts_24 : decode cX8_fillsCosts 24 = .ok (.istore 6, 2) := by decide +kernel
theorem dX8_fillsCosts_26 : decode cX8_fillsCosts 26 = .ok (.iconst 1, 1) := by decide +kernel
theorem dX8_fillsCosts_27 : decode cX8_fillsCosts 27 = .ok (.istore 7, 2) := by decide +kernel
theorem dX8_fillsCosts_29 : decode cX8_fillsCosts 29 = .ok (.iconst 0, 1) := by decide +kernel
theorem dX8_fillsCosts_30 : decode cX8_fillsCosts 30 = .ok (.istore 8, 2) := by decide +kernel
theorem dX8_fillsCosts_32 : decode cX8_fillsCosts 32 = .ok (.iload 8, 2) := by decide +kernel
theorem dX8_fillsCosts_34 : decode cX8_fillsCosts 34 = .ok (.iconst 4, 1) := by decide +kernel
theorem dX8_fillsCosts_35 : decode cX8_fillsCosts 35 = .ok (.if_icmp .ge 83, 3) := by decide +kernel
theorem dX8_fillsCosts_38 : decode cX8_fillsCosts 38 = .ok (.iload 4, 2) := by decide +kernel
theorem dX8_fillsCosts_40 : decode cX8_fillsCosts 40 = .ok (.iload 6, 2) := by decide +kernel
theorem dX8_fillsCosts_42 : decode cX8_fillsCosts 42 = .ok (.iconst 3, 1) := by decide +kernel
theorem dX8_fillsCosts_43 : decode cX8_fillsCosts 43 = .ok (.irem, 1) := by decide +kernel
theorem dX8_fillsCosts_44 : decode cX8_fillsCosts 44 = .ok (.ifCond .le 10, 3) := by decide +kernel
theorem dX8_fillsCosts_47 : decode cX8_fillsCosts 47 = .ok (.iconst 1, 1) := by decide +kernel
theorem dX8_fillsCosts_48 : decode cX8_fillsCosts 48 = .ok (.iload 8, 2) := by decide +kernel
theorem dX8_fillsCosts_50 : decode cX8_fillsCosts 50 = .ok (.ishl, 1) := by decide +kernel
theorem dX8_fillsCosts_51 : decode cX8_fillsCosts 51 = .ok (.goto 4, 3) := by decide +kernel
theorem dX8_fillsCosts_54 : decode cX8_fillsCosts 54 = .ok (.iconst 0, 1) := by decide +kernel
theorem dX8_fillsCosts_55 : decode cX8_fillsCosts 55 = .ok (.ior, 1) := by decide +kernel
theorem dX8_fillsCosts_56 : decode cX8_fillsCosts 56 = .ok (.istore 4, 2) := by decide +kernel
theorem dX8_fillsCosts_58 : decode cX8_fillsCosts 58 = .ok (.iload 5, 2) := by decide +kernel
theorem dX8_fillsCosts_60 : decode cX8_fillsCosts 60 = .ok (.iload 6, 2) := by decide +kernel
theorem dX8_fillsCosts_62 : decode cX8_fillsCosts 62 = .ok (.iconst 3, 1) := by decide +kernel
theorem dX8_fillsCosts_63 : decode cX8_fillsCosts 63 = .ok (.irem, 1) := by decide +kernel
theorem dX8_fillsCosts_64 : decode cX8_fillsCosts 64 = .ok (.iconst 2, 1) := by decide +kernel
theorem dX8_fillsCosts_65 : decode cX8_fillsCosts 65 = .ok (.if_icmp .ne 10, 3) := by decide +kernel
theorem dX8_fillsCosts_68 : decode cX8_fillsCosts 68 = .ok (.iconst 1, 1) := by decide +kernel
theorem dX8_fillsCosts_69 : decode cX8_fillsCosts 69 = .ok (.iload 8, 2) := by decide +kernel
theorem dX8_fillsCosts_71 : decode cX8_fillsCosts 71 = .ok (.ishl, 1) := by decide +kernel
theorem dX8_fillsCosts_72 : decode cX8_fillsCosts 72 = .ok (.goto 4, 3) := by decide +kernel
theorem dX8_fillsCosts_75 : decode cX8_fillsCosts 75 = .ok (.iconst 0, 1) := by decide +kernel
theorem dX8_fillsCosts_76 : decode cX8_fillsCosts 76 = .ok (.ior, 1) := by decide +kernel
theorem dX8_fillsCosts_77 : decode cX8_fillsCosts 77 = .ok (.istore 5, 2) := by decide +kernel
theorem dX8_fillsCosts_79 : decode cX8_fillsCosts 79 = .ok (.iload 7, 2) := by decide +kernel
theorem dX8_fillsCosts_81 : decode cX8_fillsCosts 81 = .ok (.ifCond .eq 22, 3) := by decide +kernel
theorem dX8_fillsCosts_84 : decode cX8_fillsCosts 84 = .ok (.iload 8, 2) := by decide +kernel
theorem dX8_fillsCosts_86 : decode cX8_fillsCosts 86 = .ok (.aload_n 1, 1) := by decide +kernel
theorem dX8_fillsCosts_87 : decode cX8_fillsCosts 87 = .ok (.iconst 0, 1) := by decide +kernel
theorem dX8_fillsCosts_88 : decode cX8_fillsCosts 88 = .ok (.iaload, 1) := by decide +kernel
theorem dX8_fillsCosts_89 : decode cX8_fillsCosts 89 = .ok (.if_icmp .lt 10, 3) := by decide +kernel
theorem dX8_fillsCosts_92 : decode cX8_fillsCosts 92 = .ok (.iload 6, 2) := by decide +kernel
theorem dX8_fillsCosts_94 : decode cX8_fillsCosts 94 = .ok (.iconst 3, 1) := by decide +kernel
theorem dX8_fillsCosts_95 : decode cX8_fillsCosts 95 = .ok (.irem, 1) := by decide +kernel
theorem dX8_fillsCosts_96 : decode cX8_fillsCosts 96 = .ok (.ifCond .ne 7, 3) := by decide +kernel
theorem dX8_fillsCosts_99 : decode cX8_fillsCosts 99 = .ok (.iconst 1, 1) := by decide +kernel
theorem dX8_fillsCosts_100 : decode cX8_fillsCosts 100 = .ok (.goto 4, 3) := by decide +kernel
theorem dX8_fillsCosts_103 : decode cX8_fillsCosts 103 = .ok (.iconst 0, 1) := by decide +kernel
theorem dX8_fillsCosts_104 : decode cX8_fillsCosts 104 = .ok (.istore 7, 2) := by decide +kernel
theorem dX8_fillsCosts_106 : decode cX8_fillsCosts 106 = .ok (.iload 6, 2) := by decide +kernel
theorem dX8_fillsCosts_108 : decode cX8_fillsCosts 108 = .ok (.iconst 3, 1) := by decide +kernel
theorem dX8_fillsCosts_109 : decode cX8_fillsCosts 109 = .ok (.idiv, 1) := by decide +kernel
theorem dX8_fillsCosts_110 : decode cX8_fillsCosts 110 = .ok (.istore 6, 2) := by decide +kernel
theorem dX8_fillsCosts_112 : decode cX8_fillsCosts 112 = .ok (.iinc 8 1, 3) := by decide +kernel
theorem dX8_fillsCosts_115 : decode cX8_fillsCosts 115 = .ok (.goto (-83), 3) := by decide +kernel
theorem dX8_fillsCosts_118 : decode cX8_fillsCosts 118 = .ok (.aload_n 0, 1) := by decide +kernel
theorem dX8_fillsCosts_119 : decode cX8_fillsCosts 119 = .ok (.getfield 47, 3) := by decide +kernel
theorem dX8_fillsCosts_122 : decode cX8_fillsCosts 122 = .ok (.bipush 81, 2) := by decide +kernel
theorem dX8_fillsCosts_124 : decode cX8_fillsCosts 124 = .ok (.iload_n 2, 1) := by decide +kernel
theorem dX8_fillsCosts_125 : decode cX8_fillsCosts 125 = .ok (.imul, 1) := by decide +kernel
theorem dX8_fillsCosts_126 : decode cX8_fillsCosts 126 = .ok (.iload_n 3, 1) := by decide +kernel
theorem dX8_fillsCosts_127 : decode cX8_fillsCosts 127 = .ok (.iadd, 1) := by decide +kernel
theorem dX8_fillsCosts_128 : decode cX8_fillsCosts 128 = .ok (.iload 7, 2) := by decide +kernel
theorem dX8_fillsCosts_130 : decode cX8_fillsCosts 130 = .ok (.ifCond .eq 28, 3) := by decide +kernel
theorem dX8_fillsCosts_133 : decode cX8_fillsCosts 133 = .ok (.aload_n 1, 1) := by decide +kernel
theorem dX8_fillsCosts_134 : decode cX8_fillsCosts 134 = .ok (.iload_n 2, 1) := by decide +kernel
theorem dX8_fillsCosts_135 : decode cX8_fillsCosts 135 = .ok (.iload 4, 2) := by decide +kernel
theorem dX8_fillsCosts_137 : decode cX8_fillsCosts 137 = .ok (.iload 5, 2) := by decide +kernel
theorem dX8_fillsCosts_139 : decode cX8_fillsCosts 139 = .ok (.invokestatic 186, 3) := by decide +kernel
theorem dX8_fillsCosts_142 : decode cX8_fillsCosts 142 = .ok (.ifCond .eq 16, 3) := by decide +kernel
theorem dX8_fillsCosts_145 : decode cX8_fillsCosts 145 = .ok (.aload_n 0, 1) := by decide +kernel
theorem dX8_fillsCosts_146 : decode cX8_fillsCosts 146 = .ok (.aload_n 1, 1) := by decide +kernel
theorem dX8_fillsCosts_147 : decode cX8_fillsCosts 147 = .ok (.iload_n 2, 1) := by decide +kernel
theorem dX8_fillsCosts_148 : decode cX8_fillsCosts 148 = .ok (.iload 4, 2) := by decide +kernel
theorem dX8_fillsCosts_150 : decode cX8_fillsCosts 150 = .ok (.iload 5, 2) := by decide +kernel
theorem dX8_fillsCosts_152 : decode cX8_fillsCosts 152 = .ok (.invokevirtual 190, 3) := by decide +kernel
theorem dX8_fillsCosts_155 : decode cX8_fillsCosts 155 = .ok (.goto 5, 3) := by decide +kernel
theorem dX8_fillsCosts_158 : decode cX8_fillsCosts 158 = .ok (.ldc 193, 2) := by decide +kernel
theorem dX8_fillsCosts_160 : decode cX8_fillsCosts 160 = .ok (.iastore, 1) := by decide +kernel
theorem dX8_fillsCosts_161 : decode cX8_fillsCosts 161 = .ok (.iinc 3 1, 3) := by decide +kernel
theorem dX8_fillsCosts_164 : decode cX8_fillsCosts 164 = .ok (.goto (-153), 3) := by decide +kernel
theorem dX8_fillsCosts_167 : decode cX8_fillsCosts 167 = .ok (.iinc 2 1, 3) := by decide +kernel
theorem dX8_fillsCosts_170 : decode cX8_fillsCosts 170 = .ok (.goto (-168), 3) := by decide +kernel
theorem dX8_fillsCosts_173 : decode cX8_fillsCosts 173 = .ok (.return_, 1) := by decide +kernel
theorem dX8_costFrom_0 : decode cX8_costFrom 0 = .ok (.iconst 0, 1) := by decide +kernel
theorem dX8_costFrom_1 : decode cX8_costFrom 1 = .ok (.istore 6, 2) := by decide +kernel
theorem dX8_costFrom_3 : decode cX8_costFrom 3 = .ok (.iconst 0, 1) := by decide +kernel
theorem dX8_costFrom_4 : decode cX8_costFrom 4 = .ok (.istore 7, 2) := by decide +kernel
theorem dX8_costFrom_6 : decode cX8_costFrom 6 = .ok (.iconst 1, 1) := by decide +kernel
theorem dX8_costFrom_7 : decode cX8_costFrom 7 = .ok (.istore 8, 2) := by decide +kernel
theorem dX8_costFrom_9 : decode cX8_costFrom 9 = .ok (.iconst 1, 1) := by decide +kernel
theorem dX8_costFrom_10 : decode cX8_costFrom 10 = .ok (.istore 9, 2) := by decide +kernel
theorem dX8_costFrom_12 : decode cX8_costFrom 12 = .ok (.iload_n 3, 1) := by decide +kernel
theorem dX8_costFrom_13 : decode cX8_costFrom 13 = .ok (.istore 10, 2) := by decide +kernel
theorem dX8_costFrom_15 : decode cX8_costFrom 15 = .ok (.iconst 0, 1) := by decide +kernel
theorem dX8_costFrom_16 : decode cX8_costFrom 16 = .ok (.istore 11, 2) := by decide +kernel
theorem dX8_costFrom_18 : decode cX8_costFrom 18 = .ok (.iload 11, 2) := by decide +kernel
theorem dX8_costFrom_20 : decode cX8_costFrom 20 = .ok (.aload_n 1, 1) := by decide +kernel
theorem dX8_costFrom_21 : decode cX8_costFrom 21 = .ok (.iconst 0, 1) := by decide +kernel
theorem dX8_costFrom_22 : decode cX8_costFrom 22 = .ok (.iaload, 1) := by decide +kernel
theorem dX8_costFrom_23 : decode cX8_costFrom 23 = .ok (.if_icmp .ge 108, 3) := by decide +kernel
theorem dX8_costFrom_26 : decode cX8_costFrom 26 = .ok (.aload_n 1, 1) := by decide +kernel
theorem dX8_costFrom_27 : decode cX8_costFrom 27 = .ok (.iload 11, 2) := by decide +kernel
theorem dX8_costFrom_29 : decode cX8_costFrom 29 = .ok (.iload 10, 2) := by decide +kernel
theorem dX8_costFrom_31 : decode cX8_costFrom 31 = .ok (.bipush 6, 2) := by decide +kernel
theorem dX8_costFrom_33 : decode cX8_costFrom 33 = .ok (.irem, 1) := by decide +kernel
theorem dX8_costFrom_34 : decode cX8_costFrom 34 = .ok (.iload 4, 2) := by decide +kernel
theorem dX8_costFrom_36 : decode cX8_costFrom 36 = .ok (.iload 11, 2) := by decide +kernel
theorem dX8_costFrom_38 : decode cX8_costFrom 38 = .ok (.invokestatic 165, 3) := by decide +kernel
theorem dX8_costFrom_41 : decode cX8_costFrom 41 = .ok (.iload 5, 2) := by decide +kernel
theorem dX8_costFrom_43 : decode cX8_costFrom 43 = .ok (.invokestatic 194, 3) := by decide +kernel
theorem dX8_costFrom_46 : decode cX8_costFrom 46 = .ok (.istore 12, 2) := by decide +kernel
theorem dX8_costFrom_48 : decode cX8_costFrom 48 = .ok (.iload 12, 2) := by decide +kernel
theorem dX8_costFrom_50 : decode cX8_costFrom 50 = .ok (.ldc 66, 2) := by decide +kernel
theorem dX8_costFrom_52 : decode cX8_costFrom 52 = .ok (.if_icmp .ne 6, 3) := by decide +kernel
theorem dX8_costFrom_55 : decode cX8_costFrom 55 = .ok (.ldc 193, 2) := by decide +kernel
theorem dX8_costFrom_57 : decode cX8_costFrom 57 = .ok (.ireturn, 1) := by decide +kernel
theorem dX8_costFrom_58 : decode cX8_costFrom 58 = .ok (.iload 6, 2) := by decide +kernel
theorem dX8_costFrom_60 : decode cX8_costFrom 60 = .ok (.iload 8, 2) := by decide +kernel
theorem dX8_costFrom_62 : decode cX8_costFrom 62 = .ok (.iload 12, 2) := by decide +kernel
theorem dX8_costFrom_64 : decode cX8_costFrom 64 = .ok (.imul, 1) := by decide +kernel
theorem dX8_costFrom_65 : decode cX8_costFrom 65 = .ok (.iadd, 1) := by decide +kernel
theorem dX8_costFrom_66 : decode cX8_costFrom 66 = .ok (.istore 6, 2) := by decide +kernel
theorem dX8_costFrom_68 : decode cX8_costFrom 68 = .ok (.iload 7, 2) := by decide +kernel
theorem dX8_costFrom_70 : decode cX8_costFrom 70 = .ok (.iload 4, 2) := by decide +kernel
theorem dX8_costFrom_72 : decode cX8_costFrom 72 = .ok (.iload 11, 2) := by decide +kernel
theorem dX8_costFrom_74 : decode cX8_costFrom 74 = .ok (.invokestatic 165, 3) := by decide +kernel
theorem dX8_costFrom_77 : decode cX8_costFrom 77 = .ok (.ifCond .ne 7, 3) := by decide +kernel
theorem dX8_costFrom_80 : decode cX8_costFrom 80 = .ok (.iconst 0, 1) := by decide +kernel
theorem dX8_costFrom_81 : decode cX8_costFrom 81 = .ok (.goto 21, 3) := by decide +kernel
theorem dX8_costFrom_84 : decode cX8_costFrom 84 = .ok (.iload 10, 2) := by decide +kernel
theorem dX8_costFrom_86 : decode cX8_costFrom 86 = .ok (.bipush 6, 2) := by decide +kernel
theorem dX8_costFrom_88 : decode cX8_costFrom 88 = .ok (.irem, 1) := by decide +kernel
theorem dX8_costFrom_89 : decode cX8_costFrom 89 = .ok (.iconst 3, 1) := by decide +kernel
theorem dX8_costFrom_90 : decode cX8_costFrom 90 = .ok (.if_icmp .ge 10, 3) := by decide +kernel
theorem dX8_costFrom_93 : decode cX8_costFrom 93 = .ok (.iconst 2, 1) := by decide +kernel
theorem dX8_costFrom_94 : decode cX8_costFrom 94 = .ok (.iload 9, 2) := by decide +kernel
theorem dX8_costFrom_96 : decode cX8_costFrom 96 = .ok (.imul, 1) := by decide +kernel
theorem dX8_costFrom_97 : decode cX8_costFrom 97 = .ok (.goto 5, 3) := by decide +kernel
theorem dX8_costFrom_100 : decode cX8_costFrom 100 = .ok (.iload 9, 2) := by decide +kernel
theorem dX8_costFrom_102 : decode cX8_costFrom 102 = .ok (.iadd, 1) := by decide +kernel
theorem dX8_costFrom_103 : decode cX8_costFrom 103 = .ok (.istore 7, 2) := by decide +kernel
theorem dX8_costFrom_105 : decode cX8_costFrom 105 = .ok (.iload 8, 2) := by decide +kernel
theorem dX8_costFrom_107 : decode cX8_costFrom 107 = .ok (.bipush 6, 2) := by decide +kernel
theorem dX8_costFrom_109 : decode cX8_costFrom 109 = .ok (.imul, 1) := by decide +kernel
theorem dX8_costFrom_110 : decode cX8_costFrom 110 = .ok (.istore 8, 2) := by decide +kernel
theorem dX8_costFrom_112 : decode cX8_costFrom 112 = .ok (.iload 9, 2) := by decide +kernel
theorem dX8_costFrom_114 : decode cX8_costFrom 114 = .ok (.iconst 3, 1) := by decide +kernel
theorem dX8_costFrom_115 : decode cX8_costFrom 115 = .ok (.imul, 1) := by decide +kernel
theorem dX8_costFrom_116 : decode cX8_costFrom 116 = .ok (.istore 9, 2) := by decide +kernel
theorem dX8_costFrom_118 : decode cX8_costFrom 118 = .ok (.iload 10, 2) := by decide +kernel
theorem dX8_costFrom_120 : decode cX8_costFrom 120 = .ok (.bipush 6, 2) := by decide +kernel
theorem dX8_costFrom_122 : decode cX8_costFrom 122 = .ok (.idiv, 1) := by decide +kernel
theorem dX8_costFrom_123 : decode cX8_costFrom 123 = .ok (.istore 10, 2) := by decide +kernel
theorem dX8_costFrom_125 : decode cX8_costFrom 125 = .ok (.iinc 11 1, 3) := by decide +kernel
theorem dX8_costFrom_128 : decode cX8_costFrom 128 = .ok (.goto (-110), 3) := by decide +kernel
theorem dX8_costFrom_131 : decode cX8_costFrom 131 = .ok (.aload_n 0, 1) := by decide +kernel
theorem dX8_costFrom_132 : decode cX8_costFrom 132 = .ok (.getfield 47, 3) := by decide +kernel
theorem dX8_costFrom_135 : decode cX8_costFrom 135 = .ok (.bipush 81, 2) := by decide +kernel
theorem dX8_costFrom_137 : decode cX8_costFrom 137 = .ok (.iload_n 2, 1) := by decide +kernel
theorem dX8_costFrom_138 : decode cX8_costFrom 138 = .ok (.imul, 1) := by decide +kernel
theorem dX8_costFrom_139 : decode cX8_costFrom 139 = .ok (.iload 7, 2) := by decide +kernel
theorem dX8_costFrom_141 : decode cX8_costFrom 141 = .ok (.iadd, 1) := by decide +kernel
theorem dX8_costFrom_142 : decode cX8_costFrom 142 = .ok (.iaload, 1) := by decide +kernel
theorem dX8_costFrom_143 : decode cX8_costFrom 143 = .ok (.istore 11, 2) := by decide +kernel
theorem dX8_costFrom_145 : decode cX8_costFrom 145 = .ok (.iload 11, 2) := by decide +kernel
theorem dX8_costFrom_147 : decode cX8_costFrom 147 = .ok (.ldc 193, 2) := by decide +kernel
theorem dX8_costFrom_149 : decode cX8_costFrom 149 = .ok (.if_icmp .eq 23, 3) := by decide +kernel
theorem dX8_costFrom_152 : decode cX8_costFrom 152 = .ok (.aload_n 0, 1) := by decide +kernel
theorem dX8_costFrom_153 : decode cX8_costFrom 153 = .ok (.getfield 50, 3) := by decide +kernel
theorem dX8_costFrom_156 : decode cX8_costFrom 156 = .ok (.sipush 1296, 3) := by decide +kernel
theorem dX8_costFrom_159 : decode cX8_costFrom 159 = .ok (.iload_n 2, 1) := by decide +kernel
theorem dX8_costFrom_160 : decode cX8_costFrom 160 = .ok (.iconst 1, 1) := by decide +kernel
theorem dX8_costFrom_161 : decode cX8_costFrom 161 = .ok (.iadd, 1) := by decide +kernel
theorem dX8_costFrom_162 : decode cX8_costFrom 162 = .ok (.imul, 1) := by decide +kernel
theorem dX8_costFrom_163 : decode cX8_costFrom 163 = .ok (.iload 6, 2) := by decide +kernel
theorem dX8_costFrom_165 : decode cX8_costFrom 165 = .ok (.iadd, 1) := by decide +kernel
theorem dX8_costFrom_166 : decode cX8_costFrom 166 = .ok (.iaload, 1) := by decide +kernel
theorem dX8_costFrom_167 : decode cX8_costFrom 167 = .ok (.ldc 193, 2) := by decide +kernel
theorem dX8_costFrom_169 : decode cX8_costFrom 169 = .ok (.if_icmp .ne 8, 3) := by decide +kernel
theorem dX8_costFrom_172 : decode cX8_costFrom 172 = .ok (.ldc 193, 2) := by decide +kernel
theorem dX8_costFrom_174 : decode cX8_costFrom 174 = .ok (.goto 21, 3) := by decide +kernel
theorem dX8_costFrom_177 : decode cX8_costFrom 177 = .ok (.iload 11, 2) := by decide +kernel
theorem dX8_costFrom_179 : decode cX8_costFrom 179 = .ok (.aload_n 0, 1) := by decide +kernel
theorem dX8_costFrom_180 : decode cX8_costFrom 180 = .ok (.getfield 50, 3) := by decide +kernel
theorem dX8_costFrom_183 : decode cX8_costFrom 183 = .ok (.sipush 1296, 3) := by decide +kernel
theorem dX8_costFrom_186 : decode cX8_costFrom 186 = .ok (.iload_n 2, 1) := by decide +kernel
theorem dX8_costFrom_187 : decode cX8_costFrom 187 = .ok (.iconst 1, 1) := by decide +kernel
theorem dX8_costFrom_188 : decode cX8_costFrom 188 = .ok (.iadd, 1) := by decide +kernel
theorem dX8_costFrom_189 : decode cX8_costFrom 189 = .ok (.imul, 1) := by decide +kernel
theorem dX8_costFrom_190 : decode cX8_costFrom 190 = .ok (.iload 6, 2) := by decide +kernel
theorem dX8_costFrom_192 : decode cX8_costFrom 192 = .ok (.iadd, 1) := by decide +kernel
theorem dX8_costFrom_193 : decode cX8_costFrom 193 = .ok (.iaload, 1) := by decide +kernel
theorem dX8_costFrom_194 : decode cX8_costFrom 194 = .ok (.iadd, 1) := by decide +kernel
theorem dX8_costFrom_195 : decode cX8_costFrom 195 = .ok (.ireturn, 1) := by decide +kernel
theorem dX8_stateOf_0 : decode cX8_stateOf 0 = .ok (.iconst 1, 1) := by decide +kernel
theorem dX8_stateOf_1 : decode cX8_stateOf 1 = .ok (.istore_n 1, 1) := by decide +kernel
theorem dX8_stateOf_2 : decode cX8_stateOf 2 = .ok (.iconst 0, 1) := by decide +kernel
theorem dX8_stateOf_3 : decode cX8_stateOf 3 = .ok (.istore_n 2, 1) := by decide +kernel
theorem dX8_stateOf_4 : decode cX8_stateOf 4 = .ok (.iload_n 2, 1) := by decide +kernel
theorem dX8_stateOf_5 : decode cX8_stateOf 5 = .ok (.aload_n 0, 1) := by decide +kernel
theorem dX8_stateOf_6 : decode cX8_stateOf 6 = .ok (.iconst 0, 1) := by decide +kernel
theorem dX8_stateOf_7 : decode cX8_stateOf 7 = .ok (.iaload, 1) := by decide +kernel
theorem dX8_stateOf_8 : decode cX8_stateOf 8 = .ok (.if_icmp .ge 14, 3) := by decide +kernel
theorem dX8_stateOf_11 : decode cX8_stateOf 11 = .ok (.iload_n 1, 1) := by decide +kernel
theorem dX8_stateOf_12 : decode cX8_stateOf 12 = .ok (.bipush 6, 2) := by decide +kernel
theorem dX8_stateOf_14 : decode cX8_stateOf 14 = .ok (.imul, 1) := by decide +kernel
theorem dX8_stateOf_15 : decode cX8_stateOf 15 = .ok (.istore_n 1, 1) := by decide +kernel
theorem dX8_stateOf_16 : decode cX8_stateOf 16 = .ok (.iinc 2 1, 3) := by decide +kernel
theorem dX8_stateOf_19 : decode cX8_stateOf 19 = .ok (.goto (-15), 3) := by decide +kernel
theorem dX8_stateOf_22 : decode cX8_stateOf 22 = .ok (.iload_n 1, 1) := by decide +kernel
theorem dX8_stateOf_23 : decode cX8_stateOf 23 = .ok (.ireturn, 1) := by decide +kernel
theorem dX8_nextOf_0 : decode cX8_nextOf 0 = .ok (.iconst 0, 1) := by decide +kernel
theorem dX8_nextOf_1 : decode cX8_nextOf 1 = .ok (.istore 4, 2) := by decide +kernel
theorem dX8_nextOf_3 : decode cX8_nextOf 3 = .ok (.iconst 1, 1) := by decide +kernel
theorem dX8_nextOf_4 : decode cX8_nextOf 4 = .ok (.istore 5, 2) := by decide +kernel
theorem dX8_nextOf_6 : decode cX8_nextOf 6 = .ok (.iload_n 1, 1) := by decide +kernel
theorem dX8_nextOf_7 : decode cX8_nextOf 7 = .ok (.istore 6, 2) := by decide +kernel
theorem dX8_nextOf_9 : decode cX8_nextOf 9 = .ok (.iconst 0, 1) := by decide +kernel
theorem dX8_nextOf_10 : decode cX8_nextOf 10 = .ok (.istore 7, 2) := by decide +kernel
theorem dX8_nextOf_12 : decode cX8_nextOf 12 = .ok (.iload 7, 2) := by decide +kernel
theorem dX8_nextOf_14 : decode cX8_nextOf 14 = .ok (.aload_n 0, 1) := by decide +kernel
theorem dX8_nextOf_15 : decode cX8_nextOf 15 = .ok (.iconst 0, 1) := by decide +kernel
theorem dX8_nextOf_16 : decode cX8_nextOf 16 = .ok (.iaload, 1) := by decide +kernel
theorem dX8_nextOf_17 : decode cX8_nextOf 17 = .ok (.if_icmp .ge 49, 3) := by decide +kernel
theorem dX8_nextOf_20 : decode cX8_nextOf 20 = .ok (.iload 4, 2) := by decide +kernel
theorem dX8_nextOf_22 : decode cX8_nextOf 22 = .ok (.iload 5, 2) := by decide +kernel
theorem dX8_nextOf_24 : decode cX8_nextOf 24 = .ok (.aload_n 0, 1) := by decide +kernel
theorem dX8_nextOf_25 : decode cX8_nextOf 25 = .ok (.iload 7, 2) := by decide +kernel
theorem dX8_nextOf_27 : decode cX8_nextOf 27 = .ok (.iload 6, 2) := by decide +kernel
theorem dX8_nextOf_29 : decode cX8_nextOf 29 = .ok (.bipush 6, 2) := by decide +kernel
theorem dX8_nextOf_31 : decode cX8_nextOf 31 = .ok (.irem, 1) := by decide +kernel
theorem dX8_nextOf_32 : decode cX8_nextOf 32 = .ok (.iload_n 2, 1) := by decide +kernel
theorem dX8_nextOf_33 : decode cX8_nextOf 33 = .ok (.iload 7, 2) := by decide +kernel
theorem dX8_nextOf_35 : decode cX8_nextOf 35 = .ok (.invokestatic 165, 3) := by decide +kernel
theorem dX8_nextOf_38 : decode cX8_nextOf 38 = .ok (.iload_n 3, 1) := by decide +kernel
theorem dX8_nextOf_39 : decode cX8_nextOf 39 = .ok (.invokestatic 194, 3) := by decide +kernel
theorem dX8_nextOf_42 : decode cX8_nextOf 42 = .ok (.imul, 1) := by decide +kernel
theorem dX8_nextOf_43 : decode cX8_nextOf 43 = .ok (.iadd, 1) := by decide +kernel
theorem dX8_nextOf_44 : decode cX8_nextOf 44 = .ok (.istore 4, 2) := by decide +kernel
theorem dX8_nextOf_46 : decode cX8_nextOf 46 = .ok (.iload 5, 2) := by decide +kernel
theorem dX8_nextOf_48 : decode cX8_nextOf 48 = .ok (.bipush 6, 2) := by decide +kernel
theorem dX8_nextOf_50 : decode cX8_nextOf 50 = .ok (.imul, 1) := by decide +kernel
theorem dX8_nextOf_51 : decode cX8_nextOf 51 = .ok (.istore 5, 2) := by decide +kernel
theorem dX8_nextOf_53 : decode cX8_nextOf 53 = .ok (.iload 6, 2) := by decide +kernel
theorem dX8_nextOf_55 : decode cX8_nextOf 55 = .ok (.bipush 6, 2) := by decide +kernel
theorem dX8_nextOf_57 : decode cX8_nextOf 57 = .ok (.idiv, 1) := by decide +kernel
theorem dX8_nextOf_58 : decode cX8_nextOf 58 = .ok (.istore 6, 2) := by decide +kernel
theorem dX8_nextOf_60 : decode cX8_nextOf 60 = .ok (.iinc 7 1, 3) := by decide +kernel
theorem dX8_nextOf_63 : decode cX8_nextOf 63 = .ok (.goto (-51), 3) := by decide +kernel
theorem dX8_nextOf_66 : decode cX8_nextOf 66 = .ok (.iload 4, 2) := by decide +kernel
theorem dX8_nextOf_68 : decode cX8_nextOf 68 = .ok (.ireturn, 1) := by decide +kernel
theorem dX8_finds_0 : decode cX8_finds 0 = .ok (.aload_n 0, 1) := by decide +kernel
theorem dX8_finds_1 : decode cX8_finds 1 = .ok (.aload_n 1, 1) := by decide +kernel
theorem dX8_finds_2 : decode cX8_finds 2 = .ok (.invokevirtual 198, 3) := by decide +kernel
theorem dX8_finds_5 : decode cX8_finds 5 = .ok (.aload_n 1, 1) := by decide +kernel
theorem dX8_finds_6 : decode cX8_finds 6 = .ok (.invokestatic 202, 3) := by decide +kernel
theorem dX8_finds_9 : decode cX8_finds 9 = .ok (.istore_n 3, 1) := by decide +kernel
theorem dX8_finds_10 : decode cX8_finds 10 = .ok (.iconst 1, 1) := by decide +kernel
theorem dX8_finds_11 : decode cX8_finds 11 = .ok (.aload_n 1, 1) := by decide +kernel
theorem dX8_finds_12 : decode cX8_finds 12 = .ok (.iconst 0, 1) := by decide +kernel
theorem dX8_finds_13 : decode cX8_finds 13 = .ok (.iaload, 1) := by decide +kernel
theorem dX8_finds_14 : decode cX8_finds 14 = .ok (.ishl, 1) := by decide +kernel
theorem dX8_finds_15 : decode cX8_finds 15 = .ok (.istore 4, 2) := by decide +kernel
theorem dX8_finds_17 : decode cX8_finds 17 = .ok (.iconst 0, 1) := by decide +kernel
theorem dX8_finds_18 : decode cX8_finds 18 = .ok (.istore 5, 2) := by decide +kernel
theorem dX8_finds_20 : decode cX8_finds 20 = .ok (.iload 5, 2) := by decide +kernel
theorem dX8_finds_22 : decode cX8_finds 22 = .ok (.iload_n 3, 1) := by decide +kernel
theorem dX8_finds_23 : decode cX8_finds 23 = .ok (.if_icmp .ge 25, 3) := by decide +kernel
theorem dX8_finds_26 : decode cX8_finds 26 = .ok (.aload_n 0, 1) := by decide +kernel
theorem dX8_finds_27 : decode cX8_finds 27 = .ok (.getfield 50, 3) := by decide +kernel
theorem dX8_finds_30 : decode cX8_finds 30 = .ok (.sipush 1296, 3) := by decide +kernel
theorem dX8_finds_33 : decode cX8_finds 33 = .ok (.aload_n 1, 1) := by decide +kernel
theorem dX8_finds_34 : decode cX8_finds 34 = .ok (.iconst 1, 1) := by decide +kernel
theorem dX8_finds_35 : decode cX8_finds 35 = .ok (.iaload, 1) := by decide +kernel
theorem dX8_finds_36 : decode cX8_finds 36 = .ok (.imul, 1) := by decide +kernel
theorem dX8_finds_37 : decode cX8_finds 37 = .ok (.iload 5, 2) := by decide +kernel
theorem dX8_finds_39 : decode cX8_finds 39 = .ok (.iadd, 1) := by decide +kernel
theorem dX8_finds_40 : decode cX8_finds 40 = .ok (.iconst 0, 1) := by decide +kernel
theorem dX8_finds_41 : decode cX8_finds 41 = .ok (.iastore, 1) := by decide +kernel
theorem dX8_finds_42 : decode cX8_finds 42 = .ok (.iinc 5 1, 3) := by decide +kernel
theorem dX8_finds_45 : decode cX8_finds 45 = .ok (.goto (-25), 3) := by decide +kernel
theorem dX8_finds_48 : decode cX8_finds 48 = .ok (.aload_n 1, 1) := by decide +kernel
theorem dX8_finds_49 : decode cX8_finds 49 = .ok (.iconst 1, 1) := by decide +kernel
theorem dX8_finds_50 : decode cX8_finds 50 = .ok (.iaload, 1) := by decide +kernel
theorem dX8_finds_51 : decode cX8_finds 51 = .ok (.iconst 1, 1) := by decide +kernel
theorem dX8_finds_52 : decode cX8_finds 52 = .ok (.isub, 1) := by decide +kernel
theorem dX8_finds_53 : decode cX8_finds 53 = .ok (.istore 5, 2) := by decide +kernel
theorem dX8_finds_55 : decode cX8_finds 55 = .ok (.iload 5, 2) := by decide +kernel
theorem dX8_finds_57 : decode cX8_finds 57 = .ok (.ifCond .lt 100, 3) := by decide +kernel
theorem dX8_finds_60 : decode cX8_finds 60 = .ok (.iconst 0, 1) := by decide +kernel
theorem dX8_finds_61 : decode cX8_finds 61 = .ok (.istore 6, 2) := by decide +kernel
theorem dX8_finds_63 : decode cX8_finds 63 = .ok (.iload 6, 2) := by decide +kernel
theorem dX8_finds_65 : decode cX8_finds 65 = .ok (.iload_n 3, 1) := by decide +kernel
theorem dX8_finds_66 : decode cX8_finds 66 = .ok (.if_icmp .ge 85, 3) := by decide +kernel
theorem dX8_finds_69 : decode cX8_finds 69 = .ok (.ldc 193, 2) := by decide +kernel
theorem dX8_finds_71 : decode cX8_finds 71 = .ok (.istore 7, 2) := by decide +kernel
theorem dX8_finds_73 : decode cX8_finds 73 = .ok (.iconst 0, 1) := by decide +kernel
theorem dX8_finds_74 : decode cX8_finds 74 = .ok (.istore 8, 2) := by decide +kernel
theorem dX8_finds_76 : decode cX8_finds 76 = .ok (.iload 8, 2) := by decide +kernel
theorem dX8_finds_78 : decode cX8_finds 78 = .ok (.iload 4, 2) := by decide +kernel
theorem dX8_finds_80 : decode cX8_finds 80 = .ok (.if_icmp .ge 49, 3) := by decide +kernel
theorem dX8_finds_83 : decode cX8_finds 83 = .ok (.iload 5, 2) := by decide +kernel
theorem dX8_finds_85 : decode cX8_finds 85 = .ok (.ifCond .gt 8, 3) := by decide +kernel
theorem dX8_finds_88 : decode cX8_finds 88 = .ok (.iload 6, 2) := by decide +kernel
theorem dX8_finds_90 : decode cX8_finds 90 = .ok (.ifCond .ne 39, 3) := by decide +kernel
theorem dX8_finds_93 : decode cX8_finds 93 = .ok (.aload_n 0, 1) := by decide +kernel
theorem dX8_finds_94 : decode cX8_finds 94 = .ok (.aload_n 1, 1) := by decide +kernel
theorem dX8_finds_95 : decode cX8_finds 95 = .ok (.iload 5, 2) := by decide +kernel
theorem dX8_finds_97 : decode cX8_finds 97 = .ok (.iload 6, 2) := by decide +kernel
theorem dX8_finds_99 : decode cX8_finds 99 = .ok (.iload 8, 2) := by decide +kernel
theorem dX8_finds_101 : decode cX8_finds 101 = .ok (.iload_n 2, 1) := by decide +kernel
theorem dX8_finds_102 : decode cX8_finds 102 = .ok (.invokevirtual 206, 3) := by decide +kernel
theorem dX8_finds_105 : decode cX8_finds 105 = .ok (.istore 9, 2) := by decide +kernel
theorem dX8_finds_107 : decode cX8_finds 107 = .ok (.iload 9, 2) := by decide +kernel
theorem dX8_finds_109 : decode cX8_finds 109 = .ok (.iload 7, 2) := by decide +kernel
theorem dX8_finds_111 : decode cX8_finds 111 = .ok (.if_icmp .ge 8, 3) := by decide +kernel
theorem dX8_finds_114 : decode cX8_finds 114 = .ok (.iload 9, 2) := by decide +kernel
theorem dX8_finds_116 : decode cX8_finds 116 = .ok (.goto 5, 3) := by decide +kernel
theorem dX8_finds_119 : decode cX8_finds 119 = .ok (.iload 7, 2) := by decide +kernel
theorem dX8_finds_121 : decode cX8_finds 121 = .ok (.istore 7, 2) := by decide +kernel
theorem dX8_finds_123 : decode cX8_finds 123 = .ok (.iinc 8 1, 3) := by decide +kernel
theorem dX8_finds_126 : decode cX8_finds 126 = .ok (.goto (-50), 3) := by decide +kernel
theorem dX8_finds_129 : decode cX8_finds 129 = .ok (.aload_n 0, 1) := by decide +kernel
theorem dX8_finds_130 : decode cX8_finds 130 = .ok (.getfield 50, 3) := by decide +kernel
theorem dX8_finds_133 : decode cX8_finds 133 = .ok (.sipush 1296, 3) := by decide +kernel
theorem dX8_finds_136 : decode cX8_finds 136 = .ok (.iload 5, 2) := by decide +kernel
theorem dX8_finds_138 : decode cX8_finds 138 = .ok (.imul, 1) := by decide +kernel
theorem dX8_finds_139 : decode cX8_finds 139 = .ok (.iload 6, 2) := by decide +kernel
theorem dX8_finds_141 : decode cX8_finds 141 = .ok (.iadd, 1) := by decide +kernel
theorem dX8_finds_142 : decode cX8_finds 142 = .ok (.iload 7, 2) := by decide +kernel
theorem dX8_finds_144 : decode cX8_finds 144 = .ok (.iastore, 1) := by decide +kernel
theorem dX8_finds_145 : decode cX8_finds 145 = .ok (.iinc 6 1, 3) := by decide +kernel
theorem dX8_finds_148 : decode cX8_finds 148 = .ok (.goto (-85), 3) := by decide +kernel
theorem dX8_finds_151 : decode cX8_finds 151 = .ok (.iinc 5 (-1), 3) := by decide +kernel
theorem dX8_finds_154 : decode cX8_finds 154 = .ok (.goto (-99), 3) := by decide +kernel
theorem dX8_finds_157 : decode cX8_finds 157 = .ok (.aload_n 0, 1) := by decide +kernel
theorem dX8_finds_158 : decode cX8_finds 158 = .ok (.aload_n 0, 1) := by decide +kernel
theorem dX8_finds_159 : decode cX8_finds 159 = .ok (.getfield 50, 3) := by decide +kernel
theorem dX8_finds_162 : decode cX8_finds 162 = .ok (.iconst 0, 1) := by decide +kernel
theorem dX8_finds_163 : decode cX8_finds 163 = .ok (.iaload, 1) := by decide +kernel
theorem dX8_finds_164 : decode cX8_finds 164 = .ok (.putfield 210, 3) := by decide +kernel
theorem dX8_finds_167 : decode cX8_finds 167 = .ok (.iconst 0, 1) := by decide +kernel
theorem dX8_finds_168 : decode cX8_finds 168 = .ok (.istore 5, 2) := by decide +kernel
theorem dX8_finds_170 : decode cX8_finds 170 = .ok (.iconst 0, 1) := by decide +kernel
theorem dX8_finds_171 : decode cX8_finds 171 = .ok (.istore 6, 2) := by decide +kernel
theorem dX8_finds_173 : decode cX8_finds 173 = .ok (.iload 6, 2) := by decide +kernel
theorem dX8_finds_175 : decode cX8_finds 175 = .ok (.aload_n 1, 1) := by decide +kernel
theorem dX8_finds_176 : decode cX8_finds 176 = .ok (.iconst 1, 1) := by decide +kernel
theorem dX8_finds_177 : decode cX8_finds 177 = .ok (.iaload, 1) := by decide +kernel
theorem dX8_finds_178 : decode cX8_finds 178 = .ok (.if_icmp .ge 76, 3) := by decide +kernel
theorem dX8_finds_181 : decode cX8_finds 181 = .ok (.aload_n 0, 1) := by decide +kernel
theorem dX8_finds_182 : decode cX8_finds 182 = .ok (.getfield 210, 3) := by decide +kernel
theorem dX8_finds_185 : decode cX8_finds 185 = .ok (.ldc 193, 2) := by decide +kernel
theorem dX8_finds_187 : decode cX8_finds 187 = .ok (.if_icmp .ge 67, 3) := by decide +kernel
theorem dX8_finds_190 : decode cX8_finds 190 = .ok (.iconst 0, 1) := by decide +kernel
theorem dX8_finds_191 : decode cX8_finds 191 = .ok (.istore 7, 2) := by decide +kernel
theorem dX8_finds_193 : decode cX8_finds 193 = .ok (.aload_n 0, 1) := by decide +kernel
theorem dX8_finds_194 : decode cX8_finds 194 = .ok (.aload_n 1, 1) := by decide +kernel
theorem dX8_finds_195 : decode cX8_finds 195 = .ok (.iload 6, 2) := by decide +kernel
theorem dX8_finds_197 : decode cX8_finds 197 = .ok (.iload 5, 2) := by decide +kernel
theorem dX8_finds_199 : decode cX8_finds 199 = .ok (.iload 7, 2) := by decide +kernel
theorem dX8_finds_201 : decode cX8_finds 201 = .ok (.iload_n 2, 1) := by decide +kernel
theorem dX8_finds_202 : decode cX8_finds 202 = .ok (.invokevirtual 206, 3) := by decide +kernel
theorem dX8_finds_205 : decode cX8_finds 205 = .ok (.aload_n 0, 1) := by decide +kernel
theorem dX8_finds_206 : decode cX8_finds 206 = .ok (.getfield 50, 3) := by decide +kernel
theorem dX8_finds_209 : decode cX8_finds 209 = .ok (.sipush 1296, 3) := by decide +kernel
theorem dX8_finds_212 : decode cX8_finds 212 = .ok (.iload 6, 2) := by decide +kernel
theorem dX8_finds_214 : decode cX8_finds 214 = .ok (.imul, 1) := by decide +kernel
theorem dX8_finds_215 : decode cX8_finds 215 = .ok (.iload 5, 2) := by decide +kernel
theorem dX8_finds_217 : decode cX8_finds 217 = .ok (.iadd, 1) := by decide +kernel
theorem dX8_finds_218 : decode cX8_finds 218 = .ok (.iaload, 1) := by decide +kernel
theorem dX8_finds_219 : decode cX8_finds 219 = .ok (.if_icmp .eq 9, 3) := by decide +kernel
theorem dX8_finds_222 : decode cX8_finds 222 = .ok (.iinc 7 1, 3) := by decide +kernel
theorem dX8_finds_225 : decode cX8_finds 225 = .ok (.goto (-32), 3) := by decide +kernel
theorem dX8_finds_228 : decode cX8_finds 228 = .ok (.aload_n 0, 1) := by decide +kernel
theorem dX8_finds_229 : decode cX8_finds 229 = .ok (.getfield 53, 3) := by decide +kernel
theorem dX8_finds_232 : decode cX8_finds 232 = .ok (.iload 6, 2) := by decide +kernel
theorem dX8_finds_234 : decode cX8_finds 234 = .ok (.iload 7, 2) := by decide +kernel
theorem dX8_finds_236 : decode cX8_finds 236 = .ok (.iastore, 1) := by decide +kernel
theorem dX8_finds_237 : decode cX8_finds 237 = .ok (.aload_n 1, 1) := by decide +kernel
theorem dX8_finds_238 : decode cX8_finds 238 = .ok (.iload 5, 2) := by decide +kernel
theorem dX8_finds_240 : decode cX8_finds 240 = .ok (.iload 7, 2) := by decide +kernel
theorem dX8_finds_242 : decode cX8_finds 242 = .ok (.iload_n 2, 1) := by decide +kernel
theorem dX8_finds_243 : decode cX8_finds 243 = .ok (.invokestatic 213, 3) := by decide +kernel
theorem dX8_finds_246 : decode cX8_finds 246 = .ok (.istore 5, 2) := by decide +kernel
theorem dX8_finds_248 : decode cX8_finds 248 = .ok (.iinc 6 1, 3) := by decide +kernel
theorem dX8_finds_251 : decode cX8_finds 251 = .ok (.goto (-78), 3) := by decide +kernel
theorem dX8_finds_254 : decode cX8_finds 254 = .ok (.return_, 1) := by decide +kernel
theorem dX8_bestCost_0 : decode cX8_bestCost 0 = .ok (.aload_n 0, 1) := by decide +kernel
theorem dX8_bestCost_1 : decode cX8_bestCost 1 = .ok (.aload_n 1, 1) := by decide +kernel
theorem dX8_bestCost_2 : decode cX8_bestCost 2 = .ok (.iload_n 2, 1) := by decide +kernel
theorem dX8_bestCost_3 : decode cX8_bestCost 3 = .ok (.invokevirtual 216, 3) := by decide +kernel
theorem dX8_bestCost_6 : decode cX8_bestCost 6 = .ok (.aload_n 0, 1) := by decide +kernel
theorem dX8_bestCost_7 : decode cX8_bestCost 7 = .ok (.getfield 210, 3) := by decide +kernel
theorem dX8_bestCost_10 : decode cX8_bestCost 10 = .ok (.ldc 193, 2) := by decide +kernel
theorem dX8_bestCost_12 : decode cX8_bestCost 12 = .ok (.if_icmp .ne 8, 3) := by decide +kernel
theorem dX8_bestCost_15 : decode cX8_bestCost 15 = .ok (.ldc 66, 2) := by decide +kernel
theorem dX8_bestCost_17 : decode cX8_bestCost 17 = .ok (.goto 7, 3) := by decide +kernel
theorem dX8_bestCost_20 : decode cX8_bestCost 20 = .ok (.aload_n 0, 1) := by decide +kernel
theorem dX8_bestCost_21 : decode cX8_bestCost 21 = .ok (.getfield 210, 3) := by decide +kernel
theorem dX8_bestCost_24 : decode cX8_bestCost 24 = .ok (.ireturn, 1) := by decide +kernel
theorem dX8_notes_0 : decode cX8_notes 0 = .ok (.aload_n 0, 1) := by decide +kernel
theorem dX8_notes_1 : decode cX8_notes 1 = .ok (.getfield 158, 3) := by decide +kernel
theorem dX8_notes_4 : decode cX8_notes 4 = .ok (.bipush 16, 2) := by decide +kernel
theorem dX8_notes_6 : decode cX8_notes 6 = .ok (.if_icmp .ne 43, 3) := by decide +kernel
theorem dX8_notes_9 : decode cX8_notes 9 = .ok (.iconst 0, 1) := by decide +kernel
theorem dX8_notes_10 : decode cX8_notes 10 = .ok (.istore_n 1, 1) := by decide +kernel
theorem dX8_notes_11 : decode cX8_notes 11 = .ok (.iload_n 1, 1) := by decide +kernel
theorem dX8_notes_12 : decode cX8_notes 12 = .ok (.sipush 615, 3) := by decide +kernel
theorem dX8_notes_15 : decode cX8_notes 15 = .ok (.if_icmp .ge 24, 3) := by decide +kernel
theorem dX8_notes_18 : decode cX8_notes 18 = .ok (.aload_n 0, 1) := by decide +kernel
theorem dX8_notes_19 : decode cX8_notes 19 = .ok (.getfield 34, 3) := by decide +kernel
theorem dX8_notes_22 : decode cX8_notes 22 = .ok (.iload_n 1, 1) := by decide +kernel
theorem dX8_notes_23 : decode cX8_notes 23 = .ok (.aload_n 0, 1) := by decide +kernel
theorem dX8_notes_24 : decode cX8_notes 24 = .ok (.getfield 34, 3) := by decide +kernel
theorem dX8_notes_27 : decode cX8_notes 27 = .ok (.iload_n 1, 1) := by decide +kernel
theorem dX8_notes_28 : decode cX8_notes 28 = .ok (.bipush 41, 2) := by decide +kernel
theorem dX8_notes_30 : decode cX8_notes 30 = .ok (.iadd, 1) := by decide +kernel
theorem dX8_notes_31 : decode cX8_notes 31 = .ok (.iaload, 1) := by decide +kernel
theorem dX8_notes_32 : decode cX8_notes 32 = .ok (.iastore, 1) := by decide +kernel
theorem dX8_notes_33 : decode cX8_notes 33 = .ok (.iinc 1 1, 3) := by decide +kernel
theorem dX8_notes_36 : decode cX8_notes 36 = .ok (.goto (-25), 3) := by decide +kernel
theorem dX8_notes_39 : decode cX8_notes 39 = .ok (.aload_n 0, 1) := by decide +kernel
theorem dX8_notes_40 : decode cX8_notes 40 = .ok (.dup, 1) := by decide +kernel
theorem dX8_notes_41 : decode cX8_notes 41 = .ok (.getfield 158, 3) := by decide +kernel
theorem dX8_notes_44 : decode cX8_notes 44 = .ok (.iconst 1, 1) := by decide +kernel
theorem dX8_notes_45 : decode cX8_notes 45 = .ok (.isub, 1) := by decide +kernel
theorem dX8_notes_46 : decode cX8_notes 46 = .ok (.putfield 158, 3) := by decide +kernel
theorem dX8_notes_49 : decode cX8_notes 49 = .ok (.aload_n 0, 1) := by decide +kernel
theorem dX8_notes_50 : decode cX8_notes 50 = .ok (.getfield 25, 3) := by decide +kernel
theorem dX8_notes_53 : decode cX8_notes 53 = .ok (.iconst 0, 1) := by decide +kernel
theorem dX8_notes_54 : decode cX8_notes 54 = .ok (.aload_n 0, 1) := by decide +kernel
theorem dX8_notes_55 : decode cX8_notes 55 = .ok (.getfield 34, 3) := by decide +kernel
theorem dX8_notes_58 : decode cX8_notes 58 = .ok (.bipush 41, 2) := by decide +kernel
theorem dX8_notes_60 : decode cX8_notes 60 = .ok (.aload_n 0, 1) := by decide +kernel
theorem dX8_notes_61 : decode cX8_notes 61 = .ok (.getfield 158, 3) := by decide +kernel
theorem dX8_notes_64 : decode cX8_notes 64 = .ok (.imul, 1) := by decide +kernel
theorem dX8_notes_65 : decode cX8_notes 65 = .ok (.invokestatic 154, 3) := by decide +kernel
theorem dX8_notes_68 : decode cX8_notes 68 = .ok (.aload_n 0, 1) := by decide +kernel
theorem dX8_notes_69 : decode cX8_notes 69 = .ok (.dup, 1) := by decide +kernel
theorem dX8_notes_70 : decode cX8_notes 70 = .ok (.getfield 158, 3) := by decide +kernel
theorem dX8_notes_73 : decode cX8_notes 73 = .ok (.iconst 1, 1) := by decide +kernel
theorem dX8_notes_74 : decode cX8_notes 74 = .ok (.iadd, 1) := by decide +kernel
theorem dX8_notes_75 : decode cX8_notes 75 = .ok (.putfield 158, 3) := by decide +kernel
theorem dX8_notes_78 : decode cX8_notes 78 = .ok (.return_, 1) := by decide +kernel
theorem dX8_run_0 : decode cX8_run 0 = .ok (.aload_n 0, 1) := by decide +kernel
theorem dX8_run_1 : decode cX8_run 1 = .ok (.iload_n 1, 1) := by decide +kernel
theorem dX8_run_2 : decode cX8_run 2 = .ok (.invokevirtual 220, 3) := by decide +kernel
theorem dX8_run_5 : decode cX8_run 5 = .ok (.ifCond .eq 21, 3) := by decide +kernel
theorem dX8_run_8 : decode cX8_run 8 = .ok (.iload_n 2, 1) := by decide +kernel
theorem dX8_run_9 : decode cX8_run 9 = .ok (.iconst 0, 1) := by decide +kernel
theorem dX8_run_10 : decode cX8_run 10 = .ok (.iconst 1, 1) := by decide +kernel
theorem dX8_run_11 : decode cX8_run 11 = .ok (.aload_n 0, 1) := by decide +kernel
theorem dX8_run_12 : decode cX8_run 12 = .ok (.getfield 25, 3) := by decide +kernel
theorem dX8_run_15 : decode cX8_run 15 = .ok (.iconst 1, 1) := by decide +kernel
theorem dX8_run_16 : decode cX8_run 16 = .ok (.iaload, 1) := by decide +kernel
theorem dX8_run_17 : decode cX8_run 17 = .ok (.ishl, 1) := by decide +kernel
theorem dX8_run_18 : decode cX8_run 18 = .ok (.iconst 1, 1) := by decide +kernel
theorem dX8_run_19 : decode cX8_run 19 = .ok (.isub, 1) := by decide +kernel
theorem dX8_run_20 : decode cX8_run 20 = .ok (.invokestatic 72, 3) := by decide +kernel
theorem dX8_run_23 : decode cX8_run 23 = .ok (.ifCond .ne 6, 3) := by decide +kernel
theorem dX8_run_26 : decode cX8_run 26 = .ok (.ldc 80, 2) := by decide +kernel
theorem dX8_run_28 : decode cX8_run 28 = .ok (.ireturn, 1) := by decide +kernel
theorem dX8_run_29 : decode cX8_run 29 = .ok (.aload_n 0, 1) := by decide +kernel
theorem dX8_run_30 : decode cX8_run 30 = .ok (.getfield 25, 3) := by decide +kernel
theorem dX8_run_33 : decode cX8_run 33 = .ok (.bipush 9, 2) := by decide +kernel
theorem dX8_run_35 : decode cX8_run 35 = .ok (.bipush 8, 2) := by decide +kernel
theorem dX8_run_37 : decode cX8_run 37 = .ok (.iload_n 1, 1) := by decide +kernel
theorem dX8_run_38 : decode cX8_run 38 = .ok (.imul, 1) := by decide +kernel
theorem dX8_run_39 : decode cX8_run 39 = .ok (.iadd, 1) := by decide +kernel
theorem dX8_run_40 : decode cX8_run 40 = .ok (.bipush 7, 2) := by decide +kernel
theorem dX8_run_42 : decode cX8_run 42 = .ok (.iadd, 1) := by decide +kernel
theorem dX8_run_43 : decode cX8_run 43 = .ok (.iaload, 1) := by decide +kernel
theorem dX8_run_44 : decode cX8_run 44 = .ok (.istore_n 3, 1) := by decide +kernel
theorem dX8_run_45 : decode cX8_run 45 = .ok (.iload_n 3, 1) := by decide +kernel
theorem dX8_run_46 : decode cX8_run 46 = .ok (.iload_n 2, 1) := by decide +kernel
theorem dX8_run_47 : decode cX8_run 47 = .ok (.if_icmp .ne 6, 3) := by decide +kernel
theorem dX8_run_50 : decode cX8_run 50 = .ok (.ldc 223, 2) := by decide +kernel
theorem dX8_run_52 : decode cX8_run 52 = .ok (.ireturn, 1) := by decide +kernel
theorem dX8_run_53 : decode cX8_run 53 = .ok (.aload_n 0, 1) := by decide +kernel
theorem dX8_run_54 : decode cX8_run 54 = .ok (.invokevirtual 224, 3) := by decide +kernel
theorem dX8_run_57 : decode cX8_run 57 = .ok (.aload_n 0, 1) := by decide +kernel
theorem dX8_run_58 : decode cX8_run 58 = .ok (.getfield 25, 3) := by decide +kernel
theorem dX8_run_61 : decode cX8_run 61 = .ok (.bipush 9, 2) := by decide +kernel
theorem dX8_run_63 : decode cX8_run 63 = .ok (.bipush 8, 2) := by decide +kernel
theorem dX8_run_65 : decode cX8_run 65 = .ok (.iload_n 1, 1) := by decide +kernel
theorem dX8_run_66 : decode cX8_run 66 = .ok (.imul, 1) := by decide +kernel
theorem dX8_run_67 : decode cX8_run 67 = .ok (.iadd, 1) := by decide +kernel
theorem dX8_run_68 : decode cX8_run 68 = .ok (.bipush 7, 2) := by decide +kernel
theorem dX8_run_70 : decode cX8_run 70 = .ok (.iadd, 1) := by decide +kernel
theorem dX8_run_71 : decode cX8_run 71 = .ok (.iload_n 2, 1) := by decide +kernel
theorem dX8_run_72 : decode cX8_run 72 = .ok (.iastore, 1) := by decide +kernel
theorem dX8_run_73 : decode cX8_run 73 = .ok (.iload_n 3, 1) := by decide +kernel
theorem dX8_run_74 : decode cX8_run 74 = .ok (.ireturn, 1) := by decide +kernel
theorem dX8_layBest_0 : decode cX8_layBest 0 = .ok (.aload_n 0, 1) := by decide +kernel
theorem dX8_layBest_1 : decode cX8_layBest 1 = .ok (.invokevirtual 227, 3) := by decide +kernel
theorem dX8_layBest_4 : decode cX8_layBest 4 = .ok (.ifCond .ne 6, 3) := by decide +kernel
theorem dX8_layBest_7 : decode cX8_layBest 7 = .ok (.ldc 223, 2) := by decide +kernel
theorem dX8_layBest_9 : decode cX8_layBest 9 = .ok (.ireturn, 1) := by decide +kernel
theorem dX8_layBest_10 : decode cX8_layBest 10 = .ok (.aload_n 0, 1) := by decide +kernel
theorem dX8_layBest_11 : decode cX8_layBest 11 = .ok (.aload_n 0, 1) := by decide +kernel
theorem dX8_layBest_12 : decode cX8_layBest 12 = .ok (.getfield 25, 3) := by decide +kernel
theorem dX8_layBest_15 : decode cX8_layBest 15 = .ok (.ldc 66, 2) := by decide +kernel
theorem dX8_layBest_17 : decode cX8_layBest 17 = .ok (.invokevirtual 230, 3) := by decide +kernel
theorem dX8_layBest_20 : decode cX8_layBest 20 = .ok (.istore_n 1, 1) := by decide +kernel
theorem dX8_layBest_21 : decode cX8_layBest 21 = .ok (.iload_n 1, 1) := by decide +kernel
theorem dX8_layBest_22 : decode cX8_layBest 22 = .ok (.ldc 66, 2) := by decide +kernel
theorem dX8_layBest_24 : decode cX8_layBest 24 = .ok (.if_icmp .ne 6, 3) := by decide +kernel
theorem dX8_layBest_27 : decode cX8_layBest 27 = .ok (.ldc 66, 2) := by decide +kernel
theorem dX8_layBest_29 : decode cX8_layBest 29 = .ok (.ireturn, 1) := by decide +kernel
theorem dX8_layBest_30 : decode cX8_layBest 30 = .ok (.aload_n 0, 1) := by decide +kernel
theorem dX8_layBest_31 : decode cX8_layBest 31 = .ok (.invokevirtual 224, 3) := by decide +kernel
theorem dX8_layBest_34 : decode cX8_layBest 34 = .ok (.iconst 0, 1) := by decide +kernel
theorem dX8_layBest_35 : decode cX8_layBest 35 = .ok (.istore_n 2, 1) := by decide +kernel
theorem dX8_layBest_36 : decode cX8_layBest 36 = .ok (.iload_n 2, 1) := by decide +kernel
theorem dX8_layBest_37 : decode cX8_layBest 37 = .ok (.aload_n 0, 1) := by decide +kernel
theorem dX8_layBest_38 : decode cX8_layBest 38 = .ok (.getfield 25, 3) := by decide +kernel
theorem dX8_layBest_41 : decode cX8_layBest 41 = .ok (.iconst 0, 1) := by decide +kernel
theorem dX8_layBest_42 : decode cX8_layBest 42 = .ok (.iaload, 1) := by decide +kernel
theorem dX8_layBest_43 : decode cX8_layBest 43 = .ok (.if_icmp .ge 72, 3) := by decide +kernel
theorem dX8_layBest_46 : decode cX8_layBest 46 = .ok (.iconst 0, 1) := by decide +kernel
theorem dX8_layBest_47 : decode cX8_layBest 47 = .ok (.istore_n 3, 1) := by decide +kernel
theorem dX8_layBest_48 : decode cX8_layBest 48 = .ok (.iconst 0, 1) := by decide +kernel
theorem dX8_layBest_49 : decode cX8_layBest 49 = .ok (.istore 4, 2) := by decide +kernel
theorem dX8_layBest_51 : decode cX8_layBest 51 = .ok (.iload 4, 2) := by decide +kernel
theorem dX8_layBest_53 : decode cX8_layBest 53 = .ok (.aload_n 0, 1) := by decide +kernel
theorem dX8_layBest_54 : decode cX8_layBest 54 = .ok (.getfield 25, 3) := by decide +kernel
theorem dX8_layBest_57 : decode cX8_layBest 57 = .ok (.iconst 1, 1) := by decide +kernel
theorem dX8_layBest_58 : decode cX8_layBest 58 = .ok (.iaload, 1) := by decide +kernel
theorem dX8_layBest_59 : decode cX8_layBest 59 = .ok (.if_icmp .ge 34, 3) := by decide +kernel
theorem dX8_layBest_62 : decode cX8_layBest 62 = .ok (.iload_n 3, 1) := by decide +kernel
theorem dX8_layBest_63 : decode cX8_layBest 63 = .ok (.aload_n 0, 1) := by decide +kernel
theorem dX8_layBest_64 : decode cX8_layBest 64 = .ok (.getfield 53, 3) := by decide +kernel
theorem dX8_layBest_67 : decode cX8_layBest 67 = .ok (.iload 4, 2) := by decide +kernel
theorem dX8_layBest_69 : decode cX8_layBest 69 = .ok (.iaload, 1) := by decide +kernel
theorem dX8_layBest_70 : decode cX8_layBest 70 = .ok (.iload_n 2, 1) := by decide +kernel
theorem dX8_layBest_71 : decode cX8_layBest 71 = .ok (.invokestatic 165, 3) := by decide +kernel
theorem dX8_layBest_74 : decode cX8_layBest 74 = .ok (.ifCond .eq 10, 3) := by decide +kernel
theorem dX8_layBest_77 : decode cX8_layBest 77 = .ok (.iconst 1, 1) := by decide +kernel
theorem dX8_layBest_78 : decode cX8_layBest 78 = .ok (.iload 4, 2) := by decide +kernel
theorem dX8_layBest_80 : decode cX8_layBest 80 = .ok (.ishl, 1) := by decide +kernel
theorem dX8_layBest_81 : decode cX8_layBest 81 = .ok (.goto 4, 3) := by decide +kernel
theorem dX8_layBest_84 : decode cX8_layBest 84 = .ok (.iconst 0, 1) := by decide +kernel
theorem dX8_layBest_85 : decode cX8_layBest 85 = .ok (.ior, 1) := by decide +kernel
theorem dX8_layBest_86 : decode cX8_layBest 86 = .ok (.istore_n 3, 1) := by decide +kernel
theorem dX8_layBest_87 : decode cX8_layBest 87 = .ok (.iinc 4 1, 3) := by decide +kernel
theorem dX8_layBest_90 : decode cX8_layBest 90 = .ok (.goto (-39), 3) := by decide +kernel
theorem dX8_layBest_93 : decode cX8_layBest 93 = .ok (.aload_n 0, 1) := by decide +kernel
theorem dX8_layBest_94 : decode cX8_layBest 94 = .ok (.getfield 25, 3) := by decide +kernel
theorem dX8_layBest_97 : decode cX8_layBest 97 = .ok (.bipush 9, 2) := by decide +kernel
theorem dX8_layBest_99 : decode cX8_layBest 99 = .ok (.bipush 8, 2) := by decide +kernel
theorem dX8_layBest_101 : decode cX8_layBest 101 = .ok (.iload_n 2, 1) := by decide +kernel
theorem dX8_layBest_102 : decode cX8_layBest 102 = .ok (.imul, 1) := by decide +kernel
theorem dX8_layBest_103 : decode cX8_layBest 103 = .ok (.iadd, 1) := by decide +kernel
theorem dX8_layBest_104 : decode cX8_layBest 104 = .ok (.bipush 7, 2) := by decide +kernel
theorem dX8_layBest_106 : decode cX8_layBest 106 = .ok (.iadd, 1) := by decide +kernel
theorem dX8_layBest_107 : decode cX8_layBest 107 = .ok (.iload_n 3, 1) := by decide +kernel
theorem dX8_layBest_108 : decode cX8_layBest 108 = .ok (.iastore, 1) := by decide +kernel
theorem dX8_layBest_109 : decode cX8_layBest 109 = .ok (.iinc 2 1, 3) := by decide +kernel
theorem dX8_layBest_112 : decode cX8_layBest 112 = .ok (.goto (-76), 3) := by decide +kernel
theorem dX8_layBest_115 : decode cX8_layBest 115 = .ok (.iload_n 1, 1) := by decide +kernel
theorem dX8_layBest_116 : decode cX8_layBest 116 = .ok (.ireturn, 1) := by decide +kernel
theorem dX8_becomes_0 : decode cX8_becomes 0 = .ok (.aload_n 0, 1) := by decide +kernel
theorem dX8_becomes_1 : decode cX8_becomes 1 = .ok (.invokevirtual 224, 3) := by decide +kernel
theorem dX8_becomes_4 : decode cX8_becomes 4 = .ok (.aload_n 0, 1) := by decide +kernel
theorem dX8_becomes_5 : decode cX8_becomes 5 = .ok (.getfield 25, 3) := by decide +kernel
theorem dX8_becomes_8 : decode cX8_becomes 8 = .ok (.iload_n 1, 1) := by decide +kernel
theorem dX8_becomes_9 : decode cX8_becomes 9 = .ok (.iaload, 1) := by decide +kernel
theorem dX8_becomes_10 : decode cX8_becomes 10 = .ok (.istore_n 3, 1) := by decide +kernel
theorem dX8_becomes_11 : decode cX8_becomes 11 = .ok (.aload_n 0, 1) := by decide +kernel
theorem dX8_becomes_12 : decode cX8_becomes 12 = .ok (.getfield 25, 3) := by decide +kernel
theorem dX8_becomes_15 : decode cX8_becomes 15 = .ok (.iload_n 1, 1) := by decide +kernel
theorem dX8_becomes_16 : decode cX8_becomes 16 = .ok (.iload_n 2, 1) := by decide +kernel
theorem dX8_becomes_17 : decode cX8_becomes 17 = .ok (.iastore, 1) := by decide +kernel
theorem dX8_becomes_18 : decode cX8_becomes 18 = .ok (.iload_n 3, 1) := by decide +kernel
theorem dX8_becomes_19 : decode cX8_becomes 19 = .ok (.ireturn, 1) := by decide +kernel
theorem dX8_demand_0 : decode cX8_demand 0 = .ok (.aload_n 0, 1) := by decide +kernel
theorem dX8_demand_1 : decode cX8_demand 1 = .ok (.iload_n 1, 1) := by decide +kernel
theorem dX8_demand_2 : decode cX8_demand 2 = .ok (.invokevirtual 233, 3) := by decide +kernel
theorem dX8_demand_5 : decode cX8_demand 5 = .ok (.ifCond .eq 24, 3) := by decide +kernel
theorem dX8_demand_8 : decode cX8_demand 8 = .ok (.iload_n 2, 1) := by decide +kernel
theorem dX8_demand_9 : decode cX8_demand 9 = .ok (.iconst 0, 1) := by decide +kernel
theorem dX8_demand_10 : decode cX8_demand 10 = .ok (.bipush 60, 2) := by decide +kernel
theorem dX8_demand_12 : decode cX8_demand 12 = .ok (.invokestatic 72, 3) := by decide +kernel
theorem dX8_demand_15 : decode cX8_demand 15 = .ok (.ifCond .eq 14, 3) := by decide +kernel
theorem dX8_demand_18 : decode cX8_demand 18 = .ok (.aload_n 0, 1) := by decide +kernel
theorem dX8_demand_19 : decode cX8_demand 19 = .ok (.iconst 3, 1) := by decide +kernel
theorem dX8_demand_20 : decode cX8_demand 20 = .ok (.iload_n 1, 1) := by decide +kernel
theorem dX8_demand_21 : decode cX8_demand 21 = .ok (.iadd, 1) := by decide +kernel
theorem dX8_demand_22 : decode cX8_demand 22 = .ok (.iload_n 2, 1) := by decide +kernel
theorem dX8_demand_23 : decode cX8_demand 23 = .ok (.invokevirtual 236, 3) := by decide +kernel
theorem dX8_demand_26 : decode cX8_demand 26 = .ok (.goto 5, 3) := by decide +kernel
theorem dX8_demand_29 : decode cX8_demand 29 = .ok (.ldc 80, 2) := by decide +kernel
theorem dX8_demand_31 : decode cX8_demand 31 = .ok (.ireturn, 1) := by decide +kernel
theorem dX8_reserve_0 : decode cX8_reserve 0 = .ok (.aload_n 0, 1) := by decide +kernel
theorem dX8_reserve_1 : decode cX8_reserve 1 = .ok (.invokevirtual 227, 3) := by decide +kernel
theorem dX8_reserve_4 : decode cX8_reserve 4 = .ok (.ifCond .ne 8, 3) := by decide +kernel
theorem dX8_reserve_7 : decode cX8_reserve 7 = .ok (.ldc 223, 2) := by decide +kernel
theorem dX8_reserve_9 : decode cX8_reserve 9 = .ok (.goto 24, 3) := by decide +kernel
theorem dX8_reserve_12 : decode cX8_reserve 12 = .ok (.iload_n 1, 1) := by decide +kernel
theorem dX8_reserve_13 : decode cX8_reserve 13 = .ok (.iconst 0, 1) := by decide +kernel
theorem dX8_reserve_14 : decode cX8_reserve 14 = .ok (.bipush 20, 2) := by decide +kernel
theorem dX8_reserve_16 : decode cX8_reserve 16 = .ok (.invokestatic 72, 3) := by decide +kernel
theorem dX8_reserve_19 : decode cX8_reserve 19 = .ok (.ifCond .eq 12, 3) := by decide +kernel
theorem dX8_reserve_22 : decode cX8_reserve 22 = .ok (.aload_n 0, 1) := by decide +kernel
theorem dX8_reserve_23 : decode cX8_reserve 23 = .ok (.iconst 2, 1) := by decide +kernel
theorem dX8_reserve_24 : decode cX8_reserve 24 = .ok (.iload_n 1, 1) := by decide +kernel
theorem dX8_reserve_25 : decode cX8_reserve 25 = .ok (.invokevirtual 236, 3) := by decide +kernel
theorem dX8_reserve_28 : decode cX8_reserve 28 = .ok (.goto 5, 3) := by decide +kernel
theorem dX8_reserve_31 : decode cX8_reserve 31 = .ok (.ldc 80, 2) := by decide +kernel
theorem dX8_reserve_33 : decode cX8_reserve 33 = .ok (.ireturn, 1) := by decide +kernel
theorem dX8_price_0 : decode cX8_price 0 = .ok (.aload_n 0, 1) := by decide +kernel
theorem dX8_price_1 : decode cX8_price 1 = .ok (.iload_n 1, 1) := by decide +kernel
theorem dX8_price_2 : decode cX8_price 2 = .ok (.invokevirtual 220, 3) := by decide +kernel
theorem dX8_price_5 : decode cX8_price 5 = .ok (.ifCond .eq 30, 3) := by decide +kernel
theorem dX8_price_8 : decode cX8_price 8 = .ok (.iload_n 2, 1) := by decide +kernel
theorem dX8_price_9 : decode cX8_price 9 = .ok (.iconst 1, 1) := by decide +kernel
theorem dX8_price_10 : decode cX8_price 10 = .ok (.bipush 9, 2) := by decide +kernel
theorem dX8_price_12 : decode cX8_price 12 = .ok (.invokestatic 72, 3) := by decide +kernel
theorem dX8_price_15 : decode cX8_price 15 = .ok (.ifCond .eq 20, 3) := by decide +kernel
theorem dX8_price_18 : decode cX8_price 18 = .ok (.aload_n 0, 1) := by decide +kernel
theorem dX8_price_19 : decode cX8_price 19 = .ok (.bipush 9, 2) := by decide +kernel
theorem dX8_price_21 : decode cX8_price 21 = .ok (.bipush 8, 2) := by decide +kernel
theorem dX8_price_23 : decode cX8_price 23 = .ok (.iload_n 1, 1) := by decide +kernel
theorem dX8_price_24 : decode cX8_price 24 = .ok (.imul, 1) := by decide +kernel
theorem dX8_price_25 : decode cX8_price 25 = .ok (.iadd, 1) := by decide +kernel
theorem dX8_price_26 : decode cX8_price 26 = .ok (.iconst 3, 1) := by decide +kernel
theorem dX8_price_27 : decode cX8_price 27 = .ok (.iadd, 1) := by decide +kernel
theorem dX8_price_28 : decode cX8_price 28 = .ok (.iload_n 2, 1) := by decide +kernel
theorem dX8_price_29 : decode cX8_price 29 = .ok (.invokevirtual 236, 3) := by decide +kernel
theorem dX8_price_32 : decode cX8_price 32 = .ok (.goto 5, 3) := by decide +kernel
theorem dX8_price_35 : decode cX8_price 35 = .ok (.ldc 80, 2) := by decide +kernel
theorem dX8_price_37 : decode cX8_price 37 = .ok (.ireturn, 1) := by decide +kernel
theorem dX8_become_0 : decode cX8_become 0 = .ok (.aload_n 0, 1) := by decide +kernel
theorem dX8_become_1 : decode cX8_become 1 = .ok (.iload_n 1, 1) := by decide +kernel
theorem dX8_become_2 : decode cX8_become 2 = .ok (.invokevirtual 220, 3) := by decide +kernel
theorem dX8_become_5 : decode cX8_become 5 = .ok (.ifCond .eq 12, 3) := by decide +kernel
theorem dX8_become_8 : decode cX8_become 8 = .ok (.iload_n 2, 1) := by decide +kernel
theorem dX8_become_9 : decode cX8_become 9 = .ok (.iconst 1, 1) := by decide +kernel
theorem dX8_become_10 : decode cX8_become 10 = .ok (.iconst 5, 1) := by decide +kernel
theorem dX8_become_11 : decode cX8_become 11 = .ok (.invokestatic 72, 3) := by decide +kernel
theorem dX8_become_14 : decode cX8_become 14 = .ok (.ifCond .ne 6, 3) := by decide +kernel
theorem dX8_become_17 : decode cX8_become 17 = .ok (.ldc 80, 2) := by decide +kernel
theorem dX8_become_19 : decode cX8_become 19 = .ok (.ireturn, 1) := by decide +kernel
theorem dX8_become_20 : decode cX8_become 20 = .ok (.aload_n 0, 1) := by decide +kernel
theorem dX8_become_21 : decode cX8_become 21 = .ok (.getfield 25, 3) := by decide +kernel
theorem dX8_become_24 : decode cX8_become 24 = .ok (.bipush 9, 2) := by decide +kernel
theorem dX8_become_26 : decode cX8_become 26 = .ok (.bipush 8, 2) := by decide +kernel
theorem dX8_become_28 : decode cX8_become 28 = .ok (.iload_n 1, 1) := by decide +kernel
theorem dX8_become_29 : decode cX8_become 29 = .ok (.imul, 1) := by decide +kernel
theorem dX8_become_30 : decode cX8_become 30 = .ok (.iadd, 1) := by decide +kernel
theorem dX8_become_31 : decode cX8_become 31 = .ok (.iaload, 1) := by decide +kernel
theorem dX8_become_32 : decode cX8_become 32 = .ok (.iload_n 2, 1) := by decide +kernel
theorem dX8_become_33 : decode cX8_become 33 = .ok (.if_icmp .ne 8, 3) := by decide +kernel
theorem dX8_become_36 : decode cX8_become 36 = .ok (.ldc 223, 2) := by decide +kernel
theorem dX8_become_38 : decode cX8_become 38 = .ok (.goto 15, 3) := by decide +kernel
theorem dX8_become_41 : decode cX8_become 41 = .ok (.aload_n 0, 1) := by decide +kernel
theorem dX8_become_42 : decode cX8_become 42 = .ok (.bipush 9, 2) := by decide +kernel
theorem dX8_become_44 : decode cX8_become 44 = .ok (.bipush 8, 2) := by decide +kernel
theorem dX8_become_46 : decode cX8_become 46 = .ok (.iload_n 1, 1) := by decide +kernel
theorem dX8_become_47 : decode cX8_become 47 = .ok (.imul, 1) := by decide +kernel
theorem dX8_become_48 : decode cX8_become 48 = .ok (.iadd, 1) := by decide +kernel
theorem dX8_become_49 : decode cX8_become 49 = .ok (.iload_n 2, 1) := by decide +kernel
theorem dX8_become_50 : decode cX8_become 50 = .ok (.invokevirtual 236, 3) := by decide +kernel
theorem dX8_become_53 : decode cX8_become 53 = .ok (.ireturn, 1) := by decide +kernel
theorem dX8_undo_0 : decode cX8_undo 0 = .ok (.aload_n 0, 1) := by decide +kernel
theorem dX8_undo_1 : decode cX8_undo 1 = .ok (.getfield 158, 3) := by decide +kernel
theorem dX8_undo_4 : decode cX8_undo 4 = .ok (.ifCond .ne 6, 3) := by decide +kernel
theorem dX8_undo_7 : decode cX8_undo 7 = .ok (.ldc 223, 2) := by decide +kernel
theorem dX8_undo_9 : decode cX8_undo 9 = .ok (.ireturn, 1) := by decide +kernel
theorem dX8_undo_10 : decode cX8_undo 10 = .ok (.aload_n 0, 1) := by decide +kernel
theorem dX8_undo_11 : decode cX8_undo 11 = .ok (.dup, 1) := by decide +kernel
theorem dX8_undo_12 : decode cX8_undo 12 = .ok (.getfield 158, 3) := by decide +kernel
theorem dX8_undo_15 : decode cX8_undo 15 = .ok (.iconst 1, 1) := by decide +kernel
theorem dX8_undo_16 : decode cX8_undo 16 = .ok (.isub, 1) := by decide +kernel
theorem dX8_undo_17 : decode cX8_undo 17 = .ok (.putfield 158, 3) := by decide +kernel
theorem dX8_undo_20 : decode cX8_undo 20 = .ok (.aload_n 0, 1) := by decide +kernel
theorem dX8_undo_21 : decode cX8_undo 21 = .ok (.getfield 34, 3) := by decide +kernel
theorem dX8_undo_24 : decode cX8_undo 24 = .ok (.bipush 41, 2) := by decide +kernel
theorem dX8_undo_26 : decode cX8_undo 26 = .ok (.aload_n 0, 1) := by decide +kernel
theorem dX8_undo_27 : decode cX8_undo 27 = .ok (.getfield 158, 3) := by decide +kernel
theorem dX8_undo_30 : decode cX8_undo 30 = .ok (.imul, 1) := by decide +kernel
theorem dX8_undo_31 : decode cX8_undo 31 = .ok (.aload_n 0, 1) := by decide +kernel
theorem dX8_undo_32 : decode cX8_undo 32 = .ok (.getfield 25, 3) := by decide +kernel
theorem dX8_undo_35 : decode cX8_undo 35 = .ok (.iconst 0, 1) := by decide +kernel
theorem dX8_undo_36 : decode cX8_undo 36 = .ok (.invokestatic 154, 3) := by decide +kernel
theorem dX8_undo_39 : decode cX8_undo 39 = .ok (.aload_n 0, 1) := by decide +kernel
theorem dX8_undo_40 : decode cX8_undo 40 = .ok (.getfield 158, 3) := by decide +kernel
theorem dX8_undo_43 : decode cX8_undo 43 = .ok (.ireturn, 1) := by decide +kernel
theorem dX8_unit_0 : decode cX8_unit 0 = .ok (.aload_n 0, 1) := by decide +kernel
theorem dX8_unit_1 : decode cX8_unit 1 = .ok (.iload_n 1, 1) := by decide +kernel
theorem dX8_unit_2 : decode cX8_unit 2 = .ok (.invokevirtual 220, 3) := by decide +kernel
theorem dX8_unit_5 : decode cX8_unit 5 = .ok (.ifCond .eq 13, 3) := by decide +kernel
theorem dX8_unit_8 : decode cX8_unit 8 = .ok (.iload_n 2, 1) := by decide +kernel
theorem dX8_unit_9 : decode cX8_unit 9 = .ok (.iconst 0, 1) := by decide +kernel
theorem dX8_unit_10 : decode cX8_unit 10 = .ok (.bipush 8, 2) := by decide +kernel
theorem dX8_unit_12 : decode cX8_unit 12 = .ok (.invokestatic 72, 3) := by decide +kernel
theorem dX8_unit_15 : decode cX8_unit 15 = .ok (.ifCond .ne 6, 3) := by decide +kernel
theorem dX8_unit_18 : decode cX8_unit 18 = .ok (.ldc 80, 2) := by decide +kernel
theorem dX8_unit_20 : decode cX8_unit 20 = .ok (.ireturn, 1) := by decide +kernel
theorem dX8_unit_21 : decode cX8_unit 21 = .ok (.aload_n 0, 1) := by decide +kernel
theorem dX8_unit_22 : decode cX8_unit 22 = .ok (.getfield 25, 3) := by decide +kernel
theorem dX8_unit_25 : decode cX8_unit 25 = .ok (.bipush 9, 2) := by decide +kernel
theorem dX8_unit_27 : decode cX8_unit 27 = .ok (.bipush 8, 2) := by decide +kernel
theorem dX8_unit_29 : decode cX8_unit 29 = .ok (.iload_n 1, 1) := by decide +kernel
theorem dX8_unit_30 : decode cX8_unit 30 = .ok (.imul, 1) := by decide +kernel
theorem dX8_unit_31 : decode cX8_unit 31 = .ok (.iadd, 1) := by decide +kernel
theorem dX8_unit_32 : decode cX8_unit 32 = .ok (.bipush 7, 2) := by decide +kernel
theorem dX8_unit_34 : decode cX8_unit 34 = .ok (.iadd, 1) := by decide +kernel
theorem dX8_unit_35 : decode cX8_unit 35 = .ok (.iaload, 1) := by decide +kernel
theorem dX8_unit_36 : decode cX8_unit 36 = .ok (.istore_n 3, 1) := by decide +kernel
theorem dX8_unit_37 : decode cX8_unit 37 = .ok (.iload_n 2, 1) := by decide +kernel
theorem dX8_unit_38 : decode cX8_unit 38 = .ok (.bipush 7, 2) := by decide +kernel
theorem dX8_unit_40 : decode cX8_unit 40 = .ok (.if_icmp .ge 22, 3) := by decide +kernel
theorem dX8_unit_43 : decode cX8_unit 43 = .ok (.aload_n 0, 1) := by decide +kernel
theorem dX8_unit_44 : decode cX8_unit 44 = .ok (.getfield 25, 3) := by decide +kernel
theorem dX8_unit_47 : decode cX8_unit 47 = .ok (.bipush 9, 2) := by decide +kernel
theorem dX8_unit_49 : decode cX8_unit 49 = .ok (.bipush 8, 2) := by decide +kernel
theorem dX8_unit_51 : decode cX8_unit 51 = .ok (.iload_n 1, 1) := by decide +kernel
theorem dX8_unit_52 : decode cX8_unit 52 = .ok (.imul, 1) := by decide +kernel
theorem dX8_unit_53 : decode cX8_unit 53 = .ok (.iadd, 1) := by decide +kernel
theorem dX8_unit_54 : decode cX8_unit 54 = .ok (.iconst 1, 1) := by decide +kernel
theorem dX8_unit_55 : decode cX8_unit 55 = .ok (.iadd, 1) := by decide +kernel
theorem dX8_unit_56 : decode cX8_unit 56 = .ok (.iload_n 2, 1) := by decide +kernel
theorem dX8_unit_57 : decode cX8_unit 57 = .ok (.iadd, 1) := by decide +kernel
theorem dX8_unit_58 : decode cX8_unit 58 = .ok (.iaload, 1) := by decide +kernel
theorem dX8_unit_59 : decode cX8_unit 59 = .ok (.goto 37, 3) := by decide +kernel
theorem dX8_unit_62 : decode cX8_unit 62 = .ok (.iload_n 2, 1) := by decide +kernel
theorem dX8_unit_63 : decode cX8_unit 63 = .ok (.bipush 7, 2) := by decide +kernel
theorem dX8_unit_65 : decode cX8_unit 65 = .ok (.if_icmp .ne 14, 3) := by decide +kernel
theorem dX8_unit_68 : decode cX8_unit 68 = .ok (.aload_n 0, 1) := by decide +kernel
theorem dX8_unit_69 : decode cX8_unit 69 = .ok (.getfield 25, 3) := by decide +kernel
theorem dX8_unit_72 : decode cX8_unit 72 = .ok (.iload_n 3, 1) := by decide +kernel
theorem dX8_unit_73 : decode cX8_unit 73 = .ok (.invokestatic 239, 3) := by decide +kernel
theorem dX8_unit_76 : decode cX8_unit 76 = .ok (.goto 20, 3) := by decide +kernel
theorem dX8_unit_79 : decode cX8_unit 79 = .ok (.aload_n 0, 1) := by decide +kernel
theorem dX8_unit_80 : decode cX8_unit 80 = .ok (.getfield 25, 3) := by decide +kernel
theorem dX8_unit_83 : decode cX8_unit 83 = .ok (.iload_n 1, 1) := by decide +kernel
theorem dX8_unit_84 : decode cX8_unit 84 = .ok (.iload_n 3, 1) := by decide +kernel
theorem dX8_unit_85 : decode cX8_unit 85 = .ok (.invokestatic 242, 3) := by decide +kernel
theorem dX8_unit_88 : decode cX8_unit 88 = .ok (.ifCond .eq 7, 3) := by decide +kernel
theorem dX8_unit_91 : decode cX8_unit 91 = .ok (.iconst 1, 1) := by decide +kernel
theorem dX8_unit_92 : decode cX8_unit 92 = .ok (.goto 4, 3) := by decide +kernel
theorem dX8_unit_95 : decode cX8_unit 95 = .ok (.iconst 0, 1) := by decide +kernel
theorem dX8_unit_96 : decode cX8_unit 96 = .ok (.ireturn, 1) := by decide +kernel
theorem dX8_hour_0 : decode cX8_hour 0 = .ok (.aload_n 0, 1) := by decide +kernel
theorem dX8_hour_1 : decode cX8_hour 1 = .ok (.iload_n 1, 1) := by decide +kernel
theorem dX8_hour_2 : decode cX8_hour 2 = .ok (.invokevirtual 233, 3) := by decide +kernel
theorem dX8_hour_5 : decode cX8_hour 5 = .ok (.ifCond .ne 6, 3) := by decide +kernel
theorem dX8_hour_8 : decode cX8_hour 8 = .ok (.ldc 80, 2) := by decide +kernel
theorem dX8_hour_10 : decode cX8_hour 10 = .ok (.ireturn, 1) := by decide +kernel
theorem dX8_hour_11 : decode cX8_hour 11 = .ok (.aload_n 0, 1) := by decide +kernel
theorem dX8_hour_12 : decode cX8_hour 12 = .ok (.getfield 25, 3) := by decide +kernel
theorem dX8_hour_15 : decode cX8_hour 15 = .ok (.iload_n 1, 1) := by decide +kernel
theorem dX8_hour_16 : decode cX8_hour 16 = .ok (.invokestatic 246, 3) := by decide +kernel
theorem dX8_hour_19 : decode cX8_hour 19 = .ok (.istore_n 3, 1) := by decide +kernel
theorem dX8_hour_20 : decode cX8_hour 20 = .ok (.aload_n 0, 1) := by decide +kernel
theorem dX8_hour_21 : decode cX8_hour 21 = .ok (.getfield 25, 3) := by decide +kernel
theorem dX8_hour_24 : decode cX8_hour 24 = .ok (.iload_n 1, 1) := by decide +kernel
theorem dX8_hour_25 : decode cX8_hour 25 = .ok (.invokestatic 249, 3) := by decide +kernel
theorem dX8_hour_28 : decode cX8_hour 28 = .ok (.istore 4, 2) := by decide +kernel
theorem dX8_hour_30 : decode cX8_hour 30 = .ok (.iload_n 2, 1) := by decide +kernel
theorem dX8_hour_31 : decode cX8_hour 31 = .ok (.tableswitch 78 0 4 #[33, 42, 44, 44, 58], 33) := by decide +kernel
theorem dX8_hour_64 : decode cX8_hour 64 = .ok (.aload_n 0, 1) := by decide +kernel
theorem dX8_hour_65 : decode cX8_hour 65 = .ok (.getfield 25, 3) := by decide +kernel
theorem dX8_hour_68 : decode cX8_hour 68 = .ok (.iconst 3, 1) := by decide +kernel
theorem dX8_hour_69 : decode cX8_hour 69 = .ok (.iload_n 1, 1) := by decide +kernel
theorem dX8_hour_70 : decode cX8_hour 70 = .ok (.iadd, 1) := by decide +kernel
theorem dX8_hour_71 : decode cX8_hour 71 = .ok (.iaload, 1) := by decide +kernel
theorem dX8_hour_72 : decode cX8_hour 72 = .ok (.ireturn, 1) := by decide +kernel
theorem dX8_hour_73 : decode cX8_hour 73 = .ok (.iload_n 3, 1) := by decide +kernel
theorem dX8_hour_74 : decode cX8_hour 74 = .ok (.ireturn, 1) := by decide +kernel
theorem dX8_hour_75 : decode cX8_hour 75 = .ok (.aload_n 0, 1) := by decide +kernel
theorem dX8_hour_76 : decode cX8_hour 76 = .ok (.getfield 25, 3) := by decide +kernel
theorem dX8_hour_79 : decode cX8_hour 79 = .ok (.iload_n 3, 1) := by decide +kernel
theorem dX8_hour_80 : decode cX8_hour 80 = .ok (.iload 4, 2) := by decide +kernel
theorem dX8_hour_82 : decode cX8_hour 82 = .ok (.iload_n 2, 1) := by decide +kernel
theorem dX8_hour_83 : decode cX8_hour 83 = .ok (.iconst 2, 1) := by decide +kernel
theorem dX8_hour_84 : decode cX8_hour 84 = .ok (.isub, 1) := by decide +kernel
theorem dX8_hour_85 : decode cX8_hour 85 = .ok (.invokestatic 179, 3) := by decide +kernel
theorem dX8_hour_88 : decode cX8_hour 88 = .ok (.ireturn, 1) := by decide +kernel
theorem dX8_hour_89 : decode cX8_hour 89 = .ok (.aload_n 0, 1) := by decide +kernel
theorem dX8_hour_90 : decode cX8_hour 90 = .ok (.getfield 25, 3) := by decide +kernel
theorem dX8_hour_93 : decode cX8_hour 93 = .ok (.iload_n 1, 1) := by decide +kernel
theorem dX8_hour_94 : decode cX8_hour 94 = .ok (.iload_n 3, 1) := by decide +kernel
theorem dX8_hour_95 : decode cX8_hour 95 = .ok (.iload 4, 2) := by decide +kernel
theorem dX8_hour_97 : decode cX8_hour 97 = .ok (.invokestatic 186, 3) := by decide +kernel
theorem dX8_hour_100 : decode cX8_hour 100 = .ok (.ifCond .eq 7, 3) := by decide +kernel
theorem dX8_hour_103 : decode cX8_hour 103 = .ok (.iconst 1, 1) := by decide +kernel
theorem dX8_hour_104 : decode cX8_hour 104 = .ok (.goto 4, 3) := by decide +kernel
theorem dX8_hour_107 : decode cX8_hour 107 = .ok (.iconst 0, 1) := by decide +kernel
theorem dX8_hour_108 : decode cX8_hour 108 = .ok (.ireturn, 1) := by decide +kernel
theorem dX8_hour_109 : decode cX8_hour 109 = .ok (.ldc 80, 2) := by decide +kernel
theorem dX8_hour_111 : decode cX8_hour 111 = .ok (.ireturn, 1) := by decide +kernel
theorem dX8_gives_0 : decode cX8_gives 0 = .ok (.aload_n 0, 1) := by decide +kernel
theorem dX8_gives_1 : decode cX8_gives 1 = .ok (.iload_n 1, 1) := by decide +kernel
theorem dX8_gives_2 : decode cX8_gives 2 = .ok (.invokevirtual 220, 3) := by decide +kernel
theorem dX8_gives_5 : decode cX8_gives 5 = .ok (.ifCond .eq 11, 3) := by decide +kernel
theorem dX8_gives_8 : decode cX8_gives 8 = .ok (.aload_n 0, 1) := by decide +kernel
theorem dX8_gives_9 : decode cX8_gives 9 = .ok (.iload_n 2, 1) := by decide +kernel
theorem dX8_gives_10 : decode cX8_gives 10 = .ok (.invokevirtual 233, 3) := by decide +kernel
theorem dX8_gives_13 : decode cX8_gives 13 = .ok (.ifCond .ne 6, 3) := by decide +kernel
theorem dX8_gives_16 : decode cX8_gives 16 = .ok (.ldc 80, 2) := by decide +kernel
theorem dX8_gives_18 : decode cX8_gives 18 = .ok (.ireturn, 1) := by decide +kernel
theorem dX8_gives_19 : decode cX8_gives 19 = .ok (.aload_n 0, 1) := by decide +kernel
theorem dX8_gives_20 : decode cX8_gives 20 = .ok (.getfield 25, 3) := by decide +kernel
theorem dX8_gives_23 : decode cX8_gives 23 = .ok (.iload_n 2, 1) := by decide +kernel
theorem dX8_gives_24 : decode cX8_gives 24 = .ok (.invokestatic 246, 3) := by decide +kernel
theorem dX8_gives_27 : decode cX8_gives 27 = .ok (.istore_n 3, 1) := by decide +kernel
theorem dX8_gives_28 : decode cX8_gives 28 = .ok (.aload_n 0, 1) := by decide +kernel
theorem dX8_gives_29 : decode cX8_gives 29 = .ok (.getfield 25, 3) := by decide +kernel
theorem dX8_gives_32 : decode cX8_gives 32 = .ok (.iload_n 2, 1) := by decide +kernel
theorem dX8_gives_33 : decode cX8_gives 33 = .ok (.invokestatic 249, 3) := by decide +kernel
theorem dX8_gives_36 : decode cX8_gives 36 = .ok (.istore 4, 2) := by decide +kernel
theorem dX8_gives_38 : decode cX8_gives 38 = .ok (.aload_n 0, 1) := by decide +kernel
theorem dX8_gives_39 : decode cX8_gives 39 = .ok (.getfield 25, 3) := by decide +kernel
theorem dX8_gives_42 : decode cX8_gives 42 = .ok (.iload_n 2, 1) := by decide +kernel
theorem dX8_gives_43 : decode cX8_gives 43 = .ok (.iload_n 3, 1) := by decide +kernel
theorem dX8_gives_44 : decode cX8_gives 44 = .ok (.iload 4, 2) := by decide +kernel
theorem dX8_gives_46 : decode cX8_gives 46 = .ok (.invokestatic 186, 3) := by decide +kernel
theorem dX8_gives_49 : decode cX8_gives 49 = .ok (.ifCond .ne 6, 3) := by decide +kernel
theorem dX8_gives_52 : decode cX8_gives 52 = .ok (.ldc 66, 2) := by decide +kernel
theorem dX8_gives_54 : decode cX8_gives 54 = .ok (.ireturn, 1) := by decide +kernel
theorem dX8_gives_55 : decode cX8_gives 55 = .ok (.aload_n 0, 1) := by decide +kernel
theorem dX8_gives_56 : decode cX8_gives 56 = .ok (.aload_n 0, 1) := by decide +kernel
theorem dX8_gives_57 : decode cX8_gives 57 = .ok (.getfield 25, 3) := by decide +kernel
theorem dX8_gives_60 : decode cX8_gives 60 = .ok (.iload_n 2, 1) := by decide +kernel
theorem dX8_gives_61 : decode cX8_gives 61 = .ok (.iload_n 3, 1) := by decide +kernel
theorem dX8_gives_62 : decode cX8_gives 62 = .ok (.iload 4, 2) := by decide +kernel
theorem dX8_gives_64 : decode cX8_gives 64 = .ok (.invokevirtual 190, 3) := by decide +kernel
theorem dX8_gives_67 : decode cX8_gives 67 = .ok (.pop, 1) := by decide +kernel
theorem dX8_gives_68 : decode cX8_gives 68 = .ok (.aload_n 0, 1) := by decide +kernel
theorem dX8_gives_69 : decode cX8_gives 69 = .ok (.getfield 44, 3) := by decide +kernel
theorem dX8_gives_72 : decode cX8_gives 72 = .ok (.iload_n 1, 1) := by decide +kernel
theorem dX8_gives_73 : decode cX8_gives 73 = .ok (.iaload, 1) := by decide +kernel
theorem dX8_gives_74 : decode cX8_gives 74 = .ok (.ireturn, 1) := by decide +kernel
theorem dX8_planCost_0 : decode cX8_planCost 0 = .ok (.iconst 0, 1) := by decide +kernel
theorem dX8_planCost_1 : decode cX8_planCost 1 = .ok (.istore_n 1, 1) := by decide +kernel
theorem dX8_planCost_2 : decode cX8_planCost 2 = .ok (.iconst 0, 1) := by decide +kernel
theorem dX8_planCost_3 : decode cX8_planCost 3 = .ok (.istore_n 2, 1) := by decide +kernel
theorem dX8_planCost_4 : decode cX8_planCost 4 = .ok (.iload_n 2, 1) := by decide +kernel
theorem dX8_planCost_5 : decode cX8_planCost 5 = .ok (.aload_n 0, 1) := by decide +kernel
theorem dX8_planCost_6 : decode cX8_planCost 6 = .ok (.getfield 25, 3) := by decide +kernel
theorem dX8_planCost_9 : decode cX8_planCost 9 = .ok (.iconst 1, 1) := by decide +kernel
theorem dX8_planCost_10 : decode cX8_planCost 10 = .ok (.iaload, 1) := by decide +kernel
theorem dX8_planCost_11 : decode cX8_planCost 11 = .ok (.if_icmp .ge 60, 3) := by decide +kernel
theorem dX8_planCost_14 : decode cX8_planCost 14 = .ok (.aload_n 0, 1) := by decide +kernel
theorem dX8_planCost_15 : decode cX8_planCost 15 = .ok (.getfield 25, 3) := by decide +kernel
theorem dX8_planCost_18 : decode cX8_planCost 18 = .ok (.iload_n 2, 1) := by decide +kernel
theorem dX8_planCost_19 : decode cX8_planCost 19 = .ok (.invokestatic 246, 3) := by decide +kernel
theorem dX8_planCost_22 : decode cX8_planCost 22 = .ok (.istore_n 3, 1) := by decide +kernel
theorem dX8_planCost_23 : decode cX8_planCost 23 = .ok (.aload_n 0, 1) := by decide +kernel
theorem dX8_planCost_24 : decode cX8_planCost 24 = .ok (.getfield 25, 3) := by decide +kernel
theorem dX8_planCost_27 : decode cX8_planCost 27 = .ok (.iload_n 2, 1) := by decide +kernel
theorem dX8_planCost_28 : decode cX8_planCost 28 = .ok (.invokestatic 249, 3) := by decide +kernel
theorem dX8_planCost_31 : decode cX8_planCost 31 = .ok (.istore 4, 2) := by decide +kernel
theorem dX8_planCost_33 : decode cX8_planCost 33 = .ok (.aload_n 0, 1) := by decide +kernel
theorem dX8_planCost_34 : decode cX8_planCost 34 = .ok (.getfield 25, 3) := by decide +kernel
theorem dX8_planCost_37 : decode cX8_planCost 37 = .ok (.iload_n 2, 1) := by decide +kernel
theorem dX8_planCost_38 : decode cX8_planCost 38 = .ok (.iload_n 3, 1) := by decide +kernel
theorem dX8_planCost_39 : decode cX8_planCost 39 = .ok (.iload 4, 2) := by decide +kernel
theorem dX8_planCost_41 : decode cX8_planCost 41 = .ok (.invokestatic 186, 3) := by decide +kernel
theorem dX8_planCost_44 : decode cX8_planCost 44 = .ok (.ifCond .ne 6, 3) := by decide +kernel
theorem dX8_planCost_47 : decode cX8_planCost 47 = .ok (.ldc 66, 2) := by decide +kernel
theorem dX8_planCost_49 : decode cX8_planCost 49 = .ok (.ireturn, 1) := by decide +kernel
theorem dX8_planCost_50 : decode cX8_planCost 50 = .ok (.iload_n 1, 1) := by decide +kernel
theorem dX8_planCost_51 : decode cX8_planCost 51 = .ok (.aload_n 0, 1) := by decide +kernel
theorem dX8_planCost_52 : decode cX8_planCost 52 = .ok (.aload_n 0, 1) := by decide +kernel
theorem dX8_planCost_53 : decode cX8_planCost 53 = .ok (.getfield 25, 3) := by decide +kernel
theorem dX8_planCost_56 : decode cX8_planCost 56 = .ok (.iload_n 2, 1) := by decide +kernel
theorem dX8_planCost_57 : decode cX8_planCost 57 = .ok (.iload_n 3, 1) := by decide +kernel
theorem dX8_planCost_58 : decode cX8_planCost 58 = .ok (.iload 4, 2) := by decide +kernel
theorem dX8_planCost_60 : decode cX8_planCost 60 = .ok (.invokevirtual 190, 3) := by decide +kernel
theorem dX8_planCost_63 : decode cX8_planCost 63 = .ok (.iadd, 1) := by decide +kernel
theorem dX8_planCost_64 : decode cX8_planCost 64 = .ok (.istore_n 1, 1) := by decide +kernel
theorem dX8_planCost_65 : decode cX8_planCost 65 = .ok (.iinc 2 1, 3) := by decide +kernel
theorem dX8_planCost_68 : decode cX8_planCost 68 = .ok (.goto (-64), 3) := by decide +kernel
theorem dX8_planCost_71 : decode cX8_planCost 71 = .ok (.iconst 0, 1) := by decide +kernel
theorem dX8_planCost_72 : decode cX8_planCost 72 = .ok (.istore_n 2, 1) := by decide +kernel
theorem dX8_planCost_73 : decode cX8_planCost 73 = .ok (.iload_n 2, 1) := by decide +kernel
theorem dX8_planCost_74 : decode cX8_planCost 74 = .ok (.aload_n 0, 1) := by decide +kernel
theorem dX8_planCost_75 : decode cX8_planCost 75 = .ok (.getfield 25, 3) := by decide +kernel
theorem dX8_planCost_78 : decode cX8_planCost 78 = .ok (.iconst 0, 1) := by decide +kernel
theorem dX8_planCost_79 : decode cX8_planCost 79 = .ok (.iaload, 1) := by decide +kernel
theorem dX8_planCost_80 : decode cX8_planCost 80 = .ok (.if_icmp .ge 38, 3) := by decide +kernel
theorem dX8_planCost_83 : decode cX8_planCost 83 = .ok (.aload_n 0, 1) := by decide +kernel
theorem dX8_planCost_84 : decode cX8_planCost 84 = .ok (.getfield 25, 3) := by decide +kernel
theorem dX8_planCost_87 : decode cX8_planCost 87 = .ok (.iload_n 2, 1) := by decide +kernel
theorem dX8_planCost_88 : decode cX8_planCost 88 = .ok (.aload_n 0, 1) := by decide +kernel
theorem dX8_planCost_89 : decode cX8_planCost 89 = .ok (.getfield 25, 3) := by decide +kernel
theorem dX8_planCost_92 : decode cX8_planCost 92 = .ok (.bipush 9, 2) := by decide +kernel
theorem dX8_planCost_94 : decode cX8_planCost 94 = .ok (.bipush 8, 2) := by decide +kernel
theorem dX8_planCost_96 : decode cX8_planCost 96 = .ok (.iload_n 2, 1) := by decide +kernel
theorem dX8_planCost_97 : decode cX8_planCost 97 = .ok (.imul, 1) := by decide +kernel
theorem dX8_planCost_98 : decode cX8_planCost 98 = .ok (.iadd, 1) := by decide +kernel
theorem dX8_planCost_99 : decode cX8_planCost 99 = .ok (.bipush 7, 2) := by decide +kernel
theorem dX8_planCost_101 : decode cX8_planCost 101 = .ok (.iadd, 1) := by decide +kernel
theorem dX8_planCost_102 : decode cX8_planCost 102 = .ok (.iaload, 1) := by decide +kernel
theorem dX8_planCost_103 : decode cX8_planCost 103 = .ok (.invokestatic 242, 3) := by decide +kernel
theorem dX8_planCost_106 : decode cX8_planCost 106 = .ok (.ifCond .ne 6, 3) := by decide +kernel
theorem dX8_planCost_109 : decode cX8_planCost 109 = .ok (.ldc 66, 2) := by decide +kernel
theorem dX8_planCost_111 : decode cX8_planCost 111 = .ok (.ireturn, 1) := by decide +kernel
theorem dX8_planCost_112 : decode cX8_planCost 112 = .ok (.iinc 2 1, 3) := by decide +kernel
theorem dX8_planCost_115 : decode cX8_planCost 115 = .ok (.goto (-42), 3) := by decide +kernel
theorem dX8_planCost_118 : decode cX8_planCost 118 = .ok (.iload_n 1, 1) := by decide +kernel
theorem dX8_planCost_119 : decode cX8_planCost 119 = .ok (.ireturn, 1) := by decide +kernel
theorem dX8_plan_0 : decode cX8_plan 0 = .ok (.aload_n 0, 1) := by decide +kernel
theorem dX8_plan_1 : decode cX8_plan 1 = .ok (.invokevirtual 227, 3) := by decide +kernel
theorem dX8_plan_4 : decode cX8_plan 4 = .ok (.ifCond .ne 6, 3) := by decide +kernel
theorem dX8_plan_7 : decode cX8_plan 7 = .ok (.ldc 223, 2) := by decide +kernel
theorem dX8_plan_9 : decode cX8_plan 9 = .ok (.ireturn, 1) := by decide +kernel
theorem dX8_plan_10 : decode cX8_plan 10 = .ok (.iconst 0, 1) := by decide +kernel
theorem dX8_plan_11 : decode cX8_plan 11 = .ok (.istore_n 2, 1) := by decide +kernel
theorem dX8_plan_12 : decode cX8_plan 12 = .ok (.iload_n 1, 1) := by decide +kernel
theorem dX8_plan_13 : decode cX8_plan 13 = .ok (.tableswitch 208 0 4 #[35, 40, 97, 153, 201], 35) := by decide +kernel
theorem dX8_plan_48 : decode cX8_plan 48 = .ok (.aload_n 0, 1) := by decide +kernel
theorem dX8_plan_49 : decode cX8_plan 49 = .ok (.invokevirtual 252, 3) := by decide +kernel
theorem dX8_plan_52 : decode cX8_plan 52 = .ok (.ireturn, 1) := by decide +kernel
theorem dX8_plan_53 : decode cX8_plan 53 = .ok (.iconst 0, 1) := by decide +kernel
theorem dX8_plan_54 : decode cX8_plan 54 = .ok (.istore_n 3, 1) := by decide +kernel
theorem dX8_plan_55 : decode cX8_plan 55 = .ok (.iload_n 3, 1) := by decide +kernel
theorem dX8_plan_56 : decode cX8_plan 56 = .ok (.aload_n 0, 1) := by decide +kernel
theorem dX8_plan_57 : decode cX8_plan 57 = .ok (.getfield 25, 3) := by decide +kernel
theorem dX8_plan_60 : decode cX8_plan 60 = .ok (.iconst 1, 1) := by decide +kernel
theorem dX8_plan_61 : decode cX8_plan 61 = .ok (.iaload, 1) := by decide +kernel
theorem dX8_plan_62 : decode cX8_plan 62 = .ok (.if_icmp .ge 46, 3) := by decide +kernel
theorem dX8_plan_65 : decode cX8_plan 65 = .ok (.iload_n 2, 1) := by decide +kernel
theorem dX8_plan_66 : decode cX8_plan 66 = .ok (.aload_n 0, 1) := by decide +kernel
theorem dX8_plan_67 : decode cX8_plan 67 = .ok (.getfield 25, 3) := by decide +kernel
theorem dX8_plan_70 : decode cX8_plan 70 = .ok (.iload_n 3, 1) := by decide +kernel
theorem dX8_plan_71 : decode cX8_plan 71 = .ok (.aload_n 0, 1) := by decide +kernel
theorem dX8_plan_72 : decode cX8_plan 72 = .ok (.getfield 25, 3) := by decide +kernel
theorem dX8_plan_75 : decode cX8_plan 75 = .ok (.iload_n 3, 1) := by decide +kernel
theorem dX8_plan_76 : decode cX8_plan 76 = .ok (.invokestatic 246, 3) := by decide +kernel
theorem dX8_plan_79 : decode cX8_plan 79 = .ok (.aload_n 0, 1) := by decide +kernel
theorem dX8_plan_80 : decode cX8_plan 80 = .ok (.getfield 25, 3) := by decide +kernel
theorem dX8_plan_83 : decode cX8_plan 83 = .ok (.iload_n 3, 1) := by decide +kernel
theorem dX8_plan_84 : decode cX8_plan 84 = .ok (.invokestatic 249, 3) := by decide +kernel
theorem dX8_plan_87 : decode cX8_plan 87 = .ok (.invokestatic 186, 3) := by decide +kernel
theorem dX8_plan_90 : decode cX8_plan 90 = .ok (.ifCond .eq 7, 3) := by decide +kernel
theorem dX8_plan_93 : decode cX8_plan 93 = .ok (.iconst 0, 1) := by decide +kernel
theorem dX8_plan_94 : decode cX8_plan 94 = .ok (.goto 6, 3) := by decide +kernel
theorem dX8_plan_97 : decode cX8_plan 97 = .ok (.iconst 1, 1) := by decide +kernel
theorem dX8_plan_98 : decode cX8_plan 98 = .ok (.iload_n 3, 1) := by decide +kernel
theorem dX8_plan_99 : decode cX8_plan 99 = .ok (.ishl, 1) := by decide +kernel
theorem dX8_plan_100 : decode cX8_plan 100 = .ok (.ior, 1) := by decide +kernel
theorem dX8_plan_101 : decode cX8_plan 101 = .ok (.istore_n 2, 1) := by decide +kernel
theorem dX8_plan_102 : decode cX8_plan 102 = .ok (.iinc 3 1, 3) := by decide +kernel
theorem dX8_plan_105 : decode cX8_plan 105 = .ok (.goto (-50), 3) := by decide +kernel
theorem dX8_plan_108 : decode cX8_plan 108 = .ok (.iload_n 2, 1) := by decide +kernel
theorem dX8_plan_109 : decode cX8_plan 109 = .ok (.ireturn, 1) := by decide +kernel
theorem dX8_plan_110 : decode cX8_plan 110 = .ok (.iconst 0, 1) := by decide +kernel
theorem dX8_plan_111 : decode cX8_plan 111 = .ok (.istore_n 3, 1) := by decide +kernel
theorem dX8_plan_112 : decode cX8_plan 112 = .ok (.iload_n 3, 1) := by decide +kernel
theorem dX8_plan_113 : decode cX8_plan 113 = .ok (.aload_n 0, 1) := by decide +kernel
theorem dX8_plan_114 : decode cX8_plan 114 = .ok (.getfield 25, 3) := by decide +kernel
theorem dX8_plan_117 : decode cX8_plan 117 = .ok (.iconst 0, 1) := by decide +kernel
theorem dX8_plan_118 : decode cX8_plan 118 = .ok (.iaload, 1) := by decide +kernel
theorem dX8_plan_119 : decode cX8_plan 119 = .ok (.if_icmp .ge 45, 3) := by decide +kernel
theorem dX8_plan_122 : decode cX8_plan 122 = .ok (.iload_n 2, 1) := by decide +kernel
theorem dX8_plan_123 : decode cX8_plan 123 = .ok (.aload_n 0, 1) := by decide +kernel
theorem dX8_plan_124 : decode cX8_plan 124 = .ok (.getfield 25, 3) := by decide +kernel
theorem dX8_plan_127 : decode cX8_plan 127 = .ok (.iload_n 3, 1) := by decide +kernel
theorem dX8_plan_128 : decode cX8_plan 128 = .ok (.aload_n 0, 1) := by decide +kernel
theorem dX8_plan_129 : decode cX8_plan 129 = .ok (.getfield 25, 3) := by decide +kernel
theorem dX8_plan_132 : decode cX8_plan 132 = .ok (.bipush 9, 2) := by decide +kernel
theorem dX8_plan_134 : decode cX8_plan 134 = .ok (.bipush 8, 2) := by decide +kernel
theorem dX8_plan_136 : decode cX8_plan 136 = .ok (.iload_n 3, 1) := by decide +kernel
theorem dX8_plan_137 : decode cX8_plan 137 = .ok (.imul, 1) := by decide +kernel
theorem dX8_plan_138 : decode cX8_plan 138 = .ok (.iadd, 1) := by decide +kernel
theorem dX8_plan_139 : decode cX8_plan 139 = .ok (.bipush 7, 2) := by decide +kernel
theorem dX8_plan_141 : decode cX8_plan 141 = .ok (.iadd, 1) := by decide +kernel
theorem dX8_plan_142 : decode cX8_plan 142 = .ok (.iaload, 1) := by decide +kernel
theorem dX8_plan_143 : decode cX8_plan 143 = .ok (.invokestatic 242, 3) := by decide +kernel
theorem dX8_plan_146 : decode cX8_plan 146 = .ok (.ifCond .eq 7, 3) := by decide +kernel
theorem dX8_plan_149 : decode cX8_plan 149 = .ok (.iconst 0, 1) := by decide +kernel
theorem dX8_plan_150 : decode cX8_plan 150 = .ok (.goto 6, 3) := by decide +kernel
theorem dX8_plan_153 : decode cX8_plan 153 = .ok (.iconst 1, 1) := by decide +kernel
theorem dX8_plan_154 : decode cX8_plan 154 = .ok (.iload_n 3, 1) := by decide +kernel
theorem dX8_plan_155 : decode cX8_plan 155 = .ok (.ishl, 1) := by decide +kernel
theorem dX8_plan_156 : decode cX8_plan 156 = .ok (.ior, 1) := by decide +kernel
theorem dX8_plan_157 : decode cX8_plan 157 = .ok (.istore_n 2, 1) := by decide +kernel
theorem dX8_plan_158 : decode cX8_plan 158 = .ok (.iinc 3 1, 3) := by decide +kernel
theorem dX8_plan_161 : decode cX8_plan 161 = .ok (.goto (-49), 3) := by decide +kernel
theorem dX8_plan_164 : decode cX8_plan 164 = .ok (.iload_n 2, 1) := by decide +kernel
theorem dX8_plan_165 : decode cX8_plan 165 = .ok (.ireturn, 1) := by decide +kernel
theorem dX8_plan_166 : decode cX8_plan 166 = .ok (.iconst 0, 1) := by decide +kernel
theorem dX8_plan_167 : decode cX8_plan 167 = .ok (.istore_n 3, 1) := by decide +kernel
theorem dX8_plan_168 : decode cX8_plan 168 = .ok (.iload_n 3, 1) := by decide +kernel
theorem dX8_plan_169 : decode cX8_plan 169 = .ok (.aload_n 0, 1) := by decide +kernel
theorem dX8_plan_170 : decode cX8_plan 170 = .ok (.getfield 25, 3) := by decide +kernel
theorem dX8_plan_173 : decode cX8_plan 173 = .ok (.iconst 0, 1) := by decide +kernel
theorem dX8_plan_174 : decode cX8_plan 174 = .ok (.iaload, 1) := by decide +kernel
theorem dX8_plan_175 : decode cX8_plan 175 = .ok (.if_icmp .ge 37, 3) := by decide +kernel
theorem dX8_plan_178 : decode cX8_plan 178 = .ok (.iload_n 2, 1) := by decide +kernel
theorem dX8_plan_179 : decode cX8_plan 179 = .ok (.aload_n 0, 1) := by decide +kernel
theorem dX8_plan_180 : decode cX8_plan 180 = .ok (.getfield 25, 3) := by decide +kernel
theorem dX8_plan_183 : decode cX8_plan 183 = .ok (.aload_n 0, 1) := by decide +kernel
theorem dX8_plan_184 : decode cX8_plan 184 = .ok (.getfield 25, 3) := by decide +kernel
theorem dX8_plan_187 : decode cX8_plan 187 = .ok (.bipush 9, 2) := by decide +kernel
theorem dX8_plan_189 : decode cX8_plan 189 = .ok (.bipush 8, 2) := by decide +kernel
theorem dX8_plan_191 : decode cX8_plan 191 = .ok (.iload_n 3, 1) := by decide +kernel
theorem dX8_plan_192 : decode cX8_plan 192 = .ok (.imul, 1) := by decide +kernel
theorem dX8_plan_193 : decode cX8_plan 193 = .ok (.iadd, 1) := by decide +kernel
theorem dX8_plan_194 : decode cX8_plan 194 = .ok (.bipush 7, 2) := by decide +kernel
theorem dX8_plan_196 : decode cX8_plan 196 = .ok (.iadd, 1) := by decide +kernel
theorem dX8_plan_197 : decode cX8_plan 197 = .ok (.iaload, 1) := by decide +kernel
theorem dX8_plan_198 : decode cX8_plan 198 = .ok (.invokestatic 239, 3) := by decide +kernel
theorem dX8_plan_201 : decode cX8_plan 201 = .ok (.invokestatic 256, 3) := by decide +kernel
theorem dX8_plan_204 : decode cX8_plan 204 = .ok (.iadd, 1) := by decide +kernel
theorem dX8_plan_205 : decode cX8_plan 205 = .ok (.istore_n 2, 1) := by decide +kernel
theorem dX8_plan_206 : decode cX8_plan 206 = .ok (.iinc 3 1, 3) := by decide +kernel
theorem dX8_plan_209 : decode cX8_plan 209 = .ok (.goto (-41), 3) := by decide +kernel
theorem dX8_plan_212 : decode cX8_plan 212 = .ok (.iload_n 2, 1) := by decide +kernel
theorem dX8_plan_213 : decode cX8_plan 213 = .ok (.ireturn, 1) := by decide +kernel
theorem dX8_plan_214 : decode cX8_plan 214 = .ok (.aload_n 0, 1) := by decide +kernel
theorem dX8_plan_215 : decode cX8_plan 215 = .ok (.getfield 25, 3) := by decide +kernel
theorem dX8_plan_218 : decode cX8_plan 218 = .ok (.iconst 2, 1) := by decide +kernel
theorem dX8_plan_219 : decode cX8_plan 219 = .ok (.iaload, 1) := by decide +kernel
theorem dX8_plan_220 : decode cX8_plan 220 = .ok (.ireturn, 1) := by decide +kernel
theorem dX8_plan_221 : decode cX8_plan 221 = .ok (.ldc 80, 2) := by decide +kernel
theorem dX8_plan_223 : decode cX8_plan 223 = .ok (.ireturn, 1) := by decide +kernel
theorem dX8_best_0 : decode cX8_best 0 = .ok (.aload_n 0, 1) := by decide +kernel
theorem dX8_best_1 : decode cX8_best 1 = .ok (.invokevirtual 227, 3) := by decide +kernel
theorem dX8_best_4 : decode cX8_best 4 = .ok (.ifCond .ne 6, 3) := by decide +kernel
theorem dX8_best_7 : decode cX8_best 7 = .ok (.ldc 223, 2) := by decide +kernel
