theorem dX8_row_75 : decode cX8_row 75 = .ok (.goto (-23), 3) := by decide +kernel
theorem dX8_row_78 : decode cX8_row 78 = .ok (.aload_n 0, 1) := by decide +kernel
theorem dX8_row_79 : decode cX8_row 79 = .ok (.iload_n 3, 1) := by decide +kernel
theorem dX8_row_80 : decode cX8_row 80 = .ok (.invokevirtual 85, 3) := by decide +kernel
theorem dX8_row_83 : decode cX8_row 83 = .ok (.ireturn, 1) := by decide +kernel
theorem dX8_set_0 : decode cX8_set 0 = .ok (.iload_n 1, 1) := by decide +kernel
theorem dX8_set_1 : decode cX8_set 1 = .ok (.invokestatic 76, 3) := by decide +kernel
theorem dX8_set_4 : decode cX8_set 4 = .ok (.ifCond .ne 6, 3) := by decide +kernel
theorem dX8_set_7 : decode cX8_set 7 = .ok (.ldc 80, 2) := by decide +kernel
theorem dX8_set_9 : decode cX8_set 9 = .ok (.ireturn, 1) := by decide +kernel
theorem dX8_set_10 : decode cX8_set 10 = .ok (.aload_n 0, 1) := by decide +kernel
theorem dX8_set_11 : decode cX8_set 11 = .ok (.iload_n 1, 1) := by decide +kernel
theorem dX8_set_12 : decode cX8_set 12 = .ok (.invokevirtual 88, 3) := by decide +kernel
theorem dX8_set_15 : decode cX8_set 15 = .ok (.ifCond .eq 9, 3) := by decide +kernel
theorem dX8_set_18 : decode cX8_set 18 = .ok (.aload_n 0, 1) := by decide +kernel
theorem dX8_set_19 : decode cX8_set 19 = .ok (.iconst 1, 1) := by decide +kernel
theorem dX8_set_20 : decode cX8_set 20 = .ok (.invokevirtual 81, 3) := by decide +kernel
theorem dX8_set_23 : decode cX8_set 23 = .ok (.ireturn, 1) := by decide +kernel
theorem dX8_set_24 : decode cX8_set 24 = .ok (.iload_n 2, 1) := by decide +kernel
theorem dX8_set_25 : decode cX8_set 25 = .ok (.iconst 0, 1) := by decide +kernel
theorem dX8_set_26 : decode cX8_set 26 = .ok (.aload_n 0, 1) := by decide +kernel
theorem dX8_set_27 : decode cX8_set 27 = .ok (.getfield 13, 3) := by decide +kernel
theorem dX8_set_30 : decode cX8_set 30 = .ok (.iload_n 1, 1) := by decide +kernel
theorem dX8_set_31 : decode cX8_set 31 = .ok (.iaload, 1) := by decide +kernel
theorem dX8_set_32 : decode cX8_set 32 = .ok (.iconst 1, 1) := by decide +kernel
theorem dX8_set_33 : decode cX8_set 33 = .ok (.isub, 1) := by decide +kernel
theorem dX8_set_34 : decode cX8_set 34 = .ok (.invokestatic 72, 3) := by decide +kernel
theorem dX8_set_37 : decode cX8_set 37 = .ok (.ifCond .ne 9, 3) := by decide +kernel
theorem dX8_set_40 : decode cX8_set 40 = .ok (.aload_n 0, 1) := by decide +kernel
theorem dX8_set_41 : decode cX8_set 41 = .ok (.iconst 2, 1) := by decide +kernel
theorem dX8_set_42 : decode cX8_set 42 = .ok (.invokevirtual 81, 3) := by decide +kernel
theorem dX8_set_45 : decode cX8_set 45 = .ok (.ireturn, 1) := by decide +kernel
theorem dX8_set_46 : decode cX8_set 46 = .ok (.aload_n 0, 1) := by decide +kernel
theorem dX8_set_47 : decode cX8_set 47 = .ok (.getfield 16, 3) := by decide +kernel
theorem dX8_set_50 : decode cX8_set 50 = .ok (.bipush 40, 2) := by decide +kernel
theorem dX8_set_52 : decode cX8_set 52 = .ok (.iload_n 1, 1) := by decide +kernel
theorem dX8_set_53 : decode cX8_set 53 = .ok (.imul, 1) := by decide +kernel
theorem dX8_set_54 : decode cX8_set 54 = .ok (.iload_n 2, 1) := by decide +kernel
theorem dX8_set_55 : decode cX8_set 55 = .ok (.iadd, 1) := by decide +kernel
theorem dX8_set_56 : decode cX8_set 56 = .ok (.aload_n 0, 1) := by decide +kernel
theorem dX8_set_57 : decode cX8_set 57 = .ok (.getfield 7, 3) := by decide +kernel
theorem dX8_set_60 : decode cX8_set 60 = .ok (.iload_n 1, 1) := by decide +kernel
theorem dX8_set_61 : decode cX8_set 61 = .ok (.iaload, 1) := by decide +kernel
theorem dX8_set_62 : decode cX8_set 62 = .ok (.iload_n 3, 1) := by decide +kernel
theorem dX8_set_63 : decode cX8_set 63 = .ok (.invokestatic 91, 3) := by decide +kernel
theorem dX8_set_66 : decode cX8_set 66 = .ok (.iastore, 1) := by decide +kernel
theorem dX8_set_67 : decode cX8_set 67 = .ok (.aload_n 0, 1) := by decide +kernel
theorem dX8_set_68 : decode cX8_set 68 = .ok (.aload_n 0, 1) := by decide +kernel
theorem dX8_set_69 : decode cX8_set 69 = .ok (.getfield 16, 3) := by decide +kernel
theorem dX8_set_72 : decode cX8_set 72 = .ok (.bipush 40, 2) := by decide +kernel
theorem dX8_set_74 : decode cX8_set 74 = .ok (.iload_n 1, 1) := by decide +kernel
theorem dX8_set_75 : decode cX8_set 75 = .ok (.imul, 1) := by decide +kernel
theorem dX8_set_76 : decode cX8_set 76 = .ok (.iload_n 2, 1) := by decide +kernel
theorem dX8_set_77 : decode cX8_set 77 = .ok (.iadd, 1) := by decide +kernel
theorem dX8_set_78 : decode cX8_set 78 = .ok (.iaload, 1) := by decide +kernel
theorem dX8_set_79 : decode cX8_set 79 = .ok (.invokevirtual 85, 3) := by decide +kernel
theorem dX8_set_82 : decode cX8_set 82 = .ok (.ireturn, 1) := by decide +kernel
theorem dX8_isPart_0 : decode cX8_isPart 0 = .ok (.iload_n 2, 1) := by decide +kernel
theorem dX8_isPart_1 : decode cX8_isPart 1 = .ok (.ifCond .lt 33, 3) := by decide +kernel
theorem dX8_isPart_4 : decode cX8_isPart 4 = .ok (.iload_n 3, 1) := by decide +kernel
theorem dX8_isPart_5 : decode cX8_isPart 5 = .ok (.ifCond .lt 29, 3) := by decide +kernel
theorem dX8_isPart_8 : decode cX8_isPart 8 = .ok (.iload_n 2, 1) := by decide +kernel
theorem dX8_isPart_9 : decode cX8_isPart 9 = .ok (.aload_n 0, 1) := by decide +kernel
theorem dX8_isPart_10 : decode cX8_isPart 10 = .ok (.getfield 13, 3) := by decide +kernel
theorem dX8_isPart_13 : decode cX8_isPart 13 = .ok (.iload_n 1, 1) := by decide +kernel
theorem dX8_isPart_14 : decode cX8_isPart 14 = .ok (.iaload, 1) := by decide +kernel
theorem dX8_isPart_15 : decode cX8_isPart 15 = .ok (.if_icmp .gt 19, 3) := by decide +kernel
theorem dX8_isPart_18 : decode cX8_isPart 18 = .ok (.iload_n 3, 1) := by decide +kernel
theorem dX8_isPart_19 : decode cX8_isPart 19 = .ok (.aload_n 0, 1) := by decide +kernel
theorem dX8_isPart_20 : decode cX8_isPart 20 = .ok (.getfield 13, 3) := by decide +kernel
theorem dX8_isPart_23 : decode cX8_isPart 23 = .ok (.iload_n 1, 1) := by decide +kernel
theorem dX8_isPart_24 : decode cX8_isPart 24 = .ok (.iaload, 1) := by decide +kernel
theorem dX8_isPart_25 : decode cX8_isPart 25 = .ok (.iload_n 2, 1) := by decide +kernel
theorem dX8_isPart_26 : decode cX8_isPart 26 = .ok (.isub, 1) := by decide +kernel
theorem dX8_isPart_27 : decode cX8_isPart 27 = .ok (.if_icmp .gt 7, 3) := by decide +kernel
theorem dX8_isPart_30 : decode cX8_isPart 30 = .ok (.iconst 1, 1) := by decide +kernel
theorem dX8_isPart_31 : decode cX8_isPart 31 = .ok (.goto 4, 3) := by decide +kernel
theorem dX8_isPart_34 : decode cX8_isPart 34 = .ok (.iconst 0, 1) := by decide +kernel
theorem dX8_isPart_35 : decode cX8_isPart 35 = .ok (.ireturn, 1) := by decide +kernel
theorem dX8_copy_0 : decode cX8_copy 0 = .ok (.iload_n 1, 1) := by decide +kernel
theorem dX8_copy_1 : decode cX8_copy 1 = .ok (.invokestatic 76, 3) := by decide +kernel
theorem dX8_copy_4 : decode cX8_copy 4 = .ok (.ifCond .eq 10, 3) := by decide +kernel
theorem dX8_copy_7 : decode cX8_copy 7 = .ok (.iload_n 3, 1) := by decide +kernel
theorem dX8_copy_8 : decode cX8_copy 8 = .ok (.invokestatic 76, 3) := by decide +kernel
theorem dX8_copy_11 : decode cX8_copy 11 = .ok (.ifCond .ne 6, 3) := by decide +kernel
theorem dX8_copy_14 : decode cX8_copy 14 = .ok (.ldc 80, 2) := by decide +kernel
theorem dX8_copy_16 : decode cX8_copy 16 = .ok (.ireturn, 1) := by decide +kernel
theorem dX8_copy_17 : decode cX8_copy 17 = .ok (.aload_n 0, 1) := by decide +kernel
theorem dX8_copy_18 : decode cX8_copy 18 = .ok (.iload_n 1, 1) := by decide +kernel
theorem dX8_copy_19 : decode cX8_copy 19 = .ok (.invokevirtual 88, 3) := by decide +kernel
theorem dX8_copy_22 : decode cX8_copy 22 = .ok (.ifCond .ne 11, 3) := by decide +kernel
theorem dX8_copy_25 : decode cX8_copy 25 = .ok (.aload_n 0, 1) := by decide +kernel
theorem dX8_copy_26 : decode cX8_copy 26 = .ok (.iload_n 3, 1) := by decide +kernel
theorem dX8_copy_27 : decode cX8_copy 27 = .ok (.invokevirtual 88, 3) := by decide +kernel
theorem dX8_copy_30 : decode cX8_copy 30 = .ok (.ifCond .eq 9, 3) := by decide +kernel
theorem dX8_copy_33 : decode cX8_copy 33 = .ok (.aload_n 0, 1) := by decide +kernel
theorem dX8_copy_34 : decode cX8_copy 34 = .ok (.iconst 1, 1) := by decide +kernel
theorem dX8_copy_35 : decode cX8_copy 35 = .ok (.invokevirtual 81, 3) := by decide +kernel
theorem dX8_copy_38 : decode cX8_copy 38 = .ok (.ireturn, 1) := by decide +kernel
theorem dX8_copy_39 : decode cX8_copy 39 = .ok (.aload_n 0, 1) := by decide +kernel
theorem dX8_copy_40 : decode cX8_copy 40 = .ok (.getfield 7, 3) := by decide +kernel
theorem dX8_copy_43 : decode cX8_copy 43 = .ok (.iload_n 1, 1) := by decide +kernel
theorem dX8_copy_44 : decode cX8_copy 44 = .ok (.iaload, 1) := by decide +kernel
theorem dX8_copy_45 : decode cX8_copy 45 = .ok (.aload_n 0, 1) := by decide +kernel
theorem dX8_copy_46 : decode cX8_copy 46 = .ok (.getfield 7, 3) := by decide +kernel
theorem dX8_copy_49 : decode cX8_copy 49 = .ok (.iload_n 3, 1) := by decide +kernel
theorem dX8_copy_50 : decode cX8_copy 50 = .ok (.iaload, 1) := by decide +kernel
theorem dX8_copy_51 : decode cX8_copy 51 = .ok (.if_icmp .eq 9, 3) := by decide +kernel
theorem dX8_copy_54 : decode cX8_copy 54 = .ok (.aload_n 0, 1) := by decide +kernel
theorem dX8_copy_55 : decode cX8_copy 55 = .ok (.iconst 5, 1) := by decide +kernel
theorem dX8_copy_56 : decode cX8_copy 56 = .ok (.invokevirtual 81, 3) := by decide +kernel
theorem dX8_copy_59 : decode cX8_copy 59 = .ok (.ireturn, 1) := by decide +kernel
theorem dX8_copy_60 : decode cX8_copy 60 = .ok (.aload_n 0, 1) := by decide +kernel
theorem dX8_copy_61 : decode cX8_copy 61 = .ok (.iload_n 1, 1) := by decide +kernel
theorem dX8_copy_62 : decode cX8_copy 62 = .ok (.iload_n 2, 1) := by decide +kernel
theorem dX8_copy_63 : decode cX8_copy 63 = .ok (.iload 5, 2) := by decide +kernel
theorem dX8_copy_65 : decode cX8_copy 65 = .ok (.invokevirtual 95, 3) := by decide +kernel
theorem dX8_copy_68 : decode cX8_copy 68 = .ok (.ifCond .eq 15, 3) := by decide +kernel
theorem dX8_copy_71 : decode cX8_copy 71 = .ok (.aload_n 0, 1) := by decide +kernel
theorem dX8_copy_72 : decode cX8_copy 72 = .ok (.iload_n 3, 1) := by decide +kernel
theorem dX8_copy_73 : decode cX8_copy 73 = .ok (.iload 4, 2) := by decide +kernel
theorem dX8_copy_75 : decode cX8_copy 75 = .ok (.iload 5, 2) := by decide +kernel
theorem dX8_copy_77 : decode cX8_copy 77 = .ok (.invokevirtual 95, 3) := by decide +kernel
theorem dX8_copy_80 : decode cX8_copy 80 = .ok (.ifCond .ne 9, 3) := by decide +kernel
theorem dX8_copy_83 : decode cX8_copy 83 = .ok (.aload_n 0, 1) := by decide +kernel
theorem dX8_copy_84 : decode cX8_copy 84 = .ok (.iconst 2, 1) := by decide +kernel
theorem dX8_copy_85 : decode cX8_copy 85 = .ok (.invokevirtual 81, 3) := by decide +kernel
theorem dX8_copy_88 : decode cX8_copy 88 = .ok (.ireturn, 1) := by decide +kernel
theorem dX8_copy_89 : decode cX8_copy 89 = .ok (.iconst 0, 1) := by decide +kernel
theorem dX8_copy_90 : decode cX8_copy 90 = .ok (.istore 6, 2) := by decide +kernel
theorem dX8_copy_92 : decode cX8_copy 92 = .ok (.iload 6, 2) := by decide +kernel
theorem dX8_copy_94 : decode cX8_copy 94 = .ok (.iload 5, 2) := by decide +kernel
theorem dX8_copy_96 : decode cX8_copy 96 = .ok (.if_icmp .ge 30, 3) := by decide +kernel
theorem dX8_copy_99 : decode cX8_copy 99 = .ok (.aload_n 0, 1) := by decide +kernel
theorem dX8_copy_100 : decode cX8_copy 100 = .ok (.getfield 19, 3) := by decide +kernel
theorem dX8_copy_103 : decode cX8_copy 103 = .ok (.iload 6, 2) := by decide +kernel
theorem dX8_copy_105 : decode cX8_copy 105 = .ok (.aload_n 0, 1) := by decide +kernel
theorem dX8_copy_106 : decode cX8_copy 106 = .ok (.getfield 16, 3) := by decide +kernel
theorem dX8_copy_109 : decode cX8_copy 109 = .ok (.bipush 40, 2) := by decide +kernel
theorem dX8_copy_111 : decode cX8_copy 111 = .ok (.iload_n 1, 1) := by decide +kernel
theorem dX8_copy_112 : decode cX8_copy 112 = .ok (.imul, 1) := by decide +kernel
theorem dX8_copy_113 : decode cX8_copy 113 = .ok (.iload_n 2, 1) := by decide +kernel
theorem dX8_copy_114 : decode cX8_copy 114 = .ok (.iadd, 1) := by decide +kernel
theorem dX8_copy_115 : decode cX8_copy 115 = .ok (.iload 6, 2) := by decide +kernel
theorem dX8_copy_117 : decode cX8_copy 117 = .ok (.iadd, 1) := by decide +kernel
theorem dX8_copy_118 : decode cX8_copy 118 = .ok (.iaload, 1) := by decide +kernel
theorem dX8_copy_119 : decode cX8_copy 119 = .ok (.iastore, 1) := by decide +kernel
theorem dX8_copy_120 : decode cX8_copy 120 = .ok (.iinc 6 1, 3) := by decide +kernel
theorem dX8_copy_123 : decode cX8_copy 123 = .ok (.goto (-31), 3) := by decide +kernel
theorem dX8_copy_126 : decode cX8_copy 126 = .ok (.iconst 0, 1) := by decide +kernel
theorem dX8_copy_127 : decode cX8_copy 127 = .ok (.istore 6, 2) := by decide +kernel
theorem dX8_copy_129 : decode cX8_copy 129 = .ok (.iload 6, 2) := by decide +kernel
theorem dX8_copy_131 : decode cX8_copy 131 = .ok (.iload 5, 2) := by decide +kernel
theorem dX8_copy_133 : decode cX8_copy 133 = .ok (.if_icmp .ge 31, 3) := by decide +kernel
theorem dX8_copy_136 : decode cX8_copy 136 = .ok (.aload_n 0, 1) := by decide +kernel
theorem dX8_copy_137 : decode cX8_copy 137 = .ok (.getfield 16, 3) := by decide +kernel
theorem dX8_copy_140 : decode cX8_copy 140 = .ok (.bipush 40, 2) := by decide +kernel
theorem dX8_copy_142 : decode cX8_copy 142 = .ok (.iload_n 3, 1) := by decide +kernel
theorem dX8_copy_143 : decode cX8_copy 143 = .ok (.imul, 1) := by decide +kernel
theorem dX8_copy_144 : decode cX8_copy 144 = .ok (.iload 4, 2) := by decide +kernel
theorem dX8_copy_146 : decode cX8_copy 146 = .ok (.iadd, 1) := by decide +kernel
theorem dX8_copy_147 : decode cX8_copy 147 = .ok (.iload 6, 2) := by decide +kernel
theorem dX8_copy_149 : decode cX8_copy 149 = .ok (.iadd, 1) := by decide +kernel
theorem dX8_copy_150 : decode cX8_copy 150 = .ok (.aload_n 0, 1) := by decide +kernel
theorem dX8_copy_151 : decode cX8_copy 151 = .ok (.getfield 19, 3) := by decide +kernel
theorem dX8_copy_154 : decode cX8_copy 154 = .ok (.iload 6, 2) := by decide +kernel
theorem dX8_copy_156 : decode cX8_copy 156 = .ok (.iaload, 1) := by decide +kernel
theorem dX8_copy_157 : decode cX8_copy 157 = .ok (.iastore, 1) := by decide +kernel
theorem dX8_copy_158 : decode cX8_copy 158 = .ok (.iinc 6 1, 3) := by decide +kernel
theorem dX8_copy_161 : decode cX8_copy 161 = .ok (.goto (-32), 3) := by decide +kernel
theorem dX8_copy_164 : decode cX8_copy 164 = .ok (.aload_n 0, 1) := by decide +kernel
theorem dX8_copy_165 : decode cX8_copy 165 = .ok (.iload 5, 2) := by decide +kernel
theorem dX8_copy_167 : decode cX8_copy 167 = .ok (.invokevirtual 85, 3) := by decide +kernel
theorem dX8_copy_170 : decode cX8_copy 170 = .ok (.ireturn, 1) := by decide +kernel
theorem dX8_drop_0 : decode cX8_drop 0 = .ok (.iload_n 1, 1) := by decide +kernel
theorem dX8_drop_1 : decode cX8_drop 1 = .ok (.invokestatic 76, 3) := by decide +kernel
theorem dX8_drop_4 : decode cX8_drop 4 = .ok (.ifCond .ne 6, 3) := by decide +kernel
theorem dX8_drop_7 : decode cX8_drop 7 = .ok (.ldc 80, 2) := by decide +kernel
theorem dX8_drop_9 : decode cX8_drop 9 = .ok (.ireturn, 1) := by decide +kernel
theorem dX8_drop_10 : decode cX8_drop 10 = .ok (.aload_n 0, 1) := by decide +kernel
theorem dX8_drop_11 : decode cX8_drop 11 = .ok (.iload_n 1, 1) := by decide +kernel
theorem dX8_drop_12 : decode cX8_drop 12 = .ok (.invokevirtual 88, 3) := by decide +kernel
theorem dX8_drop_15 : decode cX8_drop 15 = .ok (.ifCond .eq 9, 3) := by decide +kernel
theorem dX8_drop_18 : decode cX8_drop 18 = .ok (.aload_n 0, 1) := by decide +kernel
theorem dX8_drop_19 : decode cX8_drop 19 = .ok (.iconst 1, 1) := by decide +kernel
theorem dX8_drop_20 : decode cX8_drop 20 = .ok (.invokevirtual 81, 3) := by decide +kernel
theorem dX8_drop_23 : decode cX8_drop 23 = .ok (.ireturn, 1) := by decide +kernel
theorem dX8_drop_24 : decode cX8_drop 24 = .ok (.aload_n 0, 1) := by decide +kernel
theorem dX8_drop_25 : decode cX8_drop 25 = .ok (.getfield 7, 3) := by decide +kernel
theorem dX8_drop_28 : decode cX8_drop 28 = .ok (.iload_n 1, 1) := by decide +kernel
theorem dX8_drop_29 : decode cX8_drop 29 = .ok (.ldc 66, 2) := by decide +kernel
theorem dX8_drop_31 : decode cX8_drop 31 = .ok (.iastore, 1) := by decide +kernel
theorem dX8_drop_32 : decode cX8_drop 32 = .ok (.aload_n 0, 1) := by decide +kernel
theorem dX8_drop_33 : decode cX8_drop 33 = .ok (.aload_n 0, 1) := by decide +kernel
theorem dX8_drop_34 : decode cX8_drop 34 = .ok (.getfield 13, 3) := by decide +kernel
theorem dX8_drop_37 : decode cX8_drop 37 = .ok (.iload_n 1, 1) := by decide +kernel
theorem dX8_drop_38 : decode cX8_drop 38 = .ok (.iaload, 1) := by decide +kernel
theorem dX8_drop_39 : decode cX8_drop 39 = .ok (.invokevirtual 85, 3) := by decide +kernel
theorem dX8_drop_42 : decode cX8_drop 42 = .ok (.ireturn, 1) := by decide +kernel
theorem dX8_feed_0 : decode cX8_feed 0 = .ok (.iload_n 1, 1) := by decide +kernel
theorem dX8_feed_1 : decode cX8_feed 1 = .ok (.iconst 0, 1) := by decide +kernel
theorem dX8_feed_2 : decode cX8_feed 2 = .ok (.sipush 255, 3) := by decide +kernel
theorem dX8_feed_5 : decode cX8_feed 5 = .ok (.invokestatic 72, 3) := by decide +kernel
theorem dX8_feed_8 : decode cX8_feed 8 = .ok (.ifCond .ne 6, 3) := by decide +kernel
theorem dX8_feed_11 : decode cX8_feed 11 = .ok (.ldc 80, 2) := by decide +kernel
theorem dX8_feed_13 : decode cX8_feed 13 = .ok (.ireturn, 1) := by decide +kernel
theorem dX8_feed_14 : decode cX8_feed 14 = .ok (.aload_n 0, 1) := by decide +kernel
theorem dX8_feed_15 : decode cX8_feed 15 = .ok (.getfield 98, 3) := by decide +kernel
theorem dX8_feed_18 : decode cX8_feed 18 = .ok (.bipush 120, 2) := by decide +kernel
theorem dX8_feed_20 : decode cX8_feed 20 = .ok (.if_icmp .ne 6, 3) := by decide +kernel
theorem dX8_feed_23 : decode cX8_feed 23 = .ok (.ldc 101, 2) := by decide +kernel
theorem dX8_feed_25 : decode cX8_feed 25 = .ok (.ireturn, 1) := by decide +kernel
theorem dX8_feed_26 : decode cX8_feed 26 = .ok (.aload_n 0, 1) := by decide +kernel
theorem dX8_feed_27 : decode cX8_feed 27 = .ok (.getfield 22, 3) := by decide +kernel
theorem dX8_feed_30 : decode cX8_feed 30 = .ok (.aload_n 0, 1) := by decide +kernel
theorem dX8_feed_31 : decode cX8_feed 31 = .ok (.getfield 98, 3) := by decide +kernel
theorem dX8_feed_34 : decode cX8_feed 34 = .ok (.iload_n 1, 1) := by decide +kernel
theorem dX8_feed_35 : decode cX8_feed 35 = .ok (.iastore, 1) := by decide +kernel
theorem dX8_feed_36 : decode cX8_feed 36 = .ok (.aload_n 0, 1) := by decide +kernel
theorem dX8_feed_37 : decode cX8_feed 37 = .ok (.dup, 1) := by decide +kernel
theorem dX8_feed_38 : decode cX8_feed 38 = .ok (.getfield 98, 3) := by decide +kernel
theorem dX8_feed_41 : decode cX8_feed 41 = .ok (.iconst 1, 1) := by decide +kernel
theorem dX8_feed_42 : decode cX8_feed 42 = .ok (.iadd, 1) := by decide +kernel
theorem dX8_feed_43 : decode cX8_feed 43 = .ok (.putfield 98, 3) := by decide +kernel
theorem dX8_feed_46 : decode cX8_feed 46 = .ok (.aload_n 0, 1) := by decide +kernel
theorem dX8_feed_47 : decode cX8_feed 47 = .ok (.getfield 98, 3) := by decide +kernel
theorem dX8_feed_50 : decode cX8_feed 50 = .ok (.ireturn, 1) := by decide +kernel
theorem dX8_byteAt_0 : decode cX8_byteAt 0 = .ok (.iload_n 1, 1) := by decide +kernel
theorem dX8_byteAt_1 : decode cX8_byteAt 1 = .ok (.aload_n 0, 1) := by decide +kernel
theorem dX8_byteAt_2 : decode cX8_byteAt 2 = .ok (.getfield 98, 3) := by decide +kernel
theorem dX8_byteAt_5 : decode cX8_byteAt 5 = .ok (.if_icmp .ge 12, 3) := by decide +kernel
theorem dX8_byteAt_8 : decode cX8_byteAt 8 = .ok (.aload_n 0, 1) := by decide +kernel
theorem dX8_byteAt_9 : decode cX8_byteAt 9 = .ok (.getfield 22, 3) := by decide +kernel
theorem dX8_byteAt_12 : decode cX8_byteAt 12 = .ok (.iload_n 1, 1) := by decide +kernel
theorem dX8_byteAt_13 : decode cX8_byteAt 13 = .ok (.iaload, 1) := by decide +kernel
theorem dX8_byteAt_14 : decode cX8_byteAt 14 = .ok (.goto 4, 3) := by decide +kernel
theorem dX8_byteAt_17 : decode cX8_byteAt 17 = .ok (.iconst (-1), 1) := by decide +kernel
theorem dX8_byteAt_18 : decode cX8_byteAt 18 = .ok (.ireturn, 1) := by decide +kernel
theorem dX8_advances_0 : decode cX8_advances 0 = .ok (.aload_n 0, 1) := by decide +kernel
theorem dX8_advances_1 : decode cX8_advances 1 = .ok (.aload_n 0, 1) := by decide +kernel
theorem dX8_advances_2 : decode cX8_advances 2 = .ok (.getfield 102, 3) := by decide +kernel
theorem dX8_advances_5 : decode cX8_advances 5 = .ok (.putfield 105, 3) := by decide +kernel
theorem dX8_advances_8 : decode cX8_advances 8 = .ok (.aload_n 0, 1) := by decide +kernel
theorem dX8_advances_9 : decode cX8_advances 9 = .ok (.aload_n 0, 1) := by decide +kernel
theorem dX8_advances_10 : decode cX8_advances 10 = .ok (.getfield 102, 3) := by decide +kernel
theorem dX8_advances_13 : decode cX8_advances 13 = .ok (.invokevirtual 108, 3) := by decide +kernel
theorem dX8_advances_16 : decode cX8_advances 16 = .ok (.istore_n 1, 1) := by decide +kernel
theorem dX8_advances_17 : decode cX8_advances 17 = .ok (.aload_n 0, 1) := by decide +kernel
theorem dX8_advances_18 : decode cX8_advances 18 = .ok (.iload_n 1, 1) := by decide +kernel
theorem dX8_advances_19 : decode cX8_advances 19 = .ok (.putfield 111, 3) := by decide +kernel
theorem dX8_advances_22 : decode cX8_advances 22 = .ok (.iload_n 1, 1) := by decide +kernel
theorem dX8_advances_23 : decode cX8_advances 23 = .ok (.bipush 48, 2) := by decide +kernel
theorem dX8_advances_25 : decode cX8_advances 25 = .ok (.bipush 57, 2) := by decide +kernel
theorem dX8_advances_27 : decode cX8_advances 27 = .ok (.invokestatic 72, 3) := by decide +kernel
theorem dX8_advances_30 : decode cX8_advances 30 = .ok (.ifCond .eq 105, 3) := by decide +kernel
theorem dX8_advances_33 : decode cX8_advances 33 = .ok (.aload_n 0, 1) := by decide +kernel
theorem dX8_advances_34 : decode cX8_advances 34 = .ok (.iconst 0, 1) := by decide +kernel
theorem dX8_advances_35 : decode cX8_advances 35 = .ok (.putfield 111, 3) := by decide +kernel
theorem dX8_advances_38 : decode cX8_advances 38 = .ok (.aload_n 0, 1) := by decide +kernel
theorem dX8_advances_39 : decode cX8_advances 39 = .ok (.aload_n 0, 1) := by decide +kernel
theorem dX8_advances_40 : decode cX8_advances 40 = .ok (.getfield 102, 3) := by decide +kernel
theorem dX8_advances_43 : decode cX8_advances 43 = .ok (.invokevirtual 108, 3) := by decide +kernel
theorem dX8_advances_46 : decode cX8_advances 46 = .ok (.bipush 48, 2) := by decide +kernel
theorem dX8_advances_48 : decode cX8_advances 48 = .ok (.bipush 57, 2) := by decide +kernel
theorem dX8_advances_50 : decode cX8_advances 50 = .ok (.invokestatic 72, 3) := by decide +kernel
theorem dX8_advances_53 : decode cX8_advances 53 = .ok (.ifCond .eq 59, 3) := by decide +kernel
theorem dX8_advances_56 : decode cX8_advances 56 = .ok (.aload_n 0, 1) := by decide +kernel
theorem dX8_advances_57 : decode cX8_advances 57 = .ok (.aload_n 0, 1) := by decide +kernel
theorem dX8_advances_58 : decode cX8_advances 58 = .ok (.getfield 102, 3) := by decide +kernel
theorem dX8_advances_61 : decode cX8_advances 61 = .ok (.aload_n 0, 1) := by decide +kernel
theorem dX8_advances_62 : decode cX8_advances 62 = .ok (.getfield 105, 3) := by decide +kernel
theorem dX8_advances_65 : decode cX8_advances 65 = .ok (.isub, 1) := by decide +kernel
theorem dX8_advances_66 : decode cX8_advances 66 = .ok (.iconst 2, 1) := by decide +kernel
theorem dX8_advances_67 : decode cX8_advances 67 = .ok (.if_icmp .ge 25, 3) := by decide +kernel
theorem dX8_advances_70 : decode cX8_advances 70 = .ok (.bipush 10, 2) := by decide +kernel
theorem dX8_advances_72 : decode cX8_advances 72 = .ok (.aload_n 0, 1) := by decide +kernel
theorem dX8_advances_73 : decode cX8_advances 73 = .ok (.getfield 111, 3) := by decide +kernel
theorem dX8_advances_76 : decode cX8_advances 76 = .ok (.imul, 1) := by decide +kernel
theorem dX8_advances_77 : decode cX8_advances 77 = .ok (.aload_n 0, 1) := by decide +kernel
theorem dX8_advances_78 : decode cX8_advances 78 = .ok (.aload_n 0, 1) := by decide +kernel
theorem dX8_advances_79 : decode cX8_advances 79 = .ok (.getfield 102, 3) := by decide +kernel
theorem dX8_advances_82 : decode cX8_advances 82 = .ok (.invokevirtual 108, 3) := by decide +kernel
theorem dX8_advances_85 : decode cX8_advances 85 = .ok (.iadd, 1) := by decide +kernel
theorem dX8_advances_86 : decode cX8_advances 86 = .ok (.bipush 48, 2) := by decide +kernel
theorem dX8_advances_88 : decode cX8_advances 88 = .ok (.isub, 1) := by decide +kernel
theorem dX8_advances_89 : decode cX8_advances 89 = .ok (.goto 7, 3) := by decide +kernel
theorem dX8_advances_92 : decode cX8_advances 92 = .ok (.aload_n 0, 1) := by decide +kernel
theorem dX8_advances_93 : decode cX8_advances 93 = .ok (.getfield 111, 3) := by decide +kernel
theorem dX8_advances_96 : decode cX8_advances 96 = .ok (.putfield 111, 3) := by decide +kernel
theorem dX8_advances_99 : decode cX8_advances 99 = .ok (.aload_n 0, 1) := by decide +kernel
theorem dX8_advances_100 : decode cX8_advances 100 = .ok (.dup, 1) := by decide +kernel
theorem dX8_advances_101 : decode cX8_advances 101 = .ok (.getfield 102, 3) := by decide +kernel
theorem dX8_advances_104 : decode cX8_advances 104 = .ok (.iconst 1, 1) := by decide +kernel
theorem dX8_advances_105 : decode cX8_advances 105 = .ok (.iadd, 1) := by decide +kernel
theorem dX8_advances_106 : decode cX8_advances 106 = .ok (.putfield 102, 3) := by decide +kernel
theorem dX8_advances_109 : decode cX8_advances 109 = .ok (.goto (-71), 3) := by decide +kernel
theorem dX8_advances_112 : decode cX8_advances 112 = .ok (.aload_n 0, 1) := by decide +kernel
theorem dX8_advances_113 : decode cX8_advances 113 = .ok (.aload_n 0, 1) := by decide +kernel
theorem dX8_advances_114 : decode cX8_advances 114 = .ok (.getfield 102, 3) := by decide +kernel
theorem dX8_advances_117 : decode cX8_advances 117 = .ok (.aload_n 0, 1) := by decide +kernel
theorem dX8_advances_118 : decode cX8_advances 118 = .ok (.getfield 105, 3) := by decide +kernel
theorem dX8_advances_121 : decode cX8_advances 121 = .ok (.isub, 1) := by decide +kernel
theorem dX8_advances_122 : decode cX8_advances 122 = .ok (.iconst 3, 1) := by decide +kernel
theorem dX8_advances_123 : decode cX8_advances 123 = .ok (.if_icmp .ge 7, 3) := by decide +kernel
theorem dX8_advances_126 : decode cX8_advances 126 = .ok (.iconst 2, 1) := by decide +kernel
theorem dX8_advances_127 : decode cX8_advances 127 = .ok (.goto 4, 3) := by decide +kernel
theorem dX8_advances_130 : decode cX8_advances 130 = .ok (.iconst 5, 1) := by decide +kernel
theorem dX8_advances_131 : decode cX8_advances 131 = .ok (.putfield 114, 3) := by decide +kernel
theorem dX8_advances_134 : decode cX8_advances 134 = .ok (.return_, 1) := by decide +kernel
theorem dX8_advances_135 : decode cX8_advances 135 = .ok (.aload_n 0, 1) := by decide +kernel
theorem dX8_advances_136 : decode cX8_advances 136 = .ok (.iload_n 1, 1) := by decide +kernel
theorem dX8_advances_137 : decode cX8_advances 137 = .ok (.ifCond .ge 7, 3) := by decide +kernel
theorem dX8_advances_140 : decode cX8_advances 140 = .ok (.iconst 0, 1) := by decide +kernel
theorem dX8_advances_141 : decode cX8_advances 141 = .ok (.goto 39, 3) := by decide +kernel
theorem dX8_advances_144 : decode cX8_advances 144 = .ok (.iload_n 1, 1) := by decide +kernel
theorem dX8_advances_145 : decode cX8_advances 145 = .ok (.bipush 97, 2) := by decide +kernel
theorem dX8_advances_147 : decode cX8_advances 147 = .ok (.bipush 122, 2) := by decide +kernel
theorem dX8_advances_149 : decode cX8_advances 149 = .ok (.invokestatic 72, 3) := by decide +kernel
theorem dX8_advances_152 : decode cX8_advances 152 = .ok (.ifCond .eq 7, 3) := by decide +kernel
theorem dX8_advances_155 : decode cX8_advances 155 = .ok (.iconst 1, 1) := by decide +kernel
theorem dX8_advances_156 : decode cX8_advances 156 = .ok (.goto 24, 3) := by decide +kernel
theorem dX8_advances_159 : decode cX8_advances 159 = .ok (.iload_n 1, 1) := by decide +kernel
theorem dX8_advances_160 : decode cX8_advances 160 = .ok (.bipush 44, 2) := by decide +kernel
theorem dX8_advances_162 : decode cX8_advances 162 = .ok (.if_icmp .ne 7, 3) := by decide +kernel
theorem dX8_advances_165 : decode cX8_advances 165 = .ok (.iconst 3, 1) := by decide +kernel
theorem dX8_advances_166 : decode cX8_advances 166 = .ok (.goto 14, 3) := by decide +kernel
theorem dX8_advances_169 : decode cX8_advances 169 = .ok (.iload_n 1, 1) := by decide +kernel
theorem dX8_advances_170 : decode cX8_advances 170 = .ok (.bipush 59, 2) := by decide +kernel
theorem dX8_advances_172 : decode cX8_advances 172 = .ok (.if_icmp .ne 7, 3) := by decide +kernel
theorem dX8_advances_175 : decode cX8_advances 175 = .ok (.iconst 4, 1) := by decide +kernel
theorem dX8_advances_176 : decode cX8_advances 176 = .ok (.goto 4, 3) := by decide +kernel
theorem dX8_advances_179 : decode cX8_advances 179 = .ok (.iconst 5, 1) := by decide +kernel
theorem dX8_advances_180 : decode cX8_advances 180 = .ok (.putfield 114, 3) := by decide +kernel
theorem dX8_advances_183 : decode cX8_advances 183 = .ok (.aload_n 0, 1) := by decide +kernel
theorem dX8_advances_184 : decode cX8_advances 184 = .ok (.dup, 1) := by decide +kernel
theorem dX8_advances_185 : decode cX8_advances 185 = .ok (.getfield 102, 3) := by decide +kernel
theorem dX8_advances_188 : decode cX8_advances 188 = .ok (.aload_n 0, 1) := by decide +kernel
theorem dX8_advances_189 : decode cX8_advances 189 = .ok (.getfield 114, 3) := by decide +kernel
theorem dX8_advances_192 : decode cX8_advances 192 = .ok (.ifCond .ne 7, 3) := by decide +kernel
theorem dX8_advances_195 : decode cX8_advances 195 = .ok (.iconst 0, 1) := by decide +kernel
theorem dX8_advances_196 : decode cX8_advances 196 = .ok (.goto 4, 3) := by decide +kernel
theorem dX8_advances_199 : decode cX8_advances 199 = .ok (.iconst 1, 1) := by decide +kernel
theorem dX8_advances_200 : decode cX8_advances 200 = .ok (.iadd, 1) := by decide +kernel
theorem dX8_advances_201 : decode cX8_advances 201 = .ok (.putfield 102, 3) := by decide +kernel
theorem dX8_advances_204 : decode cX8_advances 204 = .ok (.return_, 1) := by decide +kernel
theorem dX8_isWell_0 : decode cX8_isWell 0 = .ok (.aload_n 0, 1) := by decide +kernel
theorem dX8_isWell_1 : decode cX8_isWell 1 = .ok (.getfield 117, 3) := by decide +kernel
theorem dX8_isWell_4 : decode cX8_isWell 4 = .ok (.ifCond .ge 7, 3) := by decide +kernel
theorem dX8_isWell_7 : decode cX8_isWell 7 = .ok (.iconst 1, 1) := by decide +kernel
theorem dX8_isWell_8 : decode cX8_isWell 8 = .ok (.goto 4, 3) := by decide +kernel
theorem dX8_isWell_11 : decode cX8_isWell 11 = .ok (.iconst 0, 1) := by decide +kernel
theorem dX8_isWell_12 : decode cX8_isWell 12 = .ok (.ireturn, 1) := by decide +kernel
theorem dX8_takes_0 : decode cX8_takes 0 = .ok (.aload_n 0, 1) := by decide +kernel
theorem dX8_takes_1 : decode cX8_takes 1 = .ok (.invokevirtual 120, 3) := by decide +kernel
theorem dX8_takes_4 : decode cX8_takes 4 = .ok (.ifCond .ne 5, 3) := by decide +kernel
theorem dX8_takes_7 : decode cX8_takes 7 = .ok (.iconst 0, 1) := by decide +kernel
theorem dX8_takes_8 : decode cX8_takes 8 = .ok (.ireturn, 1) := by decide +kernel
theorem dX8_takes_9 : decode cX8_takes 9 = .ok (.iload_n 1, 1) := by decide +kernel
theorem dX8_takes_10 : decode cX8_takes 10 = .ok (.ifCond .ne 18, 3) := by decide +kernel
theorem dX8_takes_13 : decode cX8_takes 13 = .ok (.aload_n 0, 1) := by decide +kernel
theorem dX8_takes_14 : decode cX8_takes 14 = .ok (.aload_n 0, 1) := by decide +kernel
theorem dX8_takes_15 : decode cX8_takes 15 = .ok (.getfield 105, 3) := by decide +kernel
theorem dX8_takes_18 : decode cX8_takes 18 = .ok (.putfield 117, 3) := by decide +kernel
theorem dX8_takes_21 : decode cX8_takes 21 = .ok (.aload_n 0, 1) := by decide +kernel
theorem dX8_takes_22 : decode cX8_takes 22 = .ok (.iload_n 2, 1) := by decide +kernel
theorem dX8_takes_23 : decode cX8_takes 23 = .ok (.putfield 124, 3) := by decide +kernel
theorem dX8_takes_26 : decode cX8_takes 26 = .ok (.iconst 0, 1) := by decide +kernel
theorem dX8_takes_27 : decode cX8_takes 27 = .ok (.ireturn, 1) := by decide +kernel
theorem dX8_takes_28 : decode cX8_takes 28 = .ok (.aload_n 0, 1) := by decide +kernel
theorem dX8_takes_29 : decode cX8_takes 29 = .ok (.getfield 111, 3) := by decide +kernel
theorem dX8_takes_32 : decode cX8_takes 32 = .ok (.istore_n 3, 1) := by decide +kernel
theorem dX8_takes_33 : decode cX8_takes 33 = .ok (.aload_n 0, 1) := by decide +kernel
theorem dX8_takes_34 : decode cX8_takes 34 = .ok (.invokevirtual 127, 3) := by decide +kernel
theorem dX8_takes_37 : decode cX8_takes 37 = .ok (.iload_n 3, 1) := by decide +kernel
theorem dX8_takes_38 : decode cX8_takes 38 = .ok (.ireturn, 1) := by decide +kernel
theorem dX8_figure_0 : decode cX8_figure 0 = .ok (.aload_n 0, 1) := by decide +kernel
theorem dX8_figure_1 : decode cX8_figure 1 = .ok (.invokevirtual 120, 3) := by decide +kernel
theorem dX8_figure_4 : decode cX8_figure 4 = .ok (.ifCond .eq 18, 3) := by decide +kernel
theorem dX8_figure_7 : decode cX8_figure 7 = .ok (.aload_n 0, 1) := by decide +kernel
theorem dX8_figure_8 : decode cX8_figure 8 = .ok (.getfield 114, 3) := by decide +kernel
theorem dX8_figure_11 : decode cX8_figure 11 = .ok (.iconst 2, 1) := by decide +kernel
theorem dX8_figure_12 : decode cX8_figure 12 = .ok (.if_icmp .eq 10, 3) := by decide +kernel
theorem dX8_figure_15 : decode cX8_figure 15 = .ok (.aload_n 0, 1) := by decide +kernel
theorem dX8_figure_16 : decode cX8_figure 16 = .ok (.iconst 0, 1) := by decide +kernel
theorem dX8_figure_17 : decode cX8_figure 17 = .ok (.iconst 1, 1) := by decide +kernel
theorem dX8_figure_18 : decode cX8_figure 18 = .ok (.invokevirtual 130, 3) := by decide +kernel
theorem dX8_figure_21 : decode cX8_figure 21 = .ok (.ireturn, 1) := by decide +kernel
theorem dX8_figure_22 : decode cX8_figure 22 = .ok (.aload_n 0, 1) := by decide +kernel
theorem dX8_figure_23 : decode cX8_figure 23 = .ok (.aload_n 0, 1) := by decide +kernel
theorem dX8_figure_24 : decode cX8_figure 24 = .ok (.getfield 111, 3) := by decide +kernel
theorem dX8_figure_27 : decode cX8_figure 27 = .ok (.iload_n 1, 1) := by decide +kernel
theorem dX8_figure_28 : decode cX8_figure 28 = .ok (.iload_n 2, 1) := by decide +kernel
theorem dX8_figure_29 : decode cX8_figure 29 = .ok (.invokestatic 72, 3) := by decide +kernel
theorem dX8_figure_32 : decode cX8_figure 32 = .ok (.iconst 2, 1) := by decide +kernel
theorem dX8_figure_33 : decode cX8_figure 33 = .ok (.invokevirtual 130, 3) := by decide +kernel
theorem dX8_figure_36 : decode cX8_figure 36 = .ok (.ireturn, 1) := by decide +kernel
theorem dX8_kindOf_0 : decode cX8_kindOf 0 = .ok (.iload_n 0, 1) := by decide +kernel
theorem dX8_kindOf_1 : decode cX8_kindOf 1 = .ok (.bipush 112, 2) := by decide +kernel
theorem dX8_kindOf_3 : decode cX8_kindOf 3 = .ok (.if_icmp .ne 7, 3) := by decide +kernel
theorem dX8_kindOf_6 : decode cX8_kindOf 6 = .ok (.iconst 1, 1) := by decide +kernel
theorem dX8_kindOf_7 : decode cX8_kindOf 7 = .ok (.goto 44, 3) := by decide +kernel
theorem dX8_kindOf_10 : decode cX8_kindOf 10 = .ok (.iload_n 0, 1) := by decide +kernel
theorem dX8_kindOf_11 : decode cX8_kindOf 11 = .ok (.bipush 113, 2) := by decide +kernel
theorem dX8_kindOf_13 : decode cX8_kindOf 13 = .ok (.if_icmp .ne 7, 3) := by decide +kernel
theorem dX8_kindOf_16 : decode cX8_kindOf 16 = .ok (.iconst 2, 1) := by decide +kernel
theorem dX8_kindOf_17 : decode cX8_kindOf 17 = .ok (.goto 34, 3) := by decide +kernel
theorem dX8_kindOf_20 : decode cX8_kindOf 20 = .ok (.iload_n 0, 1) := by decide +kernel
theorem dX8_kindOf_21 : decode cX8_kindOf 21 = .ok (.bipush 115, 2) := by decide +kernel
theorem dX8_kindOf_23 : decode cX8_kindOf 23 = .ok (.if_icmp .ne 7, 3) := by decide +kernel
theorem dX8_kindOf_26 : decode cX8_kindOf 26 = .ok (.iconst 3, 1) := by decide +kernel
theorem dX8_kindOf_27 : decode cX8_kindOf 27 = .ok (.goto 24, 3) := by decide +kernel
theorem dX8_kindOf_30 : decode cX8_kindOf 30 = .ok (.iload_n 0, 1) := by decide +kernel
theorem dX8_kindOf_31 : decode cX8_kindOf 31 = .ok (.bipush 119, 2) := by decide +kernel
theorem dX8_kindOf_33 : decode cX8_kindOf 33 = .ok (.if_icmp .ne 7, 3) := by decide +kernel
theorem dX8_kindOf_36 : decode cX8_kindOf 36 = .ok (.iconst 4, 1) := by decide +kernel
theorem dX8_kindOf_37 : decode cX8_kindOf 37 = .ok (.goto 14, 3) := by decide +kernel
theorem dX8_kindOf_40 : decode cX8_kindOf 40 = .ok (.iload_n 0, 1) := by decide +kernel
theorem dX8_kindOf_41 : decode cX8_kindOf 41 = .ok (.bipush 114, 2) := by decide +kernel
theorem dX8_kindOf_43 : decode cX8_kindOf 43 = .ok (.if_icmp .ne 7, 3) := by decide +kernel
theorem dX8_kindOf_46 : decode cX8_kindOf 46 = .ok (.iconst 5, 1) := by decide +kernel
theorem dX8_kindOf_47 : decode cX8_kindOf 47 = .ok (.goto 4, 3) := by decide +kernel
theorem dX8_kindOf_50 : decode cX8_kindOf 50 = .ok (.iconst 0, 1) := by decide +kernel
theorem dX8_kindOf_51 : decode cX8_kindOf 51 = .ok (.ireturn, 1) := by decide +kernel
theorem dX8_behind_0 : decode cX8_behind 0 = .ok (.aload_n 0, 1) := by decide +kernel
theorem dX8_behind_1 : decode cX8_behind 1 = .ok (.aload_n 0, 1) := by decide +kernel
theorem dX8_behind_2 : decode cX8_behind 2 = .ok (.getfield 114, 3) := by decide +kernel
theorem dX8_behind_5 : decode cX8_behind 5 = .ok (.iconst 3, 1) := by decide +kernel
theorem dX8_behind_6 : decode cX8_behind 6 = .ok (.if_icmp .ne 7, 3) := by decide +kernel
theorem dX8_behind_9 : decode cX8_behind 9 = .ok (.iconst 1, 1) := by decide +kernel
theorem dX8_behind_10 : decode cX8_behind 10 = .ok (.goto 4, 3) := by decide +kernel
theorem dX8_behind_13 : decode cX8_behind 13 = .ok (.iconst 0, 1) := by decide +kernel
theorem dX8_behind_14 : decode cX8_behind 14 = .ok (.iconst 1, 1) := by decide +kernel
theorem dX8_behind_15 : decode cX8_behind 15 = .ok (.invokevirtual 130, 3) := by decide +kernel
theorem dX8_behind_18 : decode cX8_behind 18 = .ok (.pop, 1) := by decide +kernel
theorem dX8_behind_19 : decode cX8_behind 19 = .ok (.aload_n 0, 1) := by decide +kernel
theorem dX8_behind_20 : decode cX8_behind 20 = .ok (.iload_n 1, 1) := by decide +kernel
theorem dX8_behind_21 : decode cX8_behind 21 = .ok (.iload_n 2, 1) := by decide +kernel
theorem dX8_behind_22 : decode cX8_behind 22 = .ok (.invokevirtual 134, 3) := by decide +kernel
theorem dX8_behind_25 : decode cX8_behind 25 = .ok (.ireturn, 1) := by decide +kernel
theorem dX8_must_0 : decode cX8_must 0 = .ok (.aload_n 0, 1) := by decide +kernel
theorem dX8_must_1 : decode cX8_must 1 = .ok (.invokevirtual 120, 3) := by decide +kernel
theorem dX8_must_4 : decode cX8_must 4 = .ok (.ifCond .eq 14, 3) := by decide +kernel
theorem dX8_must_7 : decode cX8_must 7 = .ok (.iload_n 1, 1) := by decide +kernel
theorem dX8_must_8 : decode cX8_must 8 = .ok (.ifCond .ne 10, 3) := by decide +kernel
theorem dX8_must_11 : decode cX8_must 11 = .ok (.aload_n 0, 1) := by decide +kernel
theorem dX8_must_12 : decode cX8_must 12 = .ok (.iconst 0, 1) := by decide +kernel
theorem dX8_must_13 : decode cX8_must 13 = .ok (.iconst 1, 1) := by decide +kernel
theorem dX8_must_14 : decode cX8_must 14 = .ok (.invokevirtual 130, 3) := by decide +kernel
theorem dX8_must_17 : decode cX8_must 17 = .ok (.pop, 1) := by decide +kernel
theorem dX8_must_18 : decode cX8_must 18 = .ok (.return_, 1) := by decide +kernel
theorem dX8_readsHour_0 : decode cX8_readsHour 0 = .ok (.aload_n 0, 1) := by decide +kernel
theorem dX8_readsHour_1 : decode cX8_readsHour 1 = .ok (.aload_n 0, 1) := by decide +kernel
theorem dX8_readsHour_2 : decode cX8_readsHour 2 = .ok (.getfield 28, 3) := by decide +kernel
theorem dX8_readsHour_5 : decode cX8_readsHour 5 = .ok (.iconst 1, 1) := by decide +kernel
theorem dX8_readsHour_6 : decode cX8_readsHour 6 = .ok (.iaload, 1) := by decide +kernel
theorem dX8_readsHour_7 : decode cX8_readsHour 7 = .ok (.bipush 6, 2) := by decide +kernel
theorem dX8_readsHour_9 : decode cX8_readsHour 9 = .ok (.if_icmp .ge 7, 3) := by decide +kernel
theorem dX8_readsHour_12 : decode cX8_readsHour 12 = .ok (.iconst 1, 1) := by decide +kernel
theorem dX8_readsHour_13 : decode cX8_readsHour 13 = .ok (.goto 4, 3) := by decide +kernel
theorem dX8_readsHour_16 : decode cX8_readsHour 16 = .ok (.iconst 0, 1) := by decide +kernel
theorem dX8_readsHour_17 : decode cX8_readsHour 17 = .ok (.iconst 3, 1) := by decide +kernel
theorem dX8_readsHour_18 : decode cX8_readsHour 18 = .ok (.invokevirtual 130, 3) := by decide +kernel
theorem dX8_readsHour_21 : decode cX8_readsHour 21 = .ok (.pop, 1) := by decide +kernel
theorem dX8_readsHour_22 : decode cX8_readsHour 22 = .ok (.aload_n 0, 1) := by decide +kernel
theorem dX8_readsHour_23 : decode cX8_readsHour 23 = .ok (.iconst 0, 1) := by decide +kernel
theorem dX8_readsHour_24 : decode cX8_readsHour 24 = .ok (.bipush 60, 2) := by decide +kernel
theorem dX8_readsHour_26 : decode cX8_readsHour 26 = .ok (.invokevirtual 134, 3) := by decide +kernel
theorem dX8_readsHour_29 : decode cX8_readsHour 29 = .ok (.istore_n 1, 1) := by decide +kernel
theorem dX8_readsHour_30 : decode cX8_readsHour 30 = .ok (.aload_n 0, 1) := by decide +kernel
theorem dX8_readsHour_31 : decode cX8_readsHour 31 = .ok (.aload_n 0, 1) := by decide +kernel
theorem dX8_readsHour_32 : decode cX8_readsHour 32 = .ok (.getfield 114, 3) := by decide +kernel
theorem dX8_readsHour_35 : decode cX8_readsHour 35 = .ok (.iconst 4, 1) := by decide +kernel
theorem dX8_readsHour_36 : decode cX8_readsHour 36 = .ok (.if_icmp .ne 7, 3) := by decide +kernel
theorem dX8_readsHour_39 : decode cX8_readsHour 39 = .ok (.iconst 1, 1) := by decide +kernel
theorem dX8_readsHour_40 : decode cX8_readsHour 40 = .ok (.goto 4, 3) := by decide +kernel
theorem dX8_readsHour_43 : decode cX8_readsHour 43 = .ok (.iconst 0, 1) := by decide +kernel
theorem dX8_readsHour_44 : decode cX8_readsHour 44 = .ok (.iconst 1, 1) := by decide +kernel
theorem dX8_readsHour_45 : decode cX8_readsHour 45 = .ok (.invokevirtual 130, 3) := by decide +kernel
theorem dX8_readsHour_48 : decode cX8_readsHour 48 = .ok (.pop, 1) := by decide +kernel
theorem dX8_readsHour_49 : decode cX8_readsHour 49 = .ok (.aload_n 0, 1) := by decide +kernel
theorem dX8_readsHour_50 : decode cX8_readsHour 50 = .ok (.invokevirtual 120, 3) := by decide +kernel
theorem dX8_readsHour_53 : decode cX8_readsHour 53 = .ok (.ifCond .eq 27, 3) := by decide +kernel
theorem dX8_readsHour_56 : decode cX8_readsHour 56 = .ok (.aload_n 0, 1) := by decide +kernel
theorem dX8_readsHour_57 : decode cX8_readsHour 57 = .ok (.getfield 28, 3) := by decide +kernel
theorem dX8_readsHour_60 : decode cX8_readsHour 60 = .ok (.iconst 3, 1) := by decide +kernel
theorem dX8_readsHour_61 : decode cX8_readsHour 61 = .ok (.aload_n 0, 1) := by decide +kernel
theorem dX8_readsHour_62 : decode cX8_readsHour 62 = .ok (.getfield 28, 3) := by decide +kernel
theorem dX8_readsHour_65 : decode cX8_readsHour 65 = .ok (.iconst 1, 1) := by decide +kernel
theorem dX8_readsHour_66 : decode cX8_readsHour 66 = .ok (.iaload, 1) := by decide +kernel
theorem dX8_readsHour_67 : decode cX8_readsHour 67 = .ok (.iadd, 1) := by decide +kernel
theorem dX8_readsHour_68 : decode cX8_readsHour 68 = .ok (.iload_n 1, 1) := by decide +kernel
theorem dX8_readsHour_69 : decode cX8_readsHour 69 = .ok (.iastore, 1) := by decide +kernel
theorem dX8_readsHour_70 : decode cX8_readsHour 70 = .ok (.aload_n 0, 1) := by decide +kernel
theorem dX8_readsHour_71 : decode cX8_readsHour 71 = .ok (.getfield 28, 3) := by decide +kernel
theorem dX8_readsHour_74 : decode cX8_readsHour 74 = .ok (.iconst 1, 1) := by decide +kernel
theorem dX8_readsHour_75 : decode cX8_readsHour 75 = .ok (.dup2, 1) := by decide +kernel
theorem dX8_readsHour_76 : decode cX8_readsHour 76 = .ok (.iaload, 1) := by decide +kernel
theorem dX8_readsHour_77 : decode cX8_readsHour 77 = .ok (.iconst 1, 1) := by decide +kernel
theorem dX8_readsHour_78 : decode cX8_readsHour 78 = .ok (.iadd, 1) := by decide +kernel
theorem dX8_readsHour_79 : decode cX8_readsHour 79 = .ok (.iastore, 1) := by decide +kernel
theorem dX8_readsHour_80 : decode cX8_readsHour 80 = .ok (.return_, 1) := by decide +kernel
theorem dX8_readsUnit_0 : decode cX8_readsUnit 0 = .ok (.aload_n 0, 1) := by decide +kernel
theorem dX8_readsUnit_1 : decode cX8_readsUnit 1 = .ok (.getfield 111, 3) := by decide +kernel
theorem dX8_readsUnit_4 : decode cX8_readsUnit 4 = .ok (.invokestatic 137, 3) := by decide +kernel
theorem dX8_readsUnit_7 : decode cX8_readsUnit 7 = .ok (.istore_n 1, 1) := by decide +kernel
theorem dX8_readsUnit_8 : decode cX8_readsUnit 8 = .ok (.aload_n 0, 1) := by decide +kernel
theorem dX8_readsUnit_9 : decode cX8_readsUnit 9 = .ok (.aload_n 0, 1) := by decide +kernel
theorem dX8_readsUnit_10 : decode cX8_readsUnit 10 = .ok (.getfield 28, 3) := by decide +kernel
theorem dX8_readsUnit_13 : decode cX8_readsUnit 13 = .ok (.iconst 0, 1) := by decide +kernel
theorem dX8_readsUnit_14 : decode cX8_readsUnit 14 = .ok (.iaload, 1) := by decide +kernel
theorem dX8_readsUnit_15 : decode cX8_readsUnit 15 = .ok (.iconst 4, 1) := by decide +kernel
theorem dX8_readsUnit_16 : decode cX8_readsUnit 16 = .ok (.if_icmp .ge 7, 3) := by decide +kernel
theorem dX8_readsUnit_19 : decode cX8_readsUnit 19 = .ok (.iconst 1, 1) := by decide +kernel
theorem dX8_readsUnit_20 : decode cX8_readsUnit 20 = .ok (.goto 4, 3) := by decide +kernel
theorem dX8_readsUnit_23 : decode cX8_readsUnit 23 = .ok (.iconst 0, 1) := by decide +kernel
theorem dX8_readsUnit_24 : decode cX8_readsUnit 24 = .ok (.iconst 3, 1) := by decide +kernel
theorem dX8_readsUnit_25 : decode cX8_readsUnit 25 = .ok (.invokevirtual 130, 3) := by decide +kernel
theorem dX8_readsUnit_28 : decode cX8_readsUnit 28 = .ok (.pop, 1) := by decide +kernel
theorem dX8_readsUnit_29 : decode cX8_readsUnit 29 = .ok (.bipush 9, 2) := by decide +kernel
theorem dX8_readsUnit_31 : decode cX8_readsUnit 31 = .ok (.bipush 8, 2) := by decide +kernel
theorem dX8_readsUnit_33 : decode cX8_readsUnit 33 = .ok (.aload_n 0, 1) := by decide +kernel
theorem dX8_readsUnit_34 : decode cX8_readsUnit 34 = .ok (.getfield 28, 3) := by decide +kernel
theorem dX8_readsUnit_37 : decode cX8_readsUnit 37 = .ok (.iconst 0, 1) := by decide +kernel
theorem dX8_readsUnit_38 : decode cX8_readsUnit 38 = .ok (.iaload, 1) := by decide +kernel
theorem dX8_readsUnit_39 : decode cX8_readsUnit 39 = .ok (.iconst 4, 1) := by decide +kernel
theorem dX8_readsUnit_40 : decode cX8_readsUnit 40 = .ok (.if_icmp .ge 12, 3) := by decide +kernel
theorem dX8_readsUnit_43 : decode cX8_readsUnit 43 = .ok (.aload_n 0, 1) := by decide +kernel
theorem dX8_readsUnit_44 : decode cX8_readsUnit 44 = .ok (.getfield 28, 3) := by decide +kernel
theorem dX8_readsUnit_47 : decode cX8_readsUnit 47 = .ok (.iconst 0, 1) := by decide +kernel
theorem dX8_readsUnit_48 : decode cX8_readsUnit 48 = .ok (.iaload, 1) := by decide +kernel
theorem dX8_readsUnit_49 : decode cX8_readsUnit 49 = .ok (.goto 4, 3) := by decide +kernel
theorem dX8_readsUnit_52 : decode cX8_readsUnit 52 = .ok (.iconst 0, 1) := by decide +kernel
theorem dX8_readsUnit_53 : decode cX8_readsUnit 53 = .ok (.imul, 1) := by decide +kernel
theorem dX8_readsUnit_54 : decode cX8_readsUnit 54 = .ok (.iadd, 1) := by decide +kernel
theorem dX8_readsUnit_55 : decode cX8_readsUnit 55 = .ok (.istore_n 2, 1) := by decide +kernel
theorem dX8_readsUnit_56 : decode cX8_readsUnit 56 = .ok (.aload_n 0, 1) := by decide +kernel
theorem dX8_readsUnit_57 : decode cX8_readsUnit 57 = .ok (.iconst 0, 1) := by decide +kernel
theorem dX8_readsUnit_58 : decode cX8_readsUnit 58 = .ok (.bipush 20, 2) := by decide +kernel
theorem dX8_readsUnit_60 : decode cX8_readsUnit 60 = .ok (.invokevirtual 134, 3) := by decide +kernel
theorem dX8_readsUnit_63 : decode cX8_readsUnit 63 = .ok (.istore_n 3, 1) := by decide +kernel
theorem dX8_readsUnit_64 : decode cX8_readsUnit 64 = .ok (.aload_n 0, 1) := by decide +kernel
theorem dX8_readsUnit_65 : decode cX8_readsUnit 65 = .ok (.iload_n 3, 1) := by decide +kernel
theorem dX8_readsUnit_66 : decode cX8_readsUnit 66 = .ok (.bipush 30, 2) := by decide +kernel
theorem dX8_readsUnit_68 : decode cX8_readsUnit 68 = .ok (.invokevirtual 140, 3) := by decide +kernel
theorem dX8_readsUnit_71 : decode cX8_readsUnit 71 = .ok (.istore 4, 2) := by decide +kernel
theorem dX8_readsUnit_73 : decode cX8_readsUnit 73 = .ok (.aload_n 0, 1) := by decide +kernel
theorem dX8_readsUnit_74 : decode cX8_readsUnit 74 = .ok (.iconst 1, 1) := by decide +kernel
theorem dX8_readsUnit_75 : decode cX8_readsUnit 75 = .ok (.bipush 9, 2) := by decide +kernel
theorem dX8_readsUnit_77 : decode cX8_readsUnit 77 = .ok (.invokevirtual 140, 3) := by decide +kernel
theorem dX8_readsUnit_80 : decode cX8_readsUnit 80 = .ok (.istore 5, 2) := by decide +kernel
theorem dX8_readsUnit_82 : decode cX8_readsUnit 82 = .ok (.aload_n 0, 1) := by decide +kernel
theorem dX8_readsUnit_83 : decode cX8_readsUnit 83 = .ok (.iconst 0, 1) := by decide +kernel
theorem dX8_readsUnit_84 : decode cX8_readsUnit 84 = .ok (.bipush 40, 2) := by decide +kernel
theorem dX8_readsUnit_86 : decode cX8_readsUnit 86 = .ok (.invokevirtual 140, 3) := by decide +kernel
theorem dX8_readsUnit_89 : decode cX8_readsUnit 89 = .ok (.istore 6, 2) := by decide +kernel
theorem dX8_readsUnit_91 : decode cX8_readsUnit 91 = .ok (.aload_n 0, 1) := by decide +kernel
theorem dX8_readsUnit_92 : decode cX8_readsUnit 92 = .ok (.iconst 1, 1) := by decide +kernel
theorem dX8_readsUnit_93 : decode cX8_readsUnit 93 = .ok (.iconst 3, 1) := by decide +kernel
theorem dX8_readsUnit_94 : decode cX8_readsUnit 94 = .ok (.invokevirtual 140, 3) := by decide +kernel
theorem dX8_readsUnit_97 : decode cX8_readsUnit 97 = .ok (.istore 7, 2) := by decide +kernel
theorem dX8_readsUnit_99 : decode cX8_readsUnit 99 = .ok (.aload_n 0, 1) := by decide +kernel
theorem dX8_readsUnit_100 : decode cX8_readsUnit 100 = .ok (.iconst 1, 1) := by decide +kernel
theorem dX8_readsUnit_101 : decode cX8_readsUnit 101 = .ok (.iconst 3, 1) := by decide +kernel
theorem dX8_readsUnit_102 : decode cX8_readsUnit 102 = .ok (.invokevirtual 140, 3) := by decide +kernel
theorem dX8_readsUnit_105 : decode cX8_readsUnit 105 = .ok (.istore 8, 2) := by decide +kernel
theorem dX8_readsUnit_107 : decode cX8_readsUnit 107 = .ok (.aload_n 0, 1) := by decide +kernel
theorem dX8_readsUnit_108 : decode cX8_readsUnit 108 = .ok (.aload_n 0, 1) := by decide +kernel
theorem dX8_readsUnit_109 : decode cX8_readsUnit 109 = .ok (.getfield 114, 3) := by decide +kernel
theorem dX8_readsUnit_112 : decode cX8_readsUnit 112 = .ok (.iconst 4, 1) := by decide +kernel
theorem dX8_readsUnit_113 : decode cX8_readsUnit 113 = .ok (.if_icmp .ne 7, 3) := by decide +kernel
theorem dX8_readsUnit_116 : decode cX8_readsUnit 116 = .ok (.iconst 1, 1) := by decide +kernel
theorem dX8_readsUnit_117 : decode cX8_readsUnit 117 = .ok (.goto 4, 3) := by decide +kernel
theorem dX8_readsUnit_120 : decode cX8_readsUnit 120 = .ok (.iconst 0, 1) := by decide +kernel
theorem dX8_readsUnit_121 : decode cX8_readsUnit 121 = .ok (.iconst 1, 1) := by decide +kernel
theorem dX8_readsUnit_122 : decode cX8_readsUnit 122 = .ok (.invokevirtual 130, 3) := by decide +kernel
theorem dX8_readsUnit_125 : decode cX8_readsUnit 125 = .ok (.pop, 1) := by decide +kernel
theorem dX8_readsUnit_126 : decode cX8_readsUnit 126 = .ok (.aload_n 0, 1) := by decide +kernel
theorem dX8_readsUnit_127 : decode cX8_readsUnit 127 = .ok (.invokevirtual 120, 3) := by decide +kernel
theorem dX8_readsUnit_130 : decode cX8_readsUnit 130 = .ok (.ifCond .eq 90, 3) := by decide +kernel
theorem dX8_readsUnit_133 : decode cX8_readsUnit 133 = .ok (.aload_n 0, 1) := by decide +kernel
theorem dX8_readsUnit_134 : decode cX8_readsUnit 134 = .ok (.getfield 28, 3) := by decide +kernel
theorem dX8_readsUnit_137 : decode cX8_readsUnit 137 = .ok (.iload_n 2, 1) := by decide +kernel
theorem dX8_readsUnit_138 : decode cX8_readsUnit 138 = .ok (.iload_n 1, 1) := by decide +kernel
theorem dX8_readsUnit_139 : decode cX8_readsUnit 139 = .ok (.iastore, 1) := by decide +kernel
theorem dX8_readsUnit_140 : decode cX8_readsUnit 140 = .ok (.aload_n 0, 1) := by decide +kernel
theorem dX8_readsUnit_141 : decode cX8_readsUnit 141 = .ok (.getfield 28, 3) := by decide +kernel
theorem dX8_readsUnit_144 : decode cX8_readsUnit 144 = .ok (.iload_n 2, 1) := by decide +kernel
theorem dX8_readsUnit_145 : decode cX8_readsUnit 145 = .ok (.iconst 1, 1) := by decide +kernel
theorem dX8_readsUnit_146 : decode cX8_readsUnit 146 = .ok (.iadd, 1) := by decide +kernel
theorem dX8_readsUnit_147 : decode cX8_readsUnit 147 = .ok (.iload_n 3, 1) := by decide +kernel
theorem dX8_readsUnit_148 : decode cX8_readsUnit 148 = .ok (.iastore, 1) := by decide +kernel
theorem dX8_readsUnit_149 : decode cX8_readsUnit 149 = .ok (.aload_n 0, 1) := by decide +kernel
theorem dX8_readsUnit_150 : decode cX8_readsUnit 150 = .ok (.getfield 28, 3) := by decide +kernel
theorem dX8_readsUnit_153 : decode cX8_readsUnit 153 = .ok (.iload_n 2, 1) := by decide +kernel
theorem dX8_readsUnit_154 : decode cX8_readsUnit 154 = .ok (.iconst 2, 1) := by decide +kernel
theorem dX8_readsUnit_155 : decode cX8_readsUnit 155 = .ok (.iadd, 1) := by decide +kernel
theorem dX8_readsUnit_156 : decode cX8_readsUnit 156 = .ok (.iload 4, 2) := by decide +kernel
theorem dX8_readsUnit_158 : decode cX8_readsUnit 158 = .ok (.iastore, 1) := by decide +kernel
theorem dX8_readsUnit_159 : decode cX8_readsUnit 159 = .ok (.aload_n 0, 1) := by decide +kernel
theorem dX8_readsUnit_160 : decode cX8_readsUnit 160 = .ok (.getfield 28, 3) := by decide +kernel
theorem dX8_readsUnit_163 : decode cX8_readsUnit 163 = .ok (.iload_n 2, 1) := by decide +kernel
theorem dX8_readsUnit_164 : decode cX8_readsUnit 164 = .ok (.iconst 3, 1) := by decide +kernel
theorem dX8_readsUnit_165 : decode cX8_readsUnit 165 = .ok (.iadd, 1) := by decide +kernel
theorem dX8_readsUnit_166 : decode cX8_readsUnit 166 = .ok (.iload 5, 2) := by decide +kernel
theorem dX8_readsUnit_168 : decode cX8_readsUnit 168 = .ok (.iastore, 1) := by decide +kernel
theorem dX8_readsUnit_169 : decode cX8_readsUnit 169 = .ok (.aload_n 0, 1) := by decide +kernel
theorem dX8_readsUnit_170 : decode cX8_readsUnit 170 = .ok (.getfield 28, 3) := by decide +kernel
theorem dX8_readsUnit_173 : decode cX8_readsUnit 173 = .ok (.iload_n 2, 1) := by decide +kernel
theorem dX8_readsUnit_174 : decode cX8_readsUnit 174 = .ok (.iconst 4, 1) := by decide +kernel
theorem dX8_readsUnit_175 : decode cX8_readsUnit 175 = .ok (.iadd, 1) := by decide +kernel
theorem dX8_readsUnit_176 : decode cX8_readsUnit 176 = .ok (.iload 6, 2) := by decide +kernel
theorem dX8_readsUnit_178 : decode cX8_readsUnit 178 = .ok (.iastore, 1) := by decide +kernel
theorem dX8_readsUnit_179 : decode cX8_readsUnit 179 = .ok (.aload_n 0, 1) := by decide +kernel
theorem dX8_readsUnit_180 : decode cX8_readsUnit 180 = .ok (.getfield 28, 3) := by decide +kernel
theorem dX8_readsUnit_183 : decode cX8_readsUnit 183 = .ok (.iload_n 2, 1) := by decide +kernel
theorem dX8_readsUnit_184 : decode cX8_readsUnit 184 = .ok (.iconst 5, 1) := by decide +kernel
theorem dX8_readsUnit_185 : decode cX8_readsUnit 185 = .ok (.iadd, 1) := by decide +kernel
theorem dX8_readsUnit_186 : decode cX8_readsUnit 186 = .ok (.iload 7, 2) := by decide +kernel
theorem dX8_readsUnit_188 : decode cX8_readsUnit 188 = .ok (.iastore, 1) := by decide +kernel
theorem dX8_readsUnit_189 : decode cX8_readsUnit 189 = .ok (.aload_n 0, 1) := by decide +kernel
theorem dX8_readsUnit_190 : decode cX8_readsUnit 190 = .ok (.getfield 28, 3) := by decide +kernel
theorem dX8_readsUnit_193 : decode cX8_readsUnit 193 = .ok (.iload_n 2, 1) := by decide +kernel
theorem dX8_readsUnit_194 : decode cX8_readsUnit 194 = .ok (.bipush 6, 2) := by decide +kernel
theorem dX8_readsUnit_196 : decode cX8_readsUnit 196 = .ok (.iadd, 1) := by decide +kernel
theorem dX8_readsUnit_197 : decode cX8_readsUnit 197 = .ok (.iload 8, 2) := by decide +kernel
theorem dX8_readsUnit_199 : decode cX8_readsUnit 199 = .ok (.iastore, 1) := by decide +kernel
theorem dX8_readsUnit_200 : decode cX8_readsUnit 200 = .ok (.aload_n 0, 1) := by decide +kernel
theorem dX8_readsUnit_201 : decode cX8_readsUnit 201 = .ok (.getfield 28, 3) := by decide +kernel
theorem dX8_readsUnit_204 : decode cX8_readsUnit 204 = .ok (.iload_n 2, 1) := by decide +kernel
theorem dX8_readsUnit_205 : decode cX8_readsUnit 205 = .ok (.bipush 7, 2) := by decide +kernel
theorem dX8_readsUnit_207 : decode cX8_readsUnit 207 = .ok (.iadd, 1) := by decide +kernel
theorem dX8_readsUnit_208 : decode cX8_readsUnit 208 = .ok (.iconst 0, 1) := by decide +kernel
theorem dX8_readsUnit_209 : decode cX8_readsUnit 209 = .ok (.iastore, 1) := by decide +kernel
theorem dX8_readsUnit_210 : decode cX8_readsUnit 210 = .ok (.aload_n 0, 1) := by decide +kernel
theorem dX8_readsUnit_211 : decode cX8_readsUnit 211 = .ok (.getfield 28, 3) := by decide +kernel
theorem dX8_readsUnit_214 : decode cX8_readsUnit 214 = .ok (.iconst 0, 1) := by decide +kernel
theorem dX8_readsUnit_215 : decode cX8_readsUnit 215 = .ok (.dup2, 1) := by decide +kernel
theorem dX8_readsUnit_216 : decode cX8_readsUnit 216 = .ok (.iaload, 1) := by decide +kernel
theorem dX8_readsUnit_217 : decode cX8_readsUnit 217 = .ok (.iconst 1, 1) := by decide +kernel
theorem dX8_readsUnit_218 : decode cX8_readsUnit 218 = .ok (.iadd, 1) := by decide +kernel
theorem dX8_readsUnit_219 : decode cX8_readsUnit 219 = .ok (.iastore, 1) := by decide +kernel
theorem dX8_readsUnit_220 : decode cX8_readsUnit 220 = .ok (.return_, 1) := by decide +kernel
theorem dX8_day_0 : decode cX8_day 0 = .ok (.iconst 0, 1) := by decide +kernel
theorem dX8_day_1 : decode cX8_day 1 = .ok (.istore_n 1, 1) := by decide +kernel
theorem dX8_day_2 : decode cX8_day 2 = .ok (.iload_n 1, 1) := by decide +kernel
theorem dX8_day_3 : decode cX8_day 3 = .ok (.bipush 41, 2) := by decide +kernel
theorem dX8_day_5 : decode cX8_day 5 = .ok (.if_icmp .ge 16, 3) := by decide +kernel
theorem dX8_day_8 : decode cX8_day 8 = .ok (.aload_n 0, 1) := by decide +kernel
theorem dX8_day_9 : decode cX8_day 9 = .ok (.getfield 28, 3) := by decide +kernel
theorem dX8_day_12 : decode cX8_day 12 = .ok (.iload_n 1, 1) := by decide +kernel
theorem dX8_day_13 : decode cX8_day 13 = .ok (.iconst 0, 1) := by decide +kernel
theorem dX8_day_14 : decode cX8_day 14 = .ok (.iastore, 1) := by decide +kernel
theorem dX8_day_15 : decode cX8_day 15 = .ok (.iinc 1 1, 3) := by decide +kernel
theorem dX8_day_18 : decode cX8_day 18 = .ok (.goto (-16), 3) := by decide +kernel
theorem dX8_day_21 : decode cX8_day 21 = .ok (.aload_n 0, 1) := by decide +kernel
theorem dX8_day_22 : decode cX8_day 22 = .ok (.iconst 0, 1) := by decide +kernel
theorem dX8_day_23 : decode cX8_day 23 = .ok (.putfield 102, 3) := by decide +kernel
theorem dX8_day_26 : decode cX8_day 26 = .ok (.aload_n 0, 1) := by decide +kernel
theorem dX8_day_27 : decode cX8_day 27 = .ok (.iconst (-1), 1) := by decide +kernel
theorem dX8_day_28 : decode cX8_day 28 = .ok (.putfield 117, 3) := by decide +kernel
theorem dX8_day_31 : decode cX8_day 31 = .ok (.aload_n 0, 1) := by decide +kernel
theorem dX8_day_32 : decode cX8_day 32 = .ok (.invokevirtual 127, 3) := by decide +kernel
theorem dX8_day_35 : decode cX8_day 35 = .ok (.aload_n 0, 1) := by decide +kernel
theorem dX8_day_36 : decode cX8_day 36 = .ok (.aload_n 0, 1) := by decide +kernel
theorem dX8_day_37 : decode cX8_day 37 = .ok (.getfield 114, 3) := by decide +kernel
theorem dX8_day_40 : decode cX8_day 40 = .ok (.iconst 1, 1) := by decide +kernel
theorem dX8_day_41 : decode cX8_day 41 = .ok (.if_icmp .ne 16, 3) := by decide +kernel
theorem dX8_day_44 : decode cX8_day 44 = .ok (.aload_n 0, 1) := by decide +kernel
theorem dX8_day_45 : decode cX8_day 45 = .ok (.getfield 111, 3) := by decide +kernel
theorem dX8_day_48 : decode cX8_day 48 = .ok (.bipush 118, 2) := by decide +kernel
theorem dX8_day_50 : decode cX8_day 50 = .ok (.if_icmp .ne 7, 3) := by decide +kernel
theorem dX8_day_53 : decode cX8_day 53 = .ok (.iconst 1, 1) := by decide +kernel
theorem dX8_day_54 : decode cX8_day 54 = .ok (.goto 4, 3) := by decide +kernel
theorem dX8_day_57 : decode cX8_day 57 = .ok (.iconst 0, 1) := by decide +kernel
theorem dX8_day_58 : decode cX8_day 58 = .ok (.iconst 1, 1) := by decide +kernel
theorem dX8_day_59 : decode cX8_day 59 = .ok (.invokevirtual 130, 3) := by decide +kernel
theorem dX8_day_62 : decode cX8_day 62 = .ok (.pop, 1) := by decide +kernel
theorem dX8_day_63 : decode cX8_day 63 = .ok (.aload_n 0, 1) := by decide +kernel
theorem dX8_day_64 : decode cX8_day 64 = .ok (.getfield 28, 3) := by decide +kernel
theorem dX8_day_67 : decode cX8_day 67 = .ok (.iconst 2, 1) := by decide +kernel
theorem dX8_day_68 : decode cX8_day 68 = .ok (.aload_n 0, 1) := by decide +kernel
theorem dX8_day_69 : decode cX8_day 69 = .ok (.iconst 0, 1) := by decide +kernel
theorem dX8_day_70 : decode cX8_day 70 = .ok (.bipush 20, 2) := by decide +kernel
theorem dX8_day_72 : decode cX8_day 72 = .ok (.invokevirtual 134, 3) := by decide +kernel
theorem dX8_day_75 : decode cX8_day 75 = .ok (.iastore, 1) := by decide +kernel
theorem dX8_day_76 : decode cX8_day 76 = .ok (.aload_n 0, 1) := by decide +kernel
theorem dX8_day_77 : decode cX8_day 77 = .ok (.aload_n 0, 1) := by decide +kernel
theorem dX8_day_78 : decode cX8_day 78 = .ok (.getfield 114, 3) := by decide +kernel
theorem dX8_day_81 : decode cX8_day 81 = .ok (.iconst 4, 1) := by decide +kernel
theorem dX8_day_82 : decode cX8_day 82 = .ok (.if_icmp .ne 7, 3) := by decide +kernel
theorem dX8_day_85 : decode cX8_day 85 = .ok (.iconst 1, 1) := by decide +kernel
theorem dX8_day_86 : decode cX8_day 86 = .ok (.goto 4, 3) := by decide +kernel
theorem dX8_day_89 : decode cX8_day 89 = .ok (.iconst 0, 1) := by decide +kernel
theorem dX8_day_90 : decode cX8_day 90 = .ok (.iconst 1, 1) := by decide +kernel
theorem dX8_day_91 : decode cX8_day 91 = .ok (.invokevirtual 130, 3) := by decide +kernel
theorem dX8_day_94 : decode cX8_day 94 = .ok (.pop, 1) := by decide +kernel
theorem dX8_day_95 : decode cX8_day 95 = .ok (.aload_n 0, 1) := by decide +kernel
theorem dX8_day_96 : decode cX8_day 96 = .ok (.invokevirtual 120, 3) := by decide +kernel
theorem dX8_day_99 : decode cX8_day 99 = .ok (.ifCond .eq 27, 3) := by decide +kernel
theorem dX8_day_102 : decode cX8_day 102 = .ok (.aload_n 0, 1) := by decide +kernel
theorem dX8_day_103 : decode cX8_day 103 = .ok (.getfield 114, 3) := by decide +kernel
theorem dX8_day_106 : decode cX8_day 106 = .ok (.iconst 1, 1) := by decide +kernel
theorem dX8_day_107 : decode cX8_day 107 = .ok (.if_icmp .ne 19, 3) := by decide +kernel
theorem dX8_day_110 : decode cX8_day 110 = .ok (.aload_n 0, 1) := by decide +kernel
theorem dX8_day_111 : decode cX8_day 111 = .ok (.getfield 111, 3) := by decide +kernel
theorem dX8_day_114 : decode cX8_day 114 = .ok (.bipush 104, 2) := by decide +kernel
theorem dX8_day_116 : decode cX8_day 116 = .ok (.if_icmp .ne 10, 3) := by decide +kernel
theorem dX8_day_119 : decode cX8_day 119 = .ok (.aload_n 0, 1) := by decide +kernel
theorem dX8_day_120 : decode cX8_day 120 = .ok (.invokevirtual 143, 3) := by decide +kernel
theorem dX8_day_123 : decode cX8_day 123 = .ok (.goto (-28), 3) := by decide +kernel
theorem dX8_day_126 : decode cX8_day 126 = .ok (.aload_n 0, 1) := by decide +kernel
theorem dX8_day_127 : decode cX8_day 127 = .ok (.aload_n 0, 1) := by decide +kernel
theorem dX8_day_128 : decode cX8_day 128 = .ok (.getfield 28, 3) := by decide +kernel
theorem dX8_day_131 : decode cX8_day 131 = .ok (.iconst 1, 1) := by decide +kernel
theorem dX8_day_132 : decode cX8_day 132 = .ok (.iaload, 1) := by decide +kernel
theorem dX8_day_133 : decode cX8_day 133 = .ok (.ifCond .le 7, 3) := by decide +kernel
theorem dX8_day_136 : decode cX8_day 136 = .ok (.iconst 1, 1) := by decide +kernel
theorem dX8_day_137 : decode cX8_day 137 = .ok (.goto 4, 3) := by decide +kernel
theorem dX8_day_140 : decode cX8_day 140 = .ok (.iconst 0, 1) := by decide +kernel
theorem dX8_day_141 : decode cX8_day 141 = .ok (.invokevirtual 146, 3) := by decide +kernel
theorem dX8_day_144 : decode cX8_day 144 = .ok (.aload_n 0, 1) := by decide +kernel
theorem dX8_day_145 : decode cX8_day 145 = .ok (.invokevirtual 120, 3) := by decide +kernel
theorem dX8_day_148 : decode cX8_day 148 = .ok (.ifCond .eq 28, 3) := by decide +kernel
theorem dX8_day_151 : decode cX8_day 151 = .ok (.aload_n 0, 1) := by decide +kernel
theorem dX8_day_152 : decode cX8_day 152 = .ok (.getfield 114, 3) := by decide +kernel
theorem dX8_day_155 : decode cX8_day 155 = .ok (.iconst 1, 1) := by decide +kernel
theorem dX8_day_156 : decode cX8_day 156 = .ok (.if_icmp .ne 20, 3) := by decide +kernel
theorem dX8_day_159 : decode cX8_day 159 = .ok (.aload_n 0, 1) := by decide +kernel
theorem dX8_day_160 : decode cX8_day 160 = .ok (.getfield 111, 3) := by decide +kernel
theorem dX8_day_163 : decode cX8_day 163 = .ok (.invokestatic 137, 3) := by decide +kernel
theorem dX8_day_166 : decode cX8_day 166 = .ok (.ifCond .le 10, 3) := by decide +kernel
theorem dX8_day_169 : decode cX8_day 169 = .ok (.aload_n 0, 1) := by decide +kernel
theorem dX8_day_170 : decode cX8_day 170 = .ok (.invokevirtual 150, 3) := by decide +kernel
theorem dX8_day_173 : decode cX8_day 173 = .ok (.goto (-29), 3) := by decide +kernel
theorem dX8_day_176 : decode cX8_day 176 = .ok (.aload_n 0, 1) := by decide +kernel
theorem dX8_day_177 : decode cX8_day 177 = .ok (.aload_n 0, 1) := by decide +kernel
theorem dX8_day_178 : decode cX8_day 178 = .ok (.getfield 28, 3) := by decide +kernel
theorem dX8_day_181 : decode cX8_day 181 = .ok (.iconst 0, 1) := by decide +kernel
theorem dX8_day_182 : decode cX8_day 182 = .ok (.iaload, 1) := by decide +kernel
theorem dX8_day_183 : decode cX8_day 183 = .ok (.ifCond .le 14, 3) := by decide +kernel
theorem dX8_day_186 : decode cX8_day 186 = .ok (.aload_n 0, 1) := by decide +kernel
theorem dX8_day_187 : decode cX8_day 187 = .ok (.getfield 114, 3) := by decide +kernel
theorem dX8_day_190 : decode cX8_day 190 = .ok (.ifCond .ne 7, 3) := by decide +kernel
theorem dX8_day_193 : decode cX8_day 193 = .ok (.iconst 1, 1) := by decide +kernel
theorem dX8_day_194 : decode cX8_day 194 = .ok (.goto 4, 3) := by decide +kernel
theorem dX8_day_197 : decode cX8_day 197 = .ok (.iconst 0, 1) := by decide +kernel
theorem dX8_day_198 : decode cX8_day 198 = .ok (.invokevirtual 146, 3) := by decide +kernel
theorem dX8_day_201 : decode cX8_day 201 = .ok (.aload_n 0, 1) := by decide +kernel
theorem dX8_day_202 : decode cX8_day 202 = .ok (.iconst 0, 1) := by decide +kernel
theorem dX8_day_203 : decode cX8_day 203 = .ok (.putfield 98, 3) := by decide +kernel
theorem dX8_day_206 : decode cX8_day 206 = .ok (.aload_n 0, 1) := by decide +kernel
theorem dX8_day_207 : decode cX8_day 207 = .ok (.invokevirtual 120, 3) := by decide +kernel
theorem dX8_day_210 : decode cX8_day 210 = .ok (.ifCond .ne 11, 3) := by decide +kernel
theorem dX8_day_213 : decode cX8_day 213 = .ok (.ldc 153, 2) := by decide +kernel
theorem dX8_day_215 : decode cX8_day 215 = .ok (.aload_n 0, 1) := by decide +kernel
theorem dX8_day_216 : decode cX8_day 216 = .ok (.getfield 117, 3) := by decide +kernel
theorem dX8_day_219 : decode cX8_day 219 = .ok (.isub, 1) := by decide +kernel
theorem dX8_day_220 : decode cX8_day 220 = .ok (.ireturn, 1) := by decide +kernel
theorem dX8_day_221 : decode cX8_day 221 = .ok (.aload_n 0, 1) := by decide +kernel
theorem dX8_day_222 : decode cX8_day 222 = .ok (.getfield 28, 3) := by decide +kernel
theorem dX8_day_225 : decode cX8_day 225 = .ok (.iconst 0, 1) := by decide +kernel
theorem dX8_day_226 : decode cX8_day 226 = .ok (.aload_n 0, 1) := by decide +kernel
theorem dX8_day_227 : decode cX8_day 227 = .ok (.getfield 25, 3) := by decide +kernel
theorem dX8_day_230 : decode cX8_day 230 = .ok (.iconst 0, 1) := by decide +kernel
theorem dX8_day_231 : decode cX8_day 231 = .ok (.invokestatic 154, 3) := by decide +kernel
theorem dX8_day_234 : decode cX8_day 234 = .ok (.aload_n 0, 1) := by decide +kernel
theorem dX8_day_235 : decode cX8_day 235 = .ok (.iconst 0, 1) := by decide +kernel
theorem dX8_day_236 : decode cX8_day 236 = .ok (.putfield 158, 3) := by decide +kernel
theorem dX8_day_239 : decode cX8_day 239 = .ok (.aload_n 0, 1) := by decide +kernel
theorem dX8_day_240 : decode cX8_day 240 = .ok (.getfield 25, 3) := by decide +kernel
theorem dX8_day_243 : decode cX8_day 243 = .ok (.iconst 0, 1) := by decide +kernel
theorem dX8_day_244 : decode cX8_day 244 = .ok (.iaload, 1) := by decide +kernel
theorem dX8_day_245 : decode cX8_day 245 = .ok (.ireturn, 1) := by decide +kernel
theorem dX8_fault_0 : decode cX8_fault 0 = .ok (.aload_n 0, 1) := by decide +kernel
theorem dX8_fault_1 : decode cX8_fault 1 = .ok (.getfield 124, 3) := by decide +kernel
theorem dX8_fault_4 : decode cX8_fault 4 = .ok (.ireturn, 1) := by decide +kernel
theorem dX8_isDay_0 : decode cX8_isDay 0 = .ok (.aload_n 0, 1) := by decide +kernel
theorem dX8_isDay_1 : decode cX8_isDay 1 = .ok (.getfield 25, 3) := by decide +kernel
theorem dX8_isDay_4 : decode cX8_isDay 4 = .ok (.iconst 0, 1) := by decide +kernel
theorem dX8_isDay_5 : decode cX8_isDay 5 = .ok (.iaload, 1) := by decide +kernel
theorem dX8_isDay_6 : decode cX8_isDay 6 = .ok (.ifCond .le 7, 3) := by decide +kernel
theorem dX8_isDay_9 : decode cX8_isDay 9 = .ok (.iconst 1, 1) := by decide +kernel
theorem dX8_isDay_10 : decode cX8_isDay 10 = .ok (.goto 4, 3) := by decide +kernel
theorem dX8_isDay_13 : decode cX8_isDay 13 = .ok (.iconst 0, 1) := by decide +kernel
theorem dX8_isDay_14 : decode cX8_isDay 14 = .ok (.ireturn, 1) := by decide +kernel
theorem dX8_isUnit_0 : decode cX8_isUnit 0 = .ok (.iload_n 1, 1) := by decide +kernel
theorem dX8_isUnit_1 : decode cX8_isUnit 1 = .ok (.iconst 0, 1) := by decide +kernel
theorem dX8_isUnit_2 : decode cX8_isUnit 2 = .ok (.aload_n 0, 1) := by decide +kernel
theorem dX8_isUnit_3 : decode cX8_isUnit 3 = .ok (.getfield 25, 3) := by decide +kernel
theorem dX8_isUnit_6 : decode cX8_isUnit 6 = .ok (.iconst 0, 1) := by decide +kernel
theorem dX8_isUnit_7 : decode cX8_isUnit 7 = .ok (.iaload, 1) := by decide +kernel
theorem dX8_isUnit_8 : decode cX8_isUnit 8 = .ok (.iconst 1, 1) := by decide +kernel
theorem dX8_isUnit_9 : decode cX8_isUnit 9 = .ok (.isub, 1) := by decide +kernel
theorem dX8_isUnit_10 : decode cX8_isUnit 10 = .ok (.invokestatic 72, 3) := by decide +kernel
theorem dX8_isUnit_13 : decode cX8_isUnit 13 = .ok (.ireturn, 1) := by decide +kernel
theorem dX8_isHour_0 : decode cX8_isHour 0 = .ok (.iload_n 1, 1) := by decide +kernel
theorem dX8_isHour_1 : decode cX8_isHour 1 = .ok (.iconst 0, 1) := by decide +kernel
theorem dX8_isHour_2 : decode cX8_isHour 2 = .ok (.aload_n 0, 1) := by decide +kernel
theorem dX8_isHour_3 : decode cX8_isHour 3 = .ok (.getfield 25, 3) := by decide +kernel
theorem dX8_isHour_6 : decode cX8_isHour 6 = .ok (.iconst 1, 1) := by decide +kernel
theorem dX8_isHour_7 : decode cX8_isHour 7 = .ok (.iaload, 1) := by decide +kernel
theorem dX8_isHour_8 : decode cX8_isHour 8 = .ok (.iconst 1, 1) := by decide +kernel
theorem dX8_isHour_9 : decode cX8_isHour 9 = .ok (.isub, 1) := by decide +kernel
theorem dX8_isHour_10 : decode cX8_isHour 10 = .ok (.invokestatic 72, 3) := by decide +kernel
theorem dX8_isHour_13 : decode cX8_isHour 13 = .ok (.ireturn, 1) := by decide +kernel
theorem dX8_sortOf_0 : decode cX8_sortOf 0 = .ok (.aload_n 0, 1) := by decide +kernel
theorem dX8_sortOf_1 : decode cX8_sortOf 1 = .ok (.bipush 9, 2) := by decide +kernel
theorem dX8_sortOf_3 : decode cX8_sortOf 3 = .ok (.bipush 8, 2) := by decide +kernel
theorem dX8_sortOf_5 : decode cX8_sortOf 5 = .ok (.iload_n 1, 1) := by decide +kernel
theorem dX8_sortOf_6 : decode cX8_sortOf 6 = .ok (.imul, 1) := by decide +kernel
theorem dX8_sortOf_7 : decode cX8_sortOf 7 = .ok (.iadd, 1) := by decide +kernel
theorem dX8_sortOf_8 : decode cX8_sortOf 8 = .ok (.iaload, 1) := by decide +kernel
theorem dX8_sortOf_9 : decode cX8_sortOf 9 = .ok (.ireturn, 1) := by decide +kernel
theorem dX8_floor_0 : decode cX8_floor 0 = .ok (.aload_n 0, 1) := by decide +kernel
theorem dX8_floor_1 : decode cX8_floor 1 = .ok (.iload_n 1, 1) := by decide +kernel
theorem dX8_floor_2 : decode cX8_floor 2 = .ok (.invokestatic 161, 3) := by decide +kernel
theorem dX8_floor_5 : decode cX8_floor 5 = .ok (.iconst 4, 1) := by decide +kernel
theorem dX8_floor_6 : decode cX8_floor 6 = .ok (.if_icmp .lt 7, 3) := by decide +kernel
theorem dX8_floor_9 : decode cX8_floor 9 = .ok (.iconst 0, 1) := by decide +kernel
theorem dX8_floor_10 : decode cX8_floor 10 = .ok (.goto 14, 3) := by decide +kernel
theorem dX8_floor_13 : decode cX8_floor 13 = .ok (.aload_n 0, 1) := by decide +kernel
theorem dX8_floor_14 : decode cX8_floor 14 = .ok (.bipush 9, 2) := by decide +kernel
theorem dX8_floor_16 : decode cX8_floor 16 = .ok (.bipush 8, 2) := by decide +kernel
theorem dX8_floor_18 : decode cX8_floor 18 = .ok (.iload_n 1, 1) := by decide +kernel
theorem dX8_floor_19 : decode cX8_floor 19 = .ok (.imul, 1) := by decide +kernel
theorem dX8_floor_20 : decode cX8_floor 20 = .ok (.iadd, 1) := by decide +kernel
theorem dX8_floor_21 : decode cX8_floor 21 = .ok (.iconst 1, 1) := by decide +kernel
theorem dX8_floor_22 : decode cX8_floor 22 = .ok (.iadd, 1) := by decide +kernel
theorem dX8_floor_23 : decode cX8_floor 23 = .ok (.iaload, 1) := by decide +kernel
theorem dX8_floor_24 : decode cX8_floor 24 = .ok (.ireturn, 1) := by decide +kernel
theorem dX8_roof_0 : decode cX8_roof 0 = .ok (.aload_n 0, 1) := by decide +kernel
theorem dX8_roof_1 : decode cX8_roof 1 = .ok (.iload_n 1, 1) := by decide +kernel
theorem dX8_roof_2 : decode cX8_roof 2 = .ok (.invokestatic 161, 3) := by decide +kernel
theorem dX8_roof_5 : decode cX8_roof 5 = .ok (.iconst 3, 1) := by decide +kernel
theorem dX8_roof_6 : decode cX8_roof 6 = .ok (.if_icmp .ne 21, 3) := by decide +kernel
theorem dX8_roof_9 : decode cX8_roof 9 = .ok (.iload_n 2, 1) := by decide +kernel
theorem dX8_roof_10 : decode cX8_roof 10 = .ok (.ifCond .eq 17, 3) := by decide +kernel
theorem dX8_roof_13 : decode cX8_roof 13 = .ok (.aload_n 0, 1) := by decide +kernel
theorem dX8_roof_14 : decode cX8_roof 14 = .ok (.bipush 9, 2) := by decide +kernel
theorem dX8_roof_16 : decode cX8_roof 16 = .ok (.bipush 8, 2) := by decide +kernel
theorem dX8_roof_18 : decode cX8_roof 18 = .ok (.iload_n 1, 1) := by decide +kernel
theorem dX8_roof_19 : decode cX8_roof 19 = .ok (.imul, 1) := by decide +kernel
theorem dX8_roof_20 : decode cX8_roof 20 = .ok (.iadd, 1) := by decide +kernel
theorem dX8_roof_21 : decode cX8_roof 21 = .ok (.iconst 1, 1) := by decide +kernel
theorem dX8_roof_22 : decode cX8_roof 22 = .ok (.iadd, 1) := by decide +kernel
theorem dX8_roof_23 : decode cX8_roof 23 = .ok (.iaload, 1) := by decide +kernel
theorem dX8_roof_24 : decode cX8_roof 24 = .ok (.goto 14, 3) := by decide +kernel
theorem dX8_roof_27 : decode cX8_roof 27 = .ok (.aload_n 0, 1) := by decide +kernel
theorem dX8_roof_28 : decode cX8_roof 28 = .ok (.bipush 9, 2) := by decide +kernel
theorem dX8_roof_30 : decode cX8_roof 30 = .ok (.bipush 8, 2) := by decide +kernel
theorem dX8_roof_32 : decode cX8_roof 32 = .ok (.iload_n 1, 1) := by decide +kernel
theorem dX8_roof_33 : decode cX8_roof 33 = .ok (.imul, 1) := by decide +kernel
theorem dX8_roof_34 : decode cX8_roof 34 = .ok (.iadd, 1) := by decide +kernel
theorem dX8_roof_35 : decode cX8_roof 35 = .ok (.iconst 2, 1) := by decide +kernel
theorem dX8_roof_36 : decode cX8_roof 36 = .ok (.iadd, 1) := by decide +kernel
theorem dX8_roof_37 : decode cX8_roof 37 = .ok (.iaload, 1) := by decide +kernel
theorem dX8_roof_38 : decode cX8_roof 38 = .ok (.ireturn, 1) := by decide +kernel
theorem dX8_startCost_0 : decode cX8_startCost 0 = .ok (.aload_n 0, 1) := by decide +kernel
theorem dX8_startCost_1 : decode cX8_startCost 1 = .ok (.bipush 9, 2) := by decide +kernel
theorem dX8_startCost_3 : decode cX8_startCost 3 = .ok (.bipush 8, 2) := by decide +kernel
theorem dX8_startCost_5 : decode cX8_startCost 5 = .ok (.iload_n 1, 1) := by decide +kernel
theorem dX8_startCost_6 : decode cX8_startCost 6 = .ok (.imul, 1) := by decide +kernel
theorem dX8_startCost_7 : decode cX8_startCost 7 = .ok (.iadd, 1) := by decide +kernel
theorem dX8_startCost_8 : decode cX8_startCost 8 = .ok (.iconst 4, 1) := by decide +kernel
theorem dX8_startCost_9 : decode cX8_startCost 9 = .ok (.iadd, 1) := by decide +kernel
theorem dX8_startCost_10 : decode cX8_startCost 10 = .ok (.iaload, 1) := by decide +kernel
theorem dX8_startCost_11 : decode cX8_startCost 11 = .ok (.istore_n 2, 1) := by decide +kernel
theorem dX8_startCost_12 : decode cX8_startCost 12 = .ok (.aload_n 0, 1) := by decide +kernel
theorem dX8_startCost_13 : decode cX8_startCost 13 = .ok (.iload_n 1, 1) := by decide +kernel
theorem dX8_startCost_14 : decode cX8_startCost 14 = .ok (.invokestatic 161, 3) := by decide +kernel
theorem dX8_startCost_17 : decode cX8_startCost 17 = .ok (.iconst 4, 1) := by decide +kernel
theorem dX8_startCost_18 : decode cX8_startCost 18 = .ok (.if_icmp .lt 7, 3) := by decide +kernel
theorem dX8_startCost_21 : decode cX8_startCost 21 = .ok (.iconst 0, 1) := by decide +kernel
theorem dX8_startCost_22 : decode cX8_startCost 22 = .ok (.goto 19, 3) := by decide +kernel
theorem dX8_startCost_25 : decode cX8_startCost 25 = .ok (.aload_n 0, 1) := by decide +kernel
theorem dX8_startCost_26 : decode cX8_startCost 26 = .ok (.iload_n 1, 1) := by decide +kernel
theorem dX8_startCost_27 : decode cX8_startCost 27 = .ok (.invokestatic 161, 3) := by decide +kernel
theorem dX8_startCost_30 : decode cX8_startCost 30 = .ok (.iconst 2, 1) := by decide +kernel
theorem dX8_startCost_31 : decode cX8_startCost 31 = .ok (.if_icmp .ne 9, 3) := by decide +kernel
theorem dX8_startCost_34 : decode cX8_startCost 34 = .ok (.iload_n 2, 1) := by decide +kernel
theorem dX8_startCost_35 : decode cX8_startCost 35 = .ok (.iconst 2, 1) := by decide +kernel
theorem dX8_startCost_36 : decode cX8_startCost 36 = .ok (.idiv, 1) := by decide +kernel
theorem dX8_startCost_37 : decode cX8_startCost 37 = .ok (.goto 4, 3) := by decide +kernel
theorem dX8_startCost_40 : decode cX8_startCost 40 = .ok (.iload_n 2, 1) := by decide +kernel
theorem dX8_startCost_41 : decode cX8_startCost 41 = .ok (.ireturn, 1) := by decide +kernel
theorem dX8_starts_0 : decode cX8_starts 0 = .ok (.iload_n 0, 1) := by decide +kernel
theorem dX8_starts_1 : decode cX8_starts 1 = .ok (.iload_n 1, 1) := by decide +kernel
theorem dX8_starts_2 : decode cX8_starts 2 = .ok (.invokestatic 165, 3) := by decide +kernel
theorem dX8_starts_5 : decode cX8_starts 5 = .ok (.ifCond .eq 21, 3) := by decide +kernel
theorem dX8_starts_8 : decode cX8_starts 8 = .ok (.iload_n 1, 1) := by decide +kernel
theorem dX8_starts_9 : decode cX8_starts 9 = .ok (.ifCond .eq 13, 3) := by decide +kernel
theorem dX8_starts_12 : decode cX8_starts 12 = .ok (.iload_n 0, 1) := by decide +kernel
theorem dX8_starts_13 : decode cX8_starts 13 = .ok (.iload_n 1, 1) := by decide +kernel
theorem dX8_starts_14 : decode cX8_starts 14 = .ok (.iconst 1, 1) := by decide +kernel
theorem dX8_starts_15 : decode cX8_starts 15 = .ok (.isub, 1) := by decide +kernel
theorem dX8_starts_16 : decode cX8_starts 16 = .ok (.invokestatic 165, 3) := by decide +kernel
theorem dX8_starts_19 : decode cX8_starts 19 = .ok (.ifCond .ne 7, 3) := by decide +kernel
theorem dX8_starts_22 : decode cX8_starts 22 = .ok (.iconst 1, 1) := by decide +kernel
theorem dX8_starts_23 : decode cX8_starts 23 = .ok (.goto 4, 3) := by decide +kernel
theorem dX8_starts_26 : decode cX8_starts 26 = .ok (.iconst 0, 1) := by decide +kernel
theorem dX8_starts_27 : decode cX8_starts 27 = .ok (.ireturn, 1) := by decide +kernel
theorem dX8_startsOf_0 : decode cX8_startsOf 0 = .ok (.iconst 0, 1) := by decide +kernel
theorem dX8_startsOf_1 : decode cX8_startsOf 1 = .ok (.istore_n 2, 1) := by decide +kernel
theorem dX8_startsOf_2 : decode cX8_startsOf 2 = .ok (.iconst 0, 1) := by decide +kernel
theorem dX8_startsOf_3 : decode cX8_startsOf 3 = .ok (.istore_n 3, 1) := by decide +kernel
theorem dX8_startsOf_4 : decode cX8_startsOf 4 = .ok (.iload_n 3, 1) := by decide +kernel
theorem dX8_startsOf_5 : decode cX8_startsOf 5 = .ok (.aload_n 0, 1) := by decide +kernel
theorem dX8_startsOf_6 : decode cX8_startsOf 6 = .ok (.iconst 1, 1) := by decide +kernel
theorem dX8_startsOf_7 : decode cX8_startsOf 7 = .ok (.iaload, 1) := by decide +kernel
theorem dX8_startsOf_8 : decode cX8_startsOf 8 = .ok (.if_icmp .ge 27, 3) := by decide +kernel
theorem dX8_startsOf_11 : decode cX8_startsOf 11 = .ok (.iload_n 2, 1) := by decide +kernel
theorem dX8_startsOf_12 : decode cX8_startsOf 12 = .ok (.iload_n 1, 1) := by decide +kernel
theorem dX8_startsOf_13 : decode cX8_startsOf 13 = .ok (.iload_n 3, 1) := by decide +kernel
theorem dX8_startsOf_14 : decode cX8_startsOf 14 = .ok (.invokestatic 169, 3) := by decide +kernel
theorem dX8_startsOf_17 : decode cX8_startsOf 17 = .ok (.ifCond .eq 9, 3) := by decide +kernel
theorem dX8_startsOf_20 : decode cX8_startsOf 20 = .ok (.iconst 1, 1) := by decide +kernel
theorem dX8_startsOf_21 : decode cX8_startsOf 21 = .ok (.iload_n 3, 1) := by decide +kernel
theorem dX8_startsOf_22 : decode cX8_startsOf 22 = .ok (.ishl, 1) := by decide +kernel
theorem dX8_startsOf_23 : decode cX8_startsOf 23 = .ok (.goto 4, 3) := by decide +kernel
theorem dX8_startsOf_26 : decode cX8_startsOf 26 = .ok (.iconst 0, 1) := by decide +kernel
theorem dX8_startsOf_27 : decode cX8_startsOf 27 = .ok (.ior, 1) := by decide +kernel
theorem dX8_startsOf_28 : decode cX8_startsOf 28 = .ok (.istore_n 2, 1) := by decide +kernel
theorem dX8_startsOf_29 : decode cX8_startsOf 29 = .ok (.iinc 3 1, 3) := by decide +kernel
theorem dX8_startsOf_32 : decode cX8_startsOf 32 = .ok (.goto (-28), 3) := by decide +kernel
theorem dX8_startsOf_35 : decode cX8_startsOf 35 = .ok (.iload_n 2, 1) := by decide +kernel
theorem dX8_startsOf_36 : decode cX8_startsOf 36 = .ok (.ireturn, 1) := by decide +kernel
theorem dX8_keeps_0 : decode cX8_keeps 0 = .ok (.aload_n 0, 1) := by decide +kernel
theorem dX8_keeps_1 : decode cX8_keeps 1 = .ok (.iload_n 1, 1) := by decide +kernel
theorem dX8_keeps_2 : decode cX8_keeps 2 = .ok (.invokestatic 161, 3) := by decide +kernel
theorem dX8_keeps_5 : decode cX8_keeps 5 = .ok (.iconst 5, 1) := by decide +kernel
theorem dX8_keeps_6 : decode cX8_keeps 6 = .ok (.if_icmp .ne 16, 3) := by decide +kernel
theorem dX8_keeps_9 : decode cX8_keeps 9 = .ok (.iload_n 2, 1) := by decide +kernel
theorem dX8_keeps_10 : decode cX8_keeps 10 = .ok (.iconst 1, 1) := by decide +kernel
theorem dX8_keeps_11 : decode cX8_keeps 11 = .ok (.aload_n 0, 1) := by decide +kernel
theorem dX8_keeps_12 : decode cX8_keeps 12 = .ok (.iconst 1, 1) := by decide +kernel
theorem dX8_keeps_13 : decode cX8_keeps 13 = .ok (.iaload, 1) := by decide +kernel
theorem dX8_keeps_14 : decode cX8_keeps 14 = .ok (.ishl, 1) := by decide +kernel
theorem dX8_keeps_15 : decode cX8_keeps 15 = .ok (.iconst 1, 1) := by decide +kernel
theorem dX8_keeps_16 : decode cX8_keeps 16 = .ok (.isub, 1) := by decide +kernel
theorem dX8_keeps_17 : decode cX8_keeps 17 = .ok (.if_icmp .eq 5, 3) := by decide +kernel
theorem dX8_keeps_20 : decode cX8_keeps 20 = .ok (.iconst 0, 1) := by decide +kernel
theorem dX8_keeps_21 : decode cX8_keeps 21 = .ok (.ireturn, 1) := by decide +kernel
theorem dX8_keeps_22 : decode cX8_keeps 22 = .ok (.iconst 1, 1) := by decide +kernel
theorem dX8_keeps_23 : decode cX8_keeps 23 = .ok (.istore_n 3, 1) := by decide +kernel
theorem dX8_keeps_24 : decode cX8_keeps 24 = .ok (.iconst 0, 1) := by decide +kernel
theorem dX8_keeps_25 : decode cX8_keeps 25 = .ok (.istore 4, 2) := by decide +kernel
theorem dX8_keeps_27 : decode cX8_keeps 27 = .ok (.aload_n 0, 1) := by decide +kernel
theorem dX8_keeps_28 : decode cX8_keeps 28 = .ok (.bipush 9, 2) := by decide +kernel
theorem dX8_keeps_30 : decode cX8_keeps 30 = .ok (.bipush 8, 2) := by decide +kernel
theorem dX8_keeps_32 : decode cX8_keeps 32 = .ok (.iload_n 1, 1) := by decide +kernel
theorem dX8_keeps_33 : decode cX8_keeps 33 = .ok (.imul, 1) := by decide +kernel
theorem dX8_keeps_34 : decode cX8_keeps 34 = .ok (.iadd, 1) := by decide +kernel
theorem dX8_keeps_35 : decode cX8_keeps 35 = .ok (.bipush 6, 2) := by decide +kernel
theorem dX8_keeps_37 : decode cX8_keeps 37 = .ok (.iadd, 1) := by decide +kernel
theorem dX8_keeps_38 : decode cX8_keeps 38 = .ok (.iaload, 1) := by decide +kernel
theorem dX8_keeps_39 : decode cX8_keeps 39 = .ok (.istore 5, 2) := by decide +kernel
theorem dX8_keeps_41 : decode cX8_keeps 41 = .ok (.iconst 0, 1) := by decide +kernel
theorem dX8_keeps_42 : decode cX8_keeps 42 = .ok (.istore 6, 2) := by decide +kernel
theorem dX8_keeps_44 : decode cX8_keeps 44 = .ok (.iload 6, 2) := by decide +kernel
theorem dX8_keeps_46 : decode cX8_keeps 46 = .ok (.aload_n 0, 1) := by decide +kernel
theorem dX8_keeps_47 : decode cX8_keeps 47 = .ok (.iconst 1, 1) := by decide +kernel
theorem dX8_keeps_48 : decode cX8_keeps 48 = .ok (.iaload, 1) := by decide +kernel
theorem dX8_keeps_49 : decode cX8_keeps 49 = .ok (.if_icmp .ge 96, 3) := by decide +kernel
theorem dX8_keeps_52 : decode cX8_keeps 52 = .ok (.iload_n 2, 1) := by decide +kernel
theorem dX8_keeps_53 : decode cX8_keeps 53 = .ok (.iload 6, 2) := by decide +kernel
theorem dX8_keeps_55 : decode cX8_keeps 55 = .ok (.invokestatic 165, 3) := by decide +kernel
theorem dX8_keeps_58 : decode cX8_keeps 58 = .ok (.ifCond .eq 44, 3) := by decide +kernel
theorem dX8_keeps_61 : decode cX8_keeps 61 = .ok (.iload_n 3, 1) := by decide +kernel
theorem dX8_keeps_62 : decode cX8_keeps 62 = .ok (.ifCond .eq 29, 3) := by decide +kernel
theorem dX8_keeps_65 : decode cX8_keeps 65 = .ok (.iload 4, 2) := by decide +kernel
theorem dX8_keeps_67 : decode cX8_keeps 67 = .ok (.ifCond .gt 20, 3) := by decide +kernel
theorem dX8_keeps_70 : decode cX8_keeps 70 = .ok (.iload 5, 2) := by decide +kernel
theorem dX8_keeps_72 : decode cX8_keeps 72 = .ok (.aload_n 0, 1) := by decide +kernel
theorem dX8_keeps_73 : decode cX8_keeps 73 = .ok (.bipush 9, 2) := by decide +kernel
theorem dX8_keeps_75 : decode cX8_keeps 75 = .ok (.bipush 8, 2) := by decide +kernel
theorem dX8_keeps_77 : decode cX8_keeps 77 = .ok (.iload_n 1, 1) := by decide +kernel
theorem dX8_keeps_78 : decode cX8_keeps 78 = .ok (.imul, 1) := by decide +kernel
theorem dX8_keeps_79 : decode cX8_keeps 79 = .ok (.iadd, 1) := by decide +kernel
theorem dX8_keeps_80 : decode cX8_keeps 80 = .ok (.bipush 6, 2) := by decide +kernel
theorem dX8_keeps_82 : decode cX8_keeps 82 = .ok (.iadd, 1) := by decide +kernel
theorem dX8_keeps_83 : decode cX8_keeps 83 = .ok (.iaload, 1) := by decide +kernel
theorem dX8_keeps_84 : decode cX8_keeps 84 = .ok (.if_icmp .lt 7, 3) := by decide +kernel
theorem dX8_keeps_87 : decode cX8_keeps 87 = .ok (.iconst 1, 1) := by decide +kernel
theorem dX8_keeps_88 : decode cX8_keeps 88 = .ok (.goto 4, 3) := by decide +kernel
theorem dX8_keeps_91 : decode cX8_keeps 91 = .ok (.iconst 0, 1) := by decide +kernel
theorem dX8_keeps_92 : decode cX8_keeps 92 = .ok (.istore_n 3, 1) := by decide +kernel
theorem dX8_keeps_93 : decode cX8_keeps 93 = .ok (.iinc 4 1, 3) := by decide +kernel
theorem dX8_keeps_96 : decode cX8_keeps 96 = .ok (.iconst 0, 1) := by decide +kernel
theorem dX8_keeps_97 : decode cX8_keeps 97 = .ok (.istore 5, 2) := by decide +kernel
theorem dX8_keeps_99 : decode cX8_keeps 99 = .ok (.goto 40, 3) := by decide +kernel
theorem dX8_keeps_102 : decode cX8_keeps 102 = .ok (.iload_n 3, 1) := by decide +kernel
theorem dX8_keeps_103 : decode cX8_keeps 103 = .ok (.ifCond .eq 28, 3) := by decide +kernel
theorem dX8_keeps_106 : decode cX8_keeps 106 = .ok (.iload 4, 2) := by decide +kernel
theorem dX8_keeps_108 : decode cX8_keeps 108 = .ok (.ifCond .eq 19, 3) := by decide +kernel
theorem dX8_keeps_111 : decode cX8_keeps 111 = .ok (.iload 4, 2) := by decide +kernel
theorem dX8_keeps_113 : decode cX8_keeps 113 = .ok (.aload_n 0, 1) := by decide +kernel
theorem dX8_keeps_114 : decode cX8_keeps 114 = .ok (.bipush 9, 2) := by decide +kernel
theorem dX8_keeps_116 : decode cX8_keeps 116 = .ok (.bipush 8, 2) := by decide +kernel
theorem dX8_keeps_118 : decode cX8_keeps 118 = .ok (.iload_n 1, 1) := by decide +kernel
theorem dX8_keeps_119 : decode cX8_keeps 119 = .ok (.imul, 1) := by decide +kernel
theorem dX8_keeps_120 : decode cX8_keeps 120 = .ok (.iadd, 1) := by decide +kernel
theorem dX8_keeps_121 : decode cX8_keeps 121 = .ok (.iconst 5, 1) := by decide +kernel
theorem dX8_keeps_122 : decode cX8_keeps 122 = .ok (.iadd, 1) := by decide +kernel
theorem dX8_keeps_123 : decode cX8_keeps 123 = .ok (.iaload, 1) := by decide +kernel
theorem dX8_keeps_124 : decode cX8_keeps 124 = .ok (.if_icmp .lt 7, 3) := by decide +kernel
theorem dX8_keeps_127 : decode cX8_keeps 127 = .ok (.iconst 1, 1) := by decide +kernel
theorem dX8_keeps_128 : decode cX8_keeps 128 = .ok (.goto 4, 3) := by decide +kernel
theorem dX8_keeps_131 : decode cX8_keeps 131 = .ok (.iconst 0, 1) := by decide +kernel
theorem dX8_keeps_132 : decode cX8_keeps 132 = .ok (.istore_n 3, 1) := by decide +kernel
theorem dX8_keeps_133 : decode cX8_keeps 133 = .ok (.iconst 0, 1) := by decide +kernel
theorem dX8_keeps_134 : decode cX8_keeps 134 = .ok (.istore 4, 2) := by decide +kernel
theorem dX8_keeps_136 : decode cX8_keeps 136 = .ok (.iinc 5 1, 3) := by decide +kernel
theorem dX8_keeps_139 : decode cX8_keeps 139 = .ok (.iinc 6 1, 3) := by decide +kernel
theorem dX8_keeps_142 : decode cX8_keeps 142 = .ok (.goto (-98), 3) := by decide +kernel
theorem dX8_keeps_145 : decode cX8_keeps 145 = .ok (.iload_n 3, 1) := by decide +kernel
theorem dX8_keeps_146 : decode cX8_keeps 146 = .ok (.ireturn, 1) := by decide +kernel
theorem dX8_sumOf_0 : decode cX8_sumOf 0 = .ok (.iconst 0, 1) := by decide +kernel
theorem dX8_sumOf_1 : decode cX8_sumOf 1 = .ok (.istore 4, 2) := by decide +kernel
theorem dX8_sumOf_3 : decode cX8_sumOf 3 = .ok (.iconst 0, 1) := by decide +kernel
theorem dX8_sumOf_4 : decode cX8_sumOf 4 = .ok (.istore 5, 2) := by decide +kernel
theorem dX8_sumOf_6 : decode cX8_sumOf 6 = .ok (.iload 5, 2) := by decide +kernel
theorem dX8_sumOf_8 : decode cX8_sumOf 8 = .ok (.aload_n 0, 1) := by decide +kernel
theorem dX8_sumOf_9 : decode cX8_sumOf 9 = .ok (.iconst 0, 1) := by decide +kernel
theorem dX8_sumOf_10 : decode cX8_sumOf 10 = .ok (.iaload, 1) := by decide +kernel
theorem dX8_sumOf_11 : decode cX8_sumOf 11 = .ok (.if_icmp .ge 52, 3) := by decide +kernel
theorem dX8_sumOf_14 : decode cX8_sumOf 14 = .ok (.iload 4, 2) := by decide +kernel
theorem dX8_sumOf_16 : decode cX8_sumOf 16 = .ok (.iload_n 1, 1) := by decide +kernel
theorem dX8_sumOf_17 : decode cX8_sumOf 17 = .ok (.iload 5, 2) := by decide +kernel
theorem dX8_sumOf_19 : decode cX8_sumOf 19 = .ok (.invokestatic 165, 3) := by decide +kernel
theorem dX8_sumOf_22 : decode cX8_sumOf 22 = .ok (.ifCond .ne 7, 3) := by decide +kernel
theorem dX8_sumOf_25 : decode cX8_sumOf 25 = .ok (.iconst 0, 1) := by decide +kernel
theorem dX8_sumOf_26 : decode cX8_sumOf 26 = .ok (.goto 28, 3) := by decide +kernel
theorem dX8_sumOf_29 : decode cX8_sumOf 29 = .ok (.iload_n 3, 1) := by decide +kernel
theorem dX8_sumOf_30 : decode cX8_sumOf 30 = .ok (.ifCond .ne 12, 3) := by decide +kernel
theorem dX8_sumOf_33 : decode cX8_sumOf 33 = .ok (.aload_n 0, 1) := by decide +kernel
theorem dX8_sumOf_34 : decode cX8_sumOf 34 = .ok (.iload 5, 2) := by decide +kernel
theorem dX8_sumOf_36 : decode cX8_sumOf 36 = .ok (.invokestatic 172, 3) := by decide +kernel
theorem dX8_sumOf_39 : decode cX8_sumOf 39 = .ok (.goto 15, 3) := by decide +kernel
theorem dX8_sumOf_42 : decode cX8_sumOf 42 = .ok (.aload_n 0, 1) := by decide +kernel
theorem dX8_sumOf_43 : decode cX8_sumOf 43 = .ok (.iload 5, 2) := by decide +kernel
theorem dX8_sumOf_45 : decode cX8_sumOf 45 = .ok (.iload_n 2, 1) := by decide +kernel
theorem dX8_sumOf_46 : decode cX8_sumOf 46 = .ok (.iload 5, 2) := by decide +kernel
theorem dX8_sumOf_48 : decode cX8_sumOf 48 = .ok (.invokestatic 165, 3) := by decide +kernel
theorem dX8_sumOf_51 : decode cX8_sumOf 51 = .ok (.invokestatic 175, 3) := by decide +kernel
theorem dX8_sumOf_54 : decode cX8_sumOf 54 = .ok (.iadd, 1) := by decide +kernel
theorem dX8_sumOf_55 : decode cX8_sumOf 55 = .ok (.istore 4, 2) := by decide +kernel
theorem dX8_sumOf_57 : decode cX8_sumOf 57 = .ok (.iinc 5 1, 3) := by decide +kernel
theorem dX8_sumOf_60 : decode cX8_sumOf 60 = .ok (.goto (-54), 3) := by decide +kernel
theorem dX8_sumOf_63 : decode cX8_sumOf 63 = .ok (.iload 4, 2) := by decide +kernel
theorem dX8_sumOf_65 : decode cX8_sumOf 65 = .ok (.ireturn, 1) := by decide +kernel
theorem dX8_isMet_0 : decode cX8_isMet 0 = .ok (.aload_n 0, 1) := by decide +kernel
theorem dX8_isMet_1 : decode cX8_isMet 1 = .ok (.iload_n 2, 1) := by decide +kernel
theorem dX8_isMet_2 : decode cX8_isMet 2 = .ok (.iload_n 3, 1) := by decide +kernel
theorem dX8_isMet_3 : decode cX8_isMet 3 = .ok (.iconst 0, 1) := by decide +kernel
theorem dX8_isMet_4 : decode cX8_isMet 4 = .ok (.invokestatic 179, 3) := by decide +kernel
theorem dX8_isMet_7 : decode cX8_isMet 7 = .ok (.aload_n 0, 1) := by decide +kernel
theorem dX8_isMet_8 : decode cX8_isMet 8 = .ok (.iconst 3, 1) := by decide +kernel
theorem dX8_isMet_9 : decode cX8_isMet 9 = .ok (.iload_n 1, 1) := by decide +kernel
theorem dX8_isMet_10 : decode cX8_isMet 10 = .ok (.iadd, 1) := by decide +kernel
theorem dX8_isMet_11 : decode cX8_isMet 11 = .ok (.iaload, 1) := by decide +kernel
theorem dX8_isMet_12 : decode cX8_isMet 12 = .ok (.if_icmp .gt 26, 3) := by decide +kernel
theorem dX8_isMet_15 : decode cX8_isMet 15 = .ok (.aload_n 0, 1) := by decide +kernel
theorem dX8_isMet_16 : decode cX8_isMet 16 = .ok (.iload_n 2, 1) := by decide +kernel
theorem dX8_isMet_17 : decode cX8_isMet 17 = .ok (.iload_n 3, 1) := by decide +kernel
theorem dX8_isMet_18 : decode cX8_isMet 18 = .ok (.iconst 1, 1) := by decide +kernel
theorem dX8_isMet_19 : decode cX8_isMet 19 = .ok (.invokestatic 179, 3) := by decide +kernel
theorem dX8_isMet_22 : decode cX8_isMet 22 = .ok (.aload_n 0, 1) := by decide +kernel
theorem dX8_isMet_23 : decode cX8_isMet 23 = .ok (.iconst 3, 1) := by decide +kernel
theorem dX8_isMet_24 : decode cX8_isMet 24 = .ok (.iload_n 1, 1) := by decide +kernel
theorem dX8_isMet_25 : decode cX8_isMet 25 = .ok (.iadd, 1) := by decide +kernel
theorem dX8_isMet_26 : decode cX8_isMet 26 = .ok (.iaload, 1) := by decide +kernel
theorem dX8_isMet_27 : decode cX8_isMet 27 = .ok (.aload_n 0, 1) := by decide +kernel
theorem dX8_isMet_28 : decode cX8_isMet 28 = .ok (.iconst 2, 1) := by decide +kernel
theorem dX8_isMet_29 : decode cX8_isMet 29 = .ok (.iaload, 1) := by decide +kernel
theorem dX8_isMet_30 : decode cX8_isMet 30 = .ok (.iadd, 1) := by decide +kernel
theorem dX8_isMet_31 : decode cX8_isMet 31 = .ok (.if_icmp .lt 7, 3) := by decide +kernel
theorem dX8_isMet_34 : decode cX8_isMet 34 = .ok (.iconst 1, 1) := by decide +kernel
theorem dX8_isMet_35 : decode cX8_isMet 35 = .ok (.goto 4, 3) := by decide +kernel
theorem dX8_isMet_38 : decode cX8_isMet 38 = .ok (.iconst 0, 1) := by decide +kernel
theorem dX8_isMet_39 : decode cX8_isMet 39 = .ok (.ireturn, 1) := by decide +kernel
theorem dX8_shares_0 : decode cX8_shares 0 = .ok (.aload_n 1, 1) := by decide +kernel
theorem dX8_shares_1 : decode cX8_shares 1 = .ok (.iconst 3, 1) := by decide +kernel
theorem dX8_shares_2 : decode cX8_shares 2 = .ok (.iload_n 2, 1) := by decide +kernel
theorem dX8_shares_3 : decode cX8_shares 3 = .ok (.iadd, 1) := by decide +kernel
theorem dX8_shares_4 : decode cX8_shares 4 = .ok (.iaload, 1) := by decide +kernel
theorem dX8_shares_5 : decode cX8_shares 5 = .ok (.aload_n 1, 1) := by decide +kernel
theorem dX8_shares_6 : decode cX8_shares 6 = .ok (.iload_n 3, 1) := by decide +kernel
theorem dX8_shares_7 : decode cX8_shares 7 = .ok (.iload 4, 2) := by decide +kernel
theorem dX8_shares_9 : decode cX8_shares 9 = .ok (.iconst 0, 1) := by decide +kernel
theorem dX8_shares_10 : decode cX8_shares 10 = .ok (.invokestatic 179, 3) := by decide +kernel
theorem dX8_shares_13 : decode cX8_shares 13 = .ok (.isub, 1) := by decide +kernel
theorem dX8_shares_14 : decode cX8_shares 14 = .ok (.istore 5, 2) := by decide +kernel
theorem dX8_shares_16 : decode cX8_shares 16 = .ok (.iconst 0, 1) := by decide +kernel
theorem dX8_shares_17 : decode cX8_shares 17 = .ok (.istore 6, 2) := by decide +kernel
theorem dX8_shares_19 : decode cX8_shares 19 = .ok (.iconst 0, 1) := by decide +kernel
theorem dX8_shares_20 : decode cX8_shares 20 = .ok (.istore 7, 2) := by decide +kernel
theorem dX8_shares_22 : decode cX8_shares 22 = .ok (.iload 7, 2) := by decide +kernel
theorem dX8_shares_24 : decode cX8_shares 24 = .ok (.aload_n 1, 1) := by decide +kernel
theorem dX8_shares_25 : decode cX8_shares 25 = .ok (.iconst 0, 1) := by decide +kernel
theorem dX8_shares_26 : decode cX8_shares 26 = .ok (.iaload, 1) := by decide +kernel
theorem dX8_shares_27 : decode cX8_shares 27 = .ok (.if_icmp .ge 60, 3) := by decide +kernel
theorem dX8_shares_30 : decode cX8_shares 30 = .ok (.aload_n 0, 1) := by decide +kernel
theorem dX8_shares_31 : decode cX8_shares 31 = .ok (.getfield 44, 3) := by decide +kernel
theorem dX8_shares_34 : decode cX8_shares 34 = .ok (.iload 7, 2) := by decide +kernel
theorem dX8_shares_36 : decode cX8_shares 36 = .ok (.iload_n 3, 1) := by decide +kernel
theorem dX8_shares_37 : decode cX8_shares 37 = .ok (.iload 7, 2) := by decide +kernel
theorem dX8_shares_39 : decode cX8_shares 39 = .ok (.invokestatic 165, 3) := by decide +kernel
theorem dX8_shares_42 : decode cX8_shares 42 = .ok (.ifCond .eq 12, 3) := by decide +kernel
theorem dX8_shares_45 : decode cX8_shares 45 = .ok (.aload_n 1, 1) := by decide +kernel
theorem dX8_shares_46 : decode cX8_shares 46 = .ok (.iload 7, 2) := by decide +kernel
theorem dX8_shares_48 : decode cX8_shares 48 = .ok (.invokestatic 172, 3) := by decide +kernel
theorem dX8_shares_51 : decode cX8_shares 51 = .ok (.goto 4, 3) := by decide +kernel
theorem dX8_shares_54 : decode cX8_shares 54 = .ok (.iconst 0, 1) := by decide +kernel
theorem dX8_shares_55 : decode cX8_shares 55 = .ok (.iastore, 1) := by decide +kernel
theorem dX8_shares_56 : decode cX8_shares 56 = .ok (.iload 6, 2) := by decide +kernel
theorem dX8_shares_58 : decode cX8_shares 58 = .ok (.iload 4, 2) := by decide +kernel
theorem dX8_shares_60 : decode cX8_shares 60 = .ok (.iload 7, 2) := by decide +kernel
theorem dX8_shares_62 : decode cX8_shares 62 = .ok (.invokestatic 165, 3) := by decide +kernel
theorem dX8_shares_65 : decode cX8_shares 65 = .ok (.ifCond .eq 12, 3) := by decide +kernel
theorem dX8_shares_68 : decode cX8_shares 68 = .ok (.aload_n 1, 1) := by decide +kernel
theorem dX8_shares_69 : decode cX8_shares 69 = .ok (.iload 7, 2) := by decide +kernel
theorem dX8_shares_71 : decode cX8_shares 71 = .ok (.invokestatic 183, 3) := by decide +kernel
theorem dX8_shares_74 : decode cX8_shares 74 = .ok (.goto 4, 3) := by decide +kernel
theorem dX8_shares_77 : decode cX8_shares 77 = .ok (.iconst 0, 1) := by decide +kernel
theorem dX8_shares_78 : decode cX8_shares 78 = .ok (.iadd, 1) := by decide +kernel
theorem dX8_shares_79 : decode cX8_shares 79 = .ok (.istore 6, 2) := by decide +kernel
theorem dX8_shares_81 : decode cX8_shares 81 = .ok (.iinc 7 1, 3) := by decide +kernel
theorem dX8_shares_84 : decode cX8_shares 84 = .ok (.goto (-62), 3) := by decide +kernel
theorem dX8_shares_87 : decode cX8_shares 87 = .ok (.iconst 1, 1) := by decide +kernel
theorem dX8_shares_88 : decode cX8_shares 88 = .ok (.istore 7, 2) := by decide +kernel
theorem dX8_shares_90 : decode cX8_shares 90 = .ok (.iload 7, 2) := by decide +kernel
theorem dX8_shares_92 : decode cX8_shares 92 = .ok (.bipush 10, 2) := by decide +kernel
theorem dX8_shares_94 : decode cX8_shares 94 = .ok (.if_icmp .ge 125, 3) := by decide +kernel
theorem dX8_shares_97 : decode cX8_shares 97 = .ok (.iconst 0, 1) := by decide +kernel
theorem dX8_shares_98 : decode cX8_shares 98 = .ok (.istore 8, 2) := by decide +kernel
theorem dX8_shares_100 : decode cX8_shares 100 = .ok (.iload 8, 2) := by decide +kernel
theorem dX8_shares_102 : decode cX8_shares 102 = .ok (.aload_n 1, 1) := by decide +kernel
theorem dX8_shares_103 : decode cX8_shares 103 = .ok (.iconst 0, 1) := by decide +kernel
theorem dX8_shares_104 : decode cX8_shares 104 = .ok (.iaload, 1) := by decide +kernel
theorem dX8_shares_105 : decode cX8_shares 105 = .ok (.if_icmp .ge 108, 3) := by decide +kernel
theorem dX8_shares_108 : decode cX8_shares 108 = .ok (.iload_n 3, 1) := by decide +kernel
theorem dX8_shares_109 : decode cX8_shares 109 = .ok (.iload 8, 2) := by decide +kernel
theorem dX8_shares_111 : decode cX8_shares 111 = .ok (.invokestatic 165, 3) := by decide +kernel
theorem dX8_shares_114 : decode cX8_shares 114 = .ok (.ifCond .eq 93, 3) := by decide +kernel
theorem dX8_shares_117 : decode cX8_shares 117 = .ok (.aload_n 1, 1) := by decide +kernel
theorem dX8_shares_118 : decode cX8_shares 118 = .ok (.bipush 9, 2) := by decide +kernel
theorem dX8_shares_120 : decode cX8_shares 120 = .ok (.bipush 8, 2) := by decide +kernel
theorem dX8_shares_122 : decode cX8_shares 122 = .ok (.iload 8, 2) := by decide +kernel
theorem dX8_shares_124 : decode cX8_shares 124 = .ok (.imul, 1) := by decide +kernel
theorem dX8_shares_125 : decode cX8_shares 125 = .ok (.iadd, 1) := by decide +kernel
theorem dX8_shares_126 : decode cX8_shares 126 = .ok (.iconst 3, 1) := by decide +kernel
theorem dX8_shares_127 : decode cX8_shares 127 = .ok (.iadd, 1) := by decide +kernel
theorem dX8_shares_128 : decode cX8_shares 128 = .ok (.iaload, 1) := by decide +kernel
theorem dX8_shares_129 : decode cX8_shares 129 = .ok (.iload 7, 2) := by decide +kernel
theorem dX8_shares_131 : decode cX8_shares 131 = .ok (.if_icmp .ne 76, 3) := by decide +kernel
theorem dX8_shares_134 : decode cX8_shares 134 = .ok (.aload_n 1, 1) := by decide +kernel
theorem dX8_shares_135 : decode cX8_shares 135 = .ok (.iload 8, 2) := by decide +kernel
theorem dX8_shares_137 : decode cX8_shares 137 = .ok (.iload 4, 2) := by decide +kernel
theorem dX8_shares_139 : decode cX8_shares 139 = .ok (.iload 8, 2) := by decide +kernel
theorem dX8_shares_141 : decode cX8_shares 141 = .ok (.invokestatic 165, 3) := by decide +kernel
theorem dX8_shares_144 : decode cX8_shares 144 = .ok (.invokestatic 175, 3) := by decide +kernel
theorem dX8_shares_147 : decode cX8_shares 147 = .ok (.aload_n 0, 1) := by decide +kernel
theorem dX8_shares_148 : decode cX8_shares 148 = .ok (.getfield 44, 3) := by decide +kernel
theorem dX8_shares_151 : decode cX8_shares 151 = .ok (.iload 8, 2) := by decide +kernel
theorem dX8_shares_153 : decode cX8_shares 153 = .ok (.iaload, 1) := by decide +kernel
theorem dX8_shares_154 : decode cX8_shares 154 = .ok (.isub, 1) := by decide +kernel
theorem dX8_shares_155 : decode cX8_shares 155 = .ok (.istore 9, 2) := by decide +kernel
theorem dX8_shares_157 : decode cX8_shares 157 = .ok (.iload 9, 2) := by decide +kernel
theorem dX8_shares_159 : decode cX8_shares 159 = .ok (.iload 5, 2) := by decide +kernel
theorem dX8_shares_161 : decode cX8_shares 161 = .ok (.if_icmp .ge 8, 3) := by decide +kernel
theorem dX8_shares_164 : decode cX8_shares 164 = .ok (.iload 9, 2) := by decide +kernel
theorem dX8_shares_166 : decode cX8_shares 166 = .ok (.goto 5, 3) := by decide +kernel
theorem dX8_shares_169 : decode cX8_shares 169 = .ok (.iload 5, 2) := by decide +kernel
theorem dX8_shares_171 : decode cX8_shares 171 = .ok (.istore 10, 2) := by decide +kernel
theorem dX8_shares_173 : decode cX8_shares 173 = .ok (.aload_n 0, 1) := by decide +kernel
theorem dX8_shares_174 : decode cX8_shares 174 = .ok (.getfield 44, 3) := by decide +kernel
theorem dX8_shares_177 : decode cX8_shares 177 = .ok (.iload 8, 2) := by decide +kernel
theorem dX8_shares_179 : decode cX8_shares 179 = .ok (.dup2, 1) := by decide +kernel
theorem dX8_shares_180 : decode cX8_shares 180 = .ok (.iaload, 1) := by decide +kernel
theorem dX8_shares_181 : decode cX8_shares 181 = .ok (.iload 10, 2) := by decide +kernel
theorem dX8_shares_183 : decode cX8_shares 183 = .ok (.iadd, 1) := by decide +kernel
theorem dX8_shares_184 : decode cX8_shares 184 = .ok (.iastore, 1) := by decide +kernel
theorem dX8_shares_185 : decode cX8_shares 185 = .ok (.iload 5, 2) := by decide +kernel
theorem dX8_shares_187 : decode cX8_shares 187 = .ok (.iload 10, 2) := by decide +kernel
theorem dX8_shares_189 : decode cX8_shares 189 = .ok (.isub, 1) := by decide +kernel
theorem dX8_shares_190 : decode cX8_shares 190 = .ok (.istore 5, 2) := by decide +kernel
theorem dX8_shares_192 : decode cX8_shares 192 = .ok (.iload 6, 2) := by decide +kernel
theorem dX8_shares_194 : decode cX8_shares 194 = .ok (.aload_n 0, 1) := by decide +kernel
theorem dX8_shares_195 : decode cX8_shares 195 = .ok (.getfield 44, 3) := by decide +kernel
theorem dX8_shares_198 : decode cX8_shares 198 = .ok (.iload 8, 2) := by decide +kernel
theorem dX8_shares_200 : decode cX8_shares 200 = .ok (.iaload, 1) := by decide +kernel
theorem dX8_shares_201 : decode cX8_shares 201 = .ok (.iload 7, 2) := by decide +kernel
theorem dX8_shares_203 : decode cX8_shares 203 = .ok (.imul, 1) := by decide +kernel
theorem dX8_shares_204 : decode cX8_shares 204 = .ok (.iadd, 1) := by decide +kernel
theorem dX8_shares_205 : decode cX8_shares 205 = .ok (.istore 6, 2) := by decide +kernel
theorem dX8_shares_207 : decode cX8_shares 207 = .ok (.iinc 8 1, 3) := by decide +kernel
theorem dX8_shares_210 : decode cX8_shares 210 = .ok (.goto (-110), 3) := by decide +kernel
theorem dX8_shares_213 : decode cX8_shares 213 = .ok (.iinc 7 1, 3) := by decide +kernel
theorem dX8_shares_216 : decode cX8_shares 216 = .ok (.goto (-126), 3) := by decide +kernel
theorem dX8_shares_219 : decode cX8_shares 219 = .ok (.iload 6, 2) := by decide +kernel
