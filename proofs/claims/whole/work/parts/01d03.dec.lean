theorem dX7_plan_69 : decode cX7_plan 69 = .ok (.getfield 26, 3) := by decide +kernel
theorem dX7_plan_72 : decode cX7_plan 72 = .ok (.invokevirtual 257, 3) := by decide +kernel
theorem dX7_plan_75 : decode cX7_plan 75 = .ok (.ireturn, 1) := by decide +kernel
theorem dX7_plan_76 : decode cX7_plan 76 = .ok (.aload_n 0, 1) := by decide +kernel
theorem dX7_plan_77 : decode cX7_plan 77 = .ok (.getfield 26, 3) := by decide +kernel
theorem dX7_plan_80 : decode cX7_plan 80 = .ok (.getfield 184, 3) := by decide +kernel
theorem dX7_plan_83 : decode cX7_plan 83 = .ok (.ireturn, 1) := by decide +kernel
theorem dX7_plan_84 : decode cX7_plan 84 = .ok (.ldc 69, 2) := by decide +kernel
theorem dX7_plan_86 : decode cX7_plan 86 = .ok (.ireturn, 1) := by decide +kernel
theorem dX7_best_0 : decode cX7_best 0 = .ok (.aload_n 0, 1) := by decide +kernel
theorem dX7_best_1 : decode cX7_best 1 = .ok (.invokevirtual 162, 3) := by decide +kernel
theorem dX7_best_4 : decode cX7_best 4 = .ok (.ifCond .eq 6, 3) := by decide +kernel
theorem dX7_best_7 : decode cX7_best 7 = .ok (.ldc 158, 2) := by decide +kernel
theorem dX7_best_9 : decode cX7_best 9 = .ok (.ireturn, 1) := by decide +kernel
theorem dX7_best_10 : decode cX7_best 10 = .ok (.iload_n 1, 1) := by decide +kernel
theorem dX7_best_11 : decode cX7_best 11 = .ok (.iconst (-1), 1) := by decide +kernel
theorem dX7_best_12 : decode cX7_best 12 = .ok (.if_icmp .lt 14, 3) := by decide +kernel
theorem dX7_best_15 : decode cX7_best 15 = .ok (.iload_n 1, 1) := by decide +kernel
theorem dX7_best_16 : decode cX7_best 16 = .ok (.aload_n 0, 1) := by decide +kernel
theorem dX7_best_17 : decode cX7_best 17 = .ok (.getfield 26, 3) := by decide +kernel
theorem dX7_best_20 : decode cX7_best 20 = .ok (.getfield 260, 3) := by decide +kernel
theorem dX7_best_23 : decode cX7_best 23 = .ok (.if_icmp .lt 6, 3) := by decide +kernel
theorem dX7_best_26 : decode cX7_best 26 = .ok (.ldc 69, 2) := by decide +kernel
theorem dX7_best_28 : decode cX7_best 28 = .ok (.ireturn, 1) := by decide +kernel
theorem dX7_best_29 : decode cX7_best 29 = .ok (.aload_n 0, 1) := by decide +kernel
theorem dX7_best_30 : decode cX7_best 30 = .ok (.invokevirtual 165, 3) := by decide +kernel
theorem dX7_best_33 : decode cX7_best 33 = .ok (.lstore_n 2, 1) := by decide +kernel
theorem dX7_best_34 : decode cX7_best 34 = .ok (.lload_n 2, 1) := by decide +kernel
theorem dX7_best_35 : decode cX7_best 35 = .ok (.lconst 0, 1) := by decide +kernel
theorem dX7_best_36 : decode cX7_best 36 = .ok (.lcmp, 1) := by decide +kernel
theorem dX7_best_37 : decode cX7_best 37 = .ok (.ifCond .ge 6, 3) := by decide +kernel
theorem dX7_best_40 : decode cX7_best 40 = .ok (.ldc 169, 2) := by decide +kernel
theorem dX7_best_42 : decode cX7_best 42 = .ok (.ireturn, 1) := by decide +kernel
theorem dX7_best_43 : decode cX7_best 43 = .ok (.iload_n 1, 1) := by decide +kernel
theorem dX7_best_44 : decode cX7_best 44 = .ok (.ifCond .ge 10, 3) := by decide +kernel
theorem dX7_best_47 : decode cX7_best 47 = .ok (.lload_n 2, 1) := by decide +kernel
theorem dX7_best_48 : decode cX7_best 48 = .ok (.invokestatic 174, 3) := by decide +kernel
theorem dX7_best_51 : decode cX7_best 51 = .ok (.goto 8, 3) := by decide +kernel
theorem dX7_best_54 : decode cX7_best 54 = .ok (.lload_n 2, 1) := by decide +kernel
theorem dX7_best_55 : decode cX7_best 55 = .ok (.iload_n 1, 1) := by decide +kernel
theorem dX7_best_56 : decode cX7_best 56 = .ok (.invokestatic 263, 3) := by decide +kernel
theorem dX7_best_59 : decode cX7_best 59 = .ok (.ireturn, 1) := by decide +kernel
theorem dX7_alone_0 : decode cX7_alone 0 = .ok (.aload_n 0, 1) := by decide +kernel
theorem dX7_alone_1 : decode cX7_alone 1 = .ok (.iload_n 1, 1) := by decide +kernel
theorem dX7_alone_2 : decode cX7_alone 2 = .ok (.invokevirtual 148, 3) := by decide +kernel
theorem dX7_alone_5 : decode cX7_alone 5 = .ok (.ifCond .ne 30, 3) := by decide +kernel
theorem dX7_alone_8 : decode cX7_alone 8 = .ok (.aload_n 0, 1) := by decide +kernel
theorem dX7_alone_9 : decode cX7_alone 9 = .ok (.iload_n 2, 1) := by decide +kernel
theorem dX7_alone_10 : decode cX7_alone 10 = .ok (.invokevirtual 65, 3) := by decide +kernel
theorem dX7_alone_13 : decode cX7_alone 13 = .ok (.ifCond .ne 22, 3) := by decide +kernel
theorem dX7_alone_16 : decode cX7_alone 16 = .ok (.iload 4, 2) := by decide +kernel
theorem dX7_alone_18 : decode cX7_alone 18 = .ok (.bipush (-2), 2) := by decide +kernel
theorem dX7_alone_20 : decode cX7_alone 20 = .ok (.if_icmp .lt 15, 3) := by decide +kernel
theorem dX7_alone_23 : decode cX7_alone 23 = .ok (.iload 4, 2) := by decide +kernel
theorem dX7_alone_25 : decode cX7_alone 25 = .ok (.aload_n 0, 1) := by decide +kernel
theorem dX7_alone_26 : decode cX7_alone 26 = .ok (.getfield 26, 3) := by decide +kernel
theorem dX7_alone_29 : decode cX7_alone 29 = .ok (.getfield 260, 3) := by decide +kernel
theorem dX7_alone_32 : decode cX7_alone 32 = .ok (.if_icmp .lt 7, 3) := by decide +kernel
theorem dX7_alone_35 : decode cX7_alone 35 = .ok (.ldc2_w 266, 3) := by decide +kernel
theorem dX7_alone_38 : decode cX7_alone 38 = .ok (.lreturn, 1) := by decide +kernel
theorem dX7_alone_39 : decode cX7_alone 39 = .ok (.aload_n 0, 1) := by decide +kernel
theorem dX7_alone_40 : decode cX7_alone 40 = .ok (.getfield 10, 3) := by decide +kernel
theorem dX7_alone_43 : decode cX7_alone 43 = .ok (.iload_n 2, 1) := by decide +kernel
theorem dX7_alone_44 : decode cX7_alone 44 = .ok (.invokevirtual 81, 3) := by decide +kernel
theorem dX7_alone_47 : decode cX7_alone 47 = .ok (.ifCond .eq 10, 3) := by decide +kernel
theorem dX7_alone_50 : decode cX7_alone 50 = .ok (.aload_n 0, 1) := by decide +kernel
theorem dX7_alone_51 : decode cX7_alone 51 = .ok (.iconst 1, 1) := by decide +kernel
theorem dX7_alone_52 : decode cX7_alone 52 = .ok (.invokevirtual 70, 3) := by decide +kernel
theorem dX7_alone_55 : decode cX7_alone 55 = .ok (.i2l, 1) := by decide +kernel
theorem dX7_alone_56 : decode cX7_alone 56 = .ok (.lreturn, 1) := by decide +kernel
theorem dX7_alone_57 : decode cX7_alone 57 = .ok (.aload_n 0, 1) := by decide +kernel
theorem dX7_alone_58 : decode cX7_alone 58 = .ok (.getfield 10, 3) := by decide +kernel
theorem dX7_alone_61 : decode cX7_alone 61 = .ok (.iload_n 2, 1) := by decide +kernel
theorem dX7_alone_62 : decode cX7_alone 62 = .ok (.iload_n 3, 1) := by decide +kernel
theorem dX7_alone_63 : decode cX7_alone 63 = .ok (.aload_n 0, 1) := by decide +kernel
theorem dX7_alone_64 : decode cX7_alone 64 = .ok (.getfield 26, 3) := by decide +kernel
theorem dX7_alone_67 : decode cX7_alone 67 = .ok (.getfield 260, 3) := by decide +kernel
theorem dX7_alone_70 : decode cX7_alone 70 = .ok (.invokevirtual 84, 3) := by decide +kernel
theorem dX7_alone_73 : decode cX7_alone 73 = .ok (.ifCond .eq 10, 3) := by decide +kernel
theorem dX7_alone_76 : decode cX7_alone 76 = .ok (.aload_n 0, 1) := by decide +kernel
theorem dX7_alone_77 : decode cX7_alone 77 = .ok (.iconst 2, 1) := by decide +kernel
theorem dX7_alone_78 : decode cX7_alone 78 = .ok (.invokevirtual 70, 3) := by decide +kernel
theorem dX7_alone_81 : decode cX7_alone 81 = .ok (.i2l, 1) := by decide +kernel
theorem dX7_alone_82 : decode cX7_alone 82 = .ok (.lreturn, 1) := by decide +kernel
theorem dX7_alone_83 : decode cX7_alone 83 = .ok (.aload_n 0, 1) := by decide +kernel
theorem dX7_alone_84 : decode cX7_alone 84 = .ok (.iconst 0, 1) := by decide +kernel
theorem dX7_alone_85 : decode cX7_alone 85 = .ok (.putfield 268, 3) := by decide +kernel
theorem dX7_alone_88 : decode cX7_alone 88 = .ok (.aload_n 0, 1) := by decide +kernel
theorem dX7_alone_89 : decode cX7_alone 89 = .ok (.getfield 54, 3) := by decide +kernel
theorem dX7_alone_92 : decode cX7_alone 92 = .ok (.aload_n 0, 1) := by decide +kernel
theorem dX7_alone_93 : decode cX7_alone 93 = .ok (.getfield 10, 3) := by decide +kernel
theorem dX7_alone_96 : decode cX7_alone 96 = .ok (.getfield 96, 3) := by decide +kernel
theorem dX7_alone_99 : decode cX7_alone 99 = .ok (.iload_n 2, 1) := by decide +kernel
theorem dX7_alone_100 : decode cX7_alone 100 = .ok (.aaload, 1) := by decide +kernel
theorem dX7_alone_101 : decode cX7_alone 101 = .ok (.iload_n 3, 1) := by decide +kernel
theorem dX7_alone_102 : decode cX7_alone 102 = .ok (.aload_n 0, 1) := by decide +kernel
theorem dX7_alone_103 : decode cX7_alone 103 = .ok (.getfield 26, 3) := by decide +kernel
theorem dX7_alone_106 : decode cX7_alone 106 = .ok (.getfield 260, 3) := by decide +kernel
theorem dX7_alone_109 : decode cX7_alone 109 = .ok (.invokevirtual 271, 3) := by decide +kernel
theorem dX7_alone_112 : decode cX7_alone 112 = .ok (.aload_n 0, 1) := by decide +kernel
theorem dX7_alone_113 : decode cX7_alone 113 = .ok (.getfield 54, 3) := by decide +kernel
theorem dX7_alone_116 : decode cX7_alone 116 = .ok (.aload_n 0, 1) := by decide +kernel
theorem dX7_alone_117 : decode cX7_alone 117 = .ok (.getfield 26, 3) := by decide +kernel
theorem dX7_alone_120 : decode cX7_alone 120 = .ok (.iload_n 1, 1) := by decide +kernel
theorem dX7_alone_121 : decode cX7_alone 121 = .ok (.invokevirtual 275, 3) := by decide +kernel
theorem dX7_alone_124 : decode cX7_alone 124 = .ok (.iload 4, 2) := by decide +kernel
theorem dX7_alone_126 : decode cX7_alone 126 = .ok (.bipush (-2), 2) := by decide +kernel
theorem dX7_alone_128 : decode cX7_alone 128 = .ok (.if_icmp .ne 11, 3) := by decide +kernel
theorem dX7_alone_131 : decode cX7_alone 131 = .ok (.aload_n 0, 1) := by decide +kernel
theorem dX7_alone_132 : decode cX7_alone 132 = .ok (.getfield 54, 3) := by decide +kernel
theorem dX7_alone_135 : decode cX7_alone 135 = .ok (.getfield 279, 3) := by decide +kernel
theorem dX7_alone_138 : decode cX7_alone 138 = .ok (.lreturn, 1) := by decide +kernel
theorem dX7_alone_139 : decode cX7_alone 139 = .ok (.iload 4, 2) := by decide +kernel
theorem dX7_alone_141 : decode cX7_alone 141 = .ok (.iconst (-1), 1) := by decide +kernel
theorem dX7_alone_142 : decode cX7_alone 142 = .ok (.if_icmp .ne 14, 3) := by decide +kernel
theorem dX7_alone_145 : decode cX7_alone 145 = .ok (.aload_n 0, 1) := by decide +kernel
theorem dX7_alone_146 : decode cX7_alone 146 = .ok (.getfield 54, 3) := by decide +kernel
theorem dX7_alone_149 : decode cX7_alone 149 = .ok (.getfield 283, 3) := by decide +kernel
theorem dX7_alone_152 : decode cX7_alone 152 = .ok (.i2l, 1) := by decide +kernel
theorem dX7_alone_153 : decode cX7_alone 153 = .ok (.goto 17, 3) := by decide +kernel
theorem dX7_alone_156 : decode cX7_alone 156 = .ok (.aload_n 0, 1) := by decide +kernel
theorem dX7_alone_157 : decode cX7_alone 157 = .ok (.getfield 54, 3) := by decide +kernel
theorem dX7_alone_160 : decode cX7_alone 160 = .ok (.aload_n 0, 1) := by decide +kernel
theorem dX7_alone_161 : decode cX7_alone 161 = .ok (.getfield 26, 3) := by decide +kernel
theorem dX7_alone_164 : decode cX7_alone 164 = .ok (.iload_n 1, 1) := by decide +kernel
theorem dX7_alone_165 : decode cX7_alone 165 = .ok (.iload 4, 2) := by decide +kernel
theorem dX7_alone_167 : decode cX7_alone 167 = .ok (.invokevirtual 285, 3) := by decide +kernel
theorem dX7_alone_170 : decode cX7_alone 170 = .ok (.lreturn, 1) := by decide +kernel
theorem dX7_bound_0 : decode cX7_bound 0 = .ok (.aload_n 0, 1) := by decide +kernel
theorem dX7_bound_1 : decode cX7_bound 1 = .ok (.invokevirtual 162, 3) := by decide +kernel
theorem dX7_bound_4 : decode cX7_bound 4 = .ok (.ifCond .eq 7, 3) := by decide +kernel
theorem dX7_bound_7 : decode cX7_bound 7 = .ok (.ldc2_w 289, 3) := by decide +kernel
theorem dX7_bound_10 : decode cX7_bound 10 = .ok (.lreturn, 1) := by decide +kernel
theorem dX7_bound_11 : decode cX7_bound 11 = .ok (.aload_n 0, 1) := by decide +kernel
theorem dX7_bound_12 : decode cX7_bound 12 = .ok (.iload_n 1, 1) := by decide +kernel
theorem dX7_bound_13 : decode cX7_bound 13 = .ok (.invokevirtual 65, 3) := by decide +kernel
theorem dX7_bound_16 : decode cX7_bound 16 = .ok (.ifCond .eq 7, 3) := by decide +kernel
theorem dX7_bound_19 : decode cX7_bound 19 = .ok (.ldc2_w 266, 3) := by decide +kernel
theorem dX7_bound_22 : decode cX7_bound 22 = .ok (.lreturn, 1) := by decide +kernel
theorem dX7_bound_23 : decode cX7_bound 23 = .ok (.aload_n 0, 1) := by decide +kernel
theorem dX7_bound_24 : decode cX7_bound 24 = .ok (.getfield 10, 3) := by decide +kernel
theorem dX7_bound_27 : decode cX7_bound 27 = .ok (.iload_n 1, 1) := by decide +kernel
theorem dX7_bound_28 : decode cX7_bound 28 = .ok (.invokevirtual 81, 3) := by decide +kernel
theorem dX7_bound_31 : decode cX7_bound 31 = .ok (.ifCond .eq 10, 3) := by decide +kernel
theorem dX7_bound_34 : decode cX7_bound 34 = .ok (.aload_n 0, 1) := by decide +kernel
theorem dX7_bound_35 : decode cX7_bound 35 = .ok (.iconst 1, 1) := by decide +kernel
theorem dX7_bound_36 : decode cX7_bound 36 = .ok (.invokevirtual 70, 3) := by decide +kernel
theorem dX7_bound_39 : decode cX7_bound 39 = .ok (.i2l, 1) := by decide +kernel
theorem dX7_bound_40 : decode cX7_bound 40 = .ok (.lreturn, 1) := by decide +kernel
theorem dX7_bound_41 : decode cX7_bound 41 = .ok (.aload_n 0, 1) := by decide +kernel
theorem dX7_bound_42 : decode cX7_bound 42 = .ok (.getfield 10, 3) := by decide +kernel
theorem dX7_bound_45 : decode cX7_bound 45 = .ok (.iload_n 1, 1) := by decide +kernel
theorem dX7_bound_46 : decode cX7_bound 46 = .ok (.iload_n 2, 1) := by decide +kernel
theorem dX7_bound_47 : decode cX7_bound 47 = .ok (.aload_n 0, 1) := by decide +kernel
theorem dX7_bound_48 : decode cX7_bound 48 = .ok (.getfield 26, 3) := by decide +kernel
theorem dX7_bound_51 : decode cX7_bound 51 = .ok (.getfield 260, 3) := by decide +kernel
theorem dX7_bound_54 : decode cX7_bound 54 = .ok (.invokevirtual 84, 3) := by decide +kernel
theorem dX7_bound_57 : decode cX7_bound 57 = .ok (.ifCond .eq 10, 3) := by decide +kernel
theorem dX7_bound_60 : decode cX7_bound 60 = .ok (.aload_n 0, 1) := by decide +kernel
theorem dX7_bound_61 : decode cX7_bound 61 = .ok (.iconst 2, 1) := by decide +kernel
theorem dX7_bound_62 : decode cX7_bound 62 = .ok (.invokevirtual 70, 3) := by decide +kernel
theorem dX7_bound_65 : decode cX7_bound 65 = .ok (.i2l, 1) := by decide +kernel
theorem dX7_bound_66 : decode cX7_bound 66 = .ok (.lreturn, 1) := by decide +kernel
theorem dX7_bound_67 : decode cX7_bound 67 = .ok (.aload_n 0, 1) := by decide +kernel
theorem dX7_bound_68 : decode cX7_bound 68 = .ok (.iconst 0, 1) := by decide +kernel
theorem dX7_bound_69 : decode cX7_bound 69 = .ok (.putfield 268, 3) := by decide +kernel
theorem dX7_bound_72 : decode cX7_bound 72 = .ok (.aload_n 0, 1) := by decide +kernel
theorem dX7_bound_73 : decode cX7_bound 73 = .ok (.getfield 54, 3) := by decide +kernel
theorem dX7_bound_76 : decode cX7_bound 76 = .ok (.aload_n 0, 1) := by decide +kernel
theorem dX7_bound_77 : decode cX7_bound 77 = .ok (.getfield 10, 3) := by decide +kernel
theorem dX7_bound_80 : decode cX7_bound 80 = .ok (.getfield 96, 3) := by decide +kernel
theorem dX7_bound_83 : decode cX7_bound 83 = .ok (.iload_n 1, 1) := by decide +kernel
theorem dX7_bound_84 : decode cX7_bound 84 = .ok (.aaload, 1) := by decide +kernel
theorem dX7_bound_85 : decode cX7_bound 85 = .ok (.iload_n 2, 1) := by decide +kernel
theorem dX7_bound_86 : decode cX7_bound 86 = .ok (.aload_n 0, 1) := by decide +kernel
theorem dX7_bound_87 : decode cX7_bound 87 = .ok (.getfield 26, 3) := by decide +kernel
theorem dX7_bound_90 : decode cX7_bound 90 = .ok (.getfield 260, 3) := by decide +kernel
theorem dX7_bound_93 : decode cX7_bound 93 = .ok (.invokevirtual 271, 3) := by decide +kernel
theorem dX7_bound_96 : decode cX7_bound 96 = .ok (.aload_n 0, 1) := by decide +kernel
theorem dX7_bound_97 : decode cX7_bound 97 = .ok (.getfield 54, 3) := by decide +kernel
theorem dX7_bound_100 : decode cX7_bound 100 = .ok (.aload_n 0, 1) := by decide +kernel
theorem dX7_bound_101 : decode cX7_bound 101 = .ok (.getfield 26, 3) := by decide +kernel
theorem dX7_bound_104 : decode cX7_bound 104 = .ok (.invokevirtual 291, 3) := by decide +kernel
theorem dX7_bound_107 : decode cX7_bound 107 = .ok (.lreturn, 1) := by decide +kernel
theorem dX7_moved_0 : decode cX7_moved 0 = .ok (.aload_n 0, 1) := by decide +kernel
theorem dX7_moved_1 : decode cX7_moved 1 = .ok (.invokevirtual 162, 3) := by decide +kernel
theorem dX7_moved_4 : decode cX7_moved 4 = .ok (.ifCond .eq 6, 3) := by decide +kernel
theorem dX7_moved_7 : decode cX7_moved 7 = .ok (.ldc 158, 2) := by decide +kernel
theorem dX7_moved_9 : decode cX7_moved 9 = .ok (.ireturn, 1) := by decide +kernel
theorem dX7_moved_10 : decode cX7_moved 10 = .ok (.iload_n 1, 1) := by decide +kernel
theorem dX7_moved_11 : decode cX7_moved 11 = .ok (.ifCond .lt 25, 3) := by decide +kernel
theorem dX7_moved_14 : decode cX7_moved 14 = .ok (.iload_n 1, 1) := by decide +kernel
theorem dX7_moved_15 : decode cX7_moved 15 = .ok (.bipush 12, 2) := by decide +kernel
theorem dX7_moved_17 : decode cX7_moved 17 = .ok (.if_icmp .gt 19, 3) := by decide +kernel
theorem dX7_moved_20 : decode cX7_moved 20 = .ok (.iload_n 2, 1) := by decide +kernel
theorem dX7_moved_21 : decode cX7_moved 21 = .ok (.iconst (-1), 1) := by decide +kernel
theorem dX7_moved_22 : decode cX7_moved 22 = .ok (.if_icmp .lt 14, 3) := by decide +kernel
theorem dX7_moved_25 : decode cX7_moved 25 = .ok (.iload_n 2, 1) := by decide +kernel
theorem dX7_moved_26 : decode cX7_moved 26 = .ok (.aload_n 0, 1) := by decide +kernel
theorem dX7_moved_27 : decode cX7_moved 27 = .ok (.getfield 26, 3) := by decide +kernel
theorem dX7_moved_30 : decode cX7_moved 30 = .ok (.getfield 260, 3) := by decide +kernel
theorem dX7_moved_33 : decode cX7_moved 33 = .ok (.if_icmp .lt 6, 3) := by decide +kernel
theorem dX7_moved_36 : decode cX7_moved 36 = .ok (.ldc 69, 2) := by decide +kernel
theorem dX7_moved_38 : decode cX7_moved 38 = .ok (.ireturn, 1) := by decide +kernel
theorem dX7_moved_39 : decode cX7_moved 39 = .ok (.aload_n 0, 1) := by decide +kernel
theorem dX7_moved_40 : decode cX7_moved 40 = .ok (.getfield 54, 3) := by decide +kernel
theorem dX7_moved_43 : decode cX7_moved 43 = .ok (.aload_n 0, 1) := by decide +kernel
theorem dX7_moved_44 : decode cX7_moved 44 = .ok (.getfield 26, 3) := by decide +kernel
theorem dX7_moved_47 : decode cX7_moved 47 = .ok (.iload_n 1, 1) := by decide +kernel
theorem dX7_moved_48 : decode cX7_moved 48 = .ok (.invokevirtual 295, 3) := by decide +kernel
theorem dX7_moved_51 : decode cX7_moved 51 = .ok (.lstore_n 3, 1) := by decide +kernel
theorem dX7_moved_52 : decode cX7_moved 52 = .ok (.iload_n 2, 1) := by decide +kernel
theorem dX7_moved_53 : decode cX7_moved 53 = .ok (.ifCond .ge 7, 3) := by decide +kernel
theorem dX7_moved_56 : decode cX7_moved 56 = .ok (.lload_n 3, 1) := by decide +kernel
theorem dX7_moved_57 : decode cX7_moved 57 = .ok (.goto 12, 3) := by decide +kernel
theorem dX7_moved_60 : decode cX7_moved 60 = .ok (.aload_n 0, 1) := by decide +kernel
theorem dX7_moved_61 : decode cX7_moved 61 = .ok (.getfield 54, 3) := by decide +kernel
theorem dX7_moved_64 : decode cX7_moved 64 = .ok (.getfield 299, 3) := by decide +kernel
theorem dX7_moved_67 : decode cX7_moved 67 = .ok (.iload_n 2, 1) := by decide +kernel
theorem dX7_moved_68 : decode cX7_moved 68 = .ok (.laload, 1) := by decide +kernel
theorem dX7_moved_69 : decode cX7_moved 69 = .ok (.l2i, 1) := by decide +kernel
theorem dX7_moved_70 : decode cX7_moved 70 = .ok (.ireturn, 1) := by decide +kernel
theorem dX7_gap_0 : decode cX7_gap 0 = .ok (.aload_n 0, 1) := by decide +kernel
theorem dX7_gap_1 : decode cX7_gap 1 = .ok (.invokevirtual 162, 3) := by decide +kernel
theorem dX7_gap_4 : decode cX7_gap 4 = .ok (.ifCond .eq 6, 3) := by decide +kernel
theorem dX7_gap_7 : decode cX7_gap 7 = .ok (.ldc 158, 2) := by decide +kernel
theorem dX7_gap_9 : decode cX7_gap 9 = .ok (.ireturn, 1) := by decide +kernel
theorem dX7_gap_10 : decode cX7_gap 10 = .ok (.iload_n 1, 1) := by decide +kernel
theorem dX7_gap_11 : decode cX7_gap 11 = .ok (.ifCond .lt 9, 3) := by decide +kernel
theorem dX7_gap_14 : decode cX7_gap 14 = .ok (.iload_n 1, 1) := by decide +kernel
theorem dX7_gap_15 : decode cX7_gap 15 = .ok (.bipush 12, 2) := by decide +kernel
theorem dX7_gap_17 : decode cX7_gap 17 = .ok (.if_icmp .le 6, 3) := by decide +kernel
theorem dX7_gap_20 : decode cX7_gap 20 = .ok (.ldc 69, 2) := by decide +kernel
theorem dX7_gap_22 : decode cX7_gap 22 = .ok (.ireturn, 1) := by decide +kernel
theorem dX7_gap_23 : decode cX7_gap 23 = .ok (.aload_n 0, 1) := by decide +kernel
theorem dX7_gap_24 : decode cX7_gap 24 = .ok (.invokevirtual 165, 3) := by decide +kernel
theorem dX7_gap_27 : decode cX7_gap 27 = .ok (.lstore_n 2, 1) := by decide +kernel
theorem dX7_gap_28 : decode cX7_gap 28 = .ok (.lload_n 2, 1) := by decide +kernel
theorem dX7_gap_29 : decode cX7_gap 29 = .ok (.lconst 0, 1) := by decide +kernel
theorem dX7_gap_30 : decode cX7_gap 30 = .ok (.lcmp, 1) := by decide +kernel
theorem dX7_gap_31 : decode cX7_gap 31 = .ok (.ifCond .ge 6, 3) := by decide +kernel
theorem dX7_gap_34 : decode cX7_gap 34 = .ok (.ldc 169, 2) := by decide +kernel
theorem dX7_gap_36 : decode cX7_gap 36 = .ok (.ireturn, 1) := by decide +kernel
theorem dX7_gap_37 : decode cX7_gap 37 = .ok (.lload_n 2, 1) := by decide +kernel
theorem dX7_gap_38 : decode cX7_gap 38 = .ok (.invokestatic 174, 3) := by decide +kernel
theorem dX7_gap_41 : decode cX7_gap 41 = .ok (.i2l, 1) := by decide +kernel
theorem dX7_gap_42 : decode cX7_gap 42 = .ok (.aload_n 0, 1) := by decide +kernel
theorem dX7_gap_43 : decode cX7_gap 43 = .ok (.getfield 54, 3) := by decide +kernel
theorem dX7_gap_46 : decode cX7_gap 46 = .ok (.aload_n 0, 1) := by decide +kernel
theorem dX7_gap_47 : decode cX7_gap 47 = .ok (.getfield 26, 3) := by decide +kernel
theorem dX7_gap_50 : decode cX7_gap 50 = .ok (.iload_n 1, 1) := by decide +kernel
theorem dX7_gap_51 : decode cX7_gap 51 = .ok (.invokevirtual 295, 3) := by decide +kernel
theorem dX7_gap_54 : decode cX7_gap 54 = .ok (.lsub, 1) := by decide +kernel
theorem dX7_gap_55 : decode cX7_gap 55 = .ok (.l2i, 1) := by decide +kernel
theorem dX7_gap_56 : decode cX7_gap 56 = .ok (.ireturn, 1) := by decide +kernel
theorem dX7_more_0 : decode cX7_more 0 = .ok (.aload_n 0, 1) := by decide +kernel
theorem dX7_more_1 : decode cX7_more 1 = .ok (.iload_n 1, 1) := by decide +kernel
theorem dX7_more_2 : decode cX7_more 2 = .ok (.invokevirtual 178, 3) := by decide +kernel
theorem dX7_more_5 : decode cX7_more 5 = .ok (.ifCond .eq 6, 3) := by decide +kernel
theorem dX7_more_8 : decode cX7_more 8 = .ok (.ldc 69, 2) := by decide +kernel
theorem dX7_more_10 : decode cX7_more 10 = .ok (.ireturn, 1) := by decide +kernel
theorem dX7_more_11 : decode cX7_more 11 = .ok (.aload_n 0, 1) := by decide +kernel
theorem dX7_more_12 : decode cX7_more 12 = .ok (.invokevirtual 165, 3) := by decide +kernel
theorem dX7_more_15 : decode cX7_more 15 = .ok (.invokestatic 174, 3) := by decide +kernel
theorem dX7_more_18 : decode cX7_more 18 = .ok (.istore_n 2, 1) := by decide +kernel
theorem dX7_more_19 : decode cX7_more 19 = .ok (.iload_n 2, 1) := by decide +kernel
theorem dX7_more_20 : decode cX7_more 20 = .ok (.ifCond .ge 6, 3) := by decide +kernel
theorem dX7_more_23 : decode cX7_more 23 = .ok (.ldc 169, 2) := by decide +kernel
theorem dX7_more_25 : decode cX7_more 25 = .ok (.ireturn, 1) := by decide +kernel
theorem dX7_more_26 : decode cX7_more 26 = .ok (.aload_n 0, 1) := by decide +kernel
theorem dX7_more_27 : decode cX7_more 27 = .ok (.getfield 30, 3) := by decide +kernel
theorem dX7_more_30 : decode cX7_more 30 = .ok (.aload_n 0, 1) := by decide +kernel
theorem dX7_more_31 : decode cX7_more 31 = .ok (.getfield 26, 3) := by decide +kernel
theorem dX7_more_34 : decode cX7_more 34 = .ok (.invokevirtual 135, 3) := by decide +kernel
theorem dX7_more_37 : decode cX7_more 37 = .ok (.aload_n 0, 1) := by decide +kernel
theorem dX7_more_38 : decode cX7_more 38 = .ok (.getfield 30, 3) := by decide +kernel
theorem dX7_more_41 : decode cX7_more 41 = .ok (.getfield 181, 3) := by decide +kernel
theorem dX7_more_44 : decode cX7_more 44 = .ok (.iload_n 1, 1) := by decide +kernel
theorem dX7_more_45 : decode cX7_more 45 = .ok (.dup2, 1) := by decide +kernel
theorem dX7_more_46 : decode cX7_more 46 = .ok (.iaload, 1) := by decide +kernel
theorem dX7_more_47 : decode cX7_more 47 = .ok (.iconst 1, 1) := by decide +kernel
theorem dX7_more_48 : decode cX7_more 48 = .ok (.iadd, 1) := by decide +kernel
theorem dX7_more_49 : decode cX7_more 49 = .ok (.iastore, 1) := by decide +kernel
theorem dX7_more_50 : decode cX7_more 50 = .ok (.aload_n 0, 1) := by decide +kernel
theorem dX7_more_51 : decode cX7_more 51 = .ok (.getfield 47, 3) := by decide +kernel
theorem dX7_more_54 : decode cX7_more 54 = .ok (.aload_n 0, 1) := by decide +kernel
theorem dX7_more_55 : decode cX7_more 55 = .ok (.getfield 30, 3) := by decide +kernel
theorem dX7_more_58 : decode cX7_more 58 = .ok (.iconst (-1), 1) := by decide +kernel
theorem dX7_more_59 : decode cX7_more 59 = .ok (.invokevirtual 302, 3) := by decide +kernel
theorem dX7_more_62 : decode cX7_more 62 = .ok (.invokestatic 174, 3) := by decide +kernel
theorem dX7_more_65 : decode cX7_more 65 = .ok (.istore_n 3, 1) := by decide +kernel
theorem dX7_more_66 : decode cX7_more 66 = .ok (.iload_n 3, 1) := by decide +kernel
theorem dX7_more_67 : decode cX7_more 67 = .ok (.ifCond .ge 8, 3) := by decide +kernel
theorem dX7_more_70 : decode cX7_more 70 = .ok (.ldc 169, 2) := by decide +kernel
theorem dX7_more_72 : decode cX7_more 72 = .ok (.goto 6, 3) := by decide +kernel
theorem dX7_more_75 : decode cX7_more 75 = .ok (.iload_n 3, 1) := by decide +kernel
theorem dX7_more_76 : decode cX7_more 76 = .ok (.iload_n 2, 1) := by decide +kernel
theorem dX7_more_77 : decode cX7_more 77 = .ok (.isub, 1) := by decide +kernel
theorem dX7_more_78 : decode cX7_more 78 = .ok (.ireturn, 1) := by decide +kernel
theorem dX7_wanted_0 : decode cX7_wanted 0 = .ok (.aload_n 0, 1) := by decide +kernel
theorem dX7_wanted_1 : decode cX7_wanted 1 = .ok (.invokevirtual 162, 3) := by decide +kernel
theorem dX7_wanted_4 : decode cX7_wanted 4 = .ok (.ifCond .eq 6, 3) := by decide +kernel
theorem dX7_wanted_7 : decode cX7_wanted 7 = .ok (.ldc 158, 2) := by decide +kernel
theorem dX7_wanted_9 : decode cX7_wanted 9 = .ok (.ireturn, 1) := by decide +kernel
theorem dX7_wanted_10 : decode cX7_wanted 10 = .ok (.aload_n 0, 1) := by decide +kernel
theorem dX7_wanted_11 : decode cX7_wanted 11 = .ok (.invokevirtual 165, 3) := by decide +kernel
theorem dX7_wanted_14 : decode cX7_wanted 14 = .ok (.lconst 0, 1) := by decide +kernel
theorem dX7_wanted_15 : decode cX7_wanted 15 = .ok (.lcmp, 1) := by decide +kernel
theorem dX7_wanted_16 : decode cX7_wanted 16 = .ok (.ifCond .ge 6, 3) := by decide +kernel
theorem dX7_wanted_19 : decode cX7_wanted 19 = .ok (.ldc 169, 2) := by decide +kernel
theorem dX7_wanted_21 : decode cX7_wanted 21 = .ok (.ireturn, 1) := by decide +kernel
theorem dX7_wanted_22 : decode cX7_wanted 22 = .ok (.iconst 0, 1) := by decide +kernel
theorem dX7_wanted_23 : decode cX7_wanted 23 = .ok (.istore_n 1, 1) := by decide +kernel
theorem dX7_wanted_24 : decode cX7_wanted 24 = .ok (.iconst 0, 1) := by decide +kernel
theorem dX7_wanted_25 : decode cX7_wanted 25 = .ok (.istore_n 2, 1) := by decide +kernel
theorem dX7_wanted_26 : decode cX7_wanted 26 = .ok (.iload_n 2, 1) := by decide +kernel
theorem dX7_wanted_27 : decode cX7_wanted 27 = .ok (.aload_n 0, 1) := by decide +kernel
theorem dX7_wanted_28 : decode cX7_wanted 28 = .ok (.getfield 26, 3) := by decide +kernel
theorem dX7_wanted_31 : decode cX7_wanted 31 = .ok (.getfield 145, 3) := by decide +kernel
theorem dX7_wanted_34 : decode cX7_wanted 34 = .ok (.if_icmp .ge 32, 3) := by decide +kernel
theorem dX7_wanted_37 : decode cX7_wanted 37 = .ok (.aload_n 0, 1) := by decide +kernel
theorem dX7_wanted_38 : decode cX7_wanted 38 = .ok (.getfield 47, 3) := by decide +kernel
theorem dX7_wanted_41 : decode cX7_wanted 41 = .ok (.aload_n 0, 1) := by decide +kernel
theorem dX7_wanted_42 : decode cX7_wanted 42 = .ok (.getfield 26, 3) := by decide +kernel
theorem dX7_wanted_45 : decode cX7_wanted 45 = .ok (.iload_n 2, 1) := by decide +kernel
theorem dX7_wanted_46 : decode cX7_wanted 46 = .ok (.invokevirtual 302, 3) := by decide +kernel
theorem dX7_wanted_49 : decode cX7_wanted 49 = .ok (.lconst 0, 1) := by decide +kernel
theorem dX7_wanted_50 : decode cX7_wanted 50 = .ok (.lcmp, 1) := by decide +kernel
theorem dX7_wanted_51 : decode cX7_wanted 51 = .ok (.ifCond .ge 9, 3) := by decide +kernel
theorem dX7_wanted_54 : decode cX7_wanted 54 = .ok (.iload_n 1, 1) := by decide +kernel
theorem dX7_wanted_55 : decode cX7_wanted 55 = .ok (.iconst 1, 1) := by decide +kernel
theorem dX7_wanted_56 : decode cX7_wanted 56 = .ok (.iload_n 2, 1) := by decide +kernel
theorem dX7_wanted_57 : decode cX7_wanted 57 = .ok (.ishl, 1) := by decide +kernel
theorem dX7_wanted_58 : decode cX7_wanted 58 = .ok (.ior, 1) := by decide +kernel
theorem dX7_wanted_59 : decode cX7_wanted 59 = .ok (.istore_n 1, 1) := by decide +kernel
theorem dX7_wanted_60 : decode cX7_wanted 60 = .ok (.iinc 2 1, 3) := by decide +kernel
theorem dX7_wanted_63 : decode cX7_wanted 63 = .ok (.goto (-37), 3) := by decide +kernel
theorem dX7_wanted_66 : decode cX7_wanted 66 = .ok (.iload_n 1, 1) := by decide +kernel
theorem dX7_wanted_67 : decode cX7_wanted 67 = .ok (.ireturn, 1) := by decide +kernel
theorem dX7_who_0 : decode cX7_who 0 = .ok (.aload_n 0, 1) := by decide +kernel
theorem dX7_who_1 : decode cX7_who 1 = .ok (.invokevirtual 162, 3) := by decide +kernel
theorem dX7_who_4 : decode cX7_who 4 = .ok (.ifCond .eq 6, 3) := by decide +kernel
theorem dX7_who_7 : decode cX7_who 7 = .ok (.ldc 158, 2) := by decide +kernel
theorem dX7_who_9 : decode cX7_who 9 = .ok (.ireturn, 1) := by decide +kernel
theorem dX7_who_10 : decode cX7_who 10 = .ok (.iload_n 1, 1) := by decide +kernel
theorem dX7_who_11 : decode cX7_who 11 = .ok (.ifCond .lt 19, 3) := by decide +kernel
theorem dX7_who_14 : decode cX7_who 14 = .ok (.iload_n 1, 1) := by decide +kernel
theorem dX7_who_15 : decode cX7_who 15 = .ok (.iconst 3, 1) := by decide +kernel
theorem dX7_who_16 : decode cX7_who 16 = .ok (.if_icmp .gt 14, 3) := by decide +kernel
theorem dX7_who_19 : decode cX7_who 19 = .ok (.iload_n 3, 1) := by decide +kernel
theorem dX7_who_20 : decode cX7_who 20 = .ok (.ifCond .lt 10, 3) := by decide +kernel
theorem dX7_who_23 : decode cX7_who 23 = .ok (.iload_n 3, 1) := by decide +kernel
theorem dX7_who_24 : decode cX7_who 24 = .ok (.ldc_w 305, 3) := by decide +kernel
theorem dX7_who_27 : decode cX7_who 27 = .ok (.if_icmp .le 6, 3) := by decide +kernel
theorem dX7_who_30 : decode cX7_who 30 = .ok (.ldc 69, 2) := by decide +kernel
theorem dX7_who_32 : decode cX7_who 32 = .ok (.ireturn, 1) := by decide +kernel
theorem dX7_who_33 : decode cX7_who 33 = .ok (.iload_n 1, 1) := by decide +kernel
theorem dX7_who_34 : decode cX7_who 34 = .ok (.iconst 2, 1) := by decide +kernel
theorem dX7_who_35 : decode cX7_who 35 = .ok (.if_icmp .ge 14, 3) := by decide +kernel
theorem dX7_who_38 : decode cX7_who 38 = .ok (.aload_n 0, 1) := by decide +kernel
theorem dX7_who_39 : decode cX7_who 39 = .ok (.iload_n 2, 1) := by decide +kernel
theorem dX7_who_40 : decode cX7_who 40 = .ok (.invokevirtual 178, 3) := by decide +kernel
theorem dX7_who_43 : decode cX7_who 43 = .ok (.ifCond .eq 17, 3) := by decide +kernel
theorem dX7_who_46 : decode cX7_who 46 = .ok (.goto 11, 3) := by decide +kernel
theorem dX7_who_49 : decode cX7_who 49 = .ok (.aload_n 0, 1) := by decide +kernel
theorem dX7_who_50 : decode cX7_who 50 = .ok (.iload_n 2, 1) := by decide +kernel
theorem dX7_who_51 : decode cX7_who 51 = .ok (.invokevirtual 148, 3) := by decide +kernel
theorem dX7_who_54 : decode cX7_who 54 = .ok (.ifCond .eq 6, 3) := by decide +kernel
theorem dX7_who_57 : decode cX7_who 57 = .ok (.ldc 69, 2) := by decide +kernel
theorem dX7_who_59 : decode cX7_who 59 = .ok (.ireturn, 1) := by decide +kernel
theorem dX7_who_60 : decode cX7_who 60 = .ok (.iload_n 1, 1) := by decide +kernel
theorem dX7_who_61 : decode cX7_who 61 = .ok (.tableswitch 48 0 2 #[27, 34, 41], 27) := by decide +kernel
theorem dX7_who_88 : decode cX7_who 88 = .ok (.aload_n 0, 1) := by decide +kernel
theorem dX7_who_89 : decode cX7_who 89 = .ok (.iload_n 2, 1) := by decide +kernel
theorem dX7_who_90 : decode cX7_who 90 = .ok (.iload_n 3, 1) := by decide +kernel
theorem dX7_who_91 : decode cX7_who 91 = .ok (.invokevirtual 306, 3) := by decide +kernel
theorem dX7_who_94 : decode cX7_who 94 = .ok (.ireturn, 1) := by decide +kernel
theorem dX7_who_95 : decode cX7_who 95 = .ok (.aload_n 0, 1) := by decide +kernel
theorem dX7_who_96 : decode cX7_who 96 = .ok (.iload_n 2, 1) := by decide +kernel
theorem dX7_who_97 : decode cX7_who 97 = .ok (.iload_n 3, 1) := by decide +kernel
theorem dX7_who_98 : decode cX7_who 98 = .ok (.invokevirtual 309, 3) := by decide +kernel
theorem dX7_who_101 : decode cX7_who 101 = .ok (.ireturn, 1) := by decide +kernel
theorem dX7_who_102 : decode cX7_who 102 = .ok (.aload_n 0, 1) := by decide +kernel
theorem dX7_who_103 : decode cX7_who 103 = .ok (.iload_n 2, 1) := by decide +kernel
theorem dX7_who_104 : decode cX7_who 104 = .ok (.iload_n 3, 1) := by decide +kernel
theorem dX7_who_105 : decode cX7_who 105 = .ok (.invokevirtual 312, 3) := by decide +kernel
theorem dX7_who_108 : decode cX7_who 108 = .ok (.ireturn, 1) := by decide +kernel
theorem dX7_who_109 : decode cX7_who 109 = .ok (.aload_n 0, 1) := by decide +kernel
theorem dX7_who_110 : decode cX7_who 110 = .ok (.iload_n 2, 1) := by decide +kernel
theorem dX7_who_111 : decode cX7_who 111 = .ok (.iload_n 3, 1) := by decide +kernel
theorem dX7_who_112 : decode cX7_who 112 = .ok (.invokevirtual 315, 3) := by decide +kernel
theorem dX7_who_115 : decode cX7_who 115 = .ok (.ireturn, 1) := by decide +kernel
theorem dX7_fits_0 : decode cX7_fits 0 = .ok (.aload_n 0, 1) := by decide +kernel
theorem dX7_fits_1 : decode cX7_fits 1 = .ok (.iload_n 1, 1) := by decide +kernel
theorem dX7_fits_2 : decode cX7_fits 2 = .ok (.invokevirtual 148, 3) := by decide +kernel
theorem dX7_fits_5 : decode cX7_fits 5 = .ok (.ifCond .ne 27, 3) := by decide +kernel
theorem dX7_fits_8 : decode cX7_fits 8 = .ok (.aload_n 0, 1) := by decide +kernel
theorem dX7_fits_9 : decode cX7_fits 9 = .ok (.iload_n 2, 1) := by decide +kernel
theorem dX7_fits_10 : decode cX7_fits 10 = .ok (.invokevirtual 65, 3) := by decide +kernel
theorem dX7_fits_13 : decode cX7_fits 13 = .ok (.ifCond .ne 19, 3) := by decide +kernel
theorem dX7_fits_16 : decode cX7_fits 16 = .ok (.iload_n 3, 1) := by decide +kernel
theorem dX7_fits_17 : decode cX7_fits 17 = .ok (.iconst 1, 1) := by decide +kernel
theorem dX7_fits_18 : decode cX7_fits 18 = .ok (.if_icmp .lt 14, 3) := by decide +kernel
theorem dX7_fits_21 : decode cX7_fits 21 = .ok (.iload_n 3, 1) := by decide +kernel
theorem dX7_fits_22 : decode cX7_fits 22 = .ok (.aload_n 0, 1) := by decide +kernel
theorem dX7_fits_23 : decode cX7_fits 23 = .ok (.getfield 26, 3) := by decide +kernel
theorem dX7_fits_26 : decode cX7_fits 26 = .ok (.getfield 260, 3) := by decide +kernel
theorem dX7_fits_29 : decode cX7_fits 29 = .ok (.if_icmp .le 6, 3) := by decide +kernel
theorem dX7_fits_32 : decode cX7_fits 32 = .ok (.ldc 69, 2) := by decide +kernel
theorem dX7_fits_34 : decode cX7_fits 34 = .ok (.ireturn, 1) := by decide +kernel
theorem dX7_fits_35 : decode cX7_fits 35 = .ok (.aload_n 0, 1) := by decide +kernel
theorem dX7_fits_36 : decode cX7_fits 36 = .ok (.getfield 10, 3) := by decide +kernel
theorem dX7_fits_39 : decode cX7_fits 39 = .ok (.iload_n 2, 1) := by decide +kernel
theorem dX7_fits_40 : decode cX7_fits 40 = .ok (.invokevirtual 81, 3) := by decide +kernel
theorem dX7_fits_43 : decode cX7_fits 43 = .ok (.ifCond .eq 9, 3) := by decide +kernel
theorem dX7_fits_46 : decode cX7_fits 46 = .ok (.aload_n 0, 1) := by decide +kernel
theorem dX7_fits_47 : decode cX7_fits 47 = .ok (.iconst 1, 1) := by decide +kernel
theorem dX7_fits_48 : decode cX7_fits 48 = .ok (.invokevirtual 70, 3) := by decide +kernel
theorem dX7_fits_51 : decode cX7_fits 51 = .ok (.ireturn, 1) := by decide +kernel
theorem dX7_fits_52 : decode cX7_fits 52 = .ok (.aload_n 0, 1) := by decide +kernel
theorem dX7_fits_53 : decode cX7_fits 53 = .ok (.getfield 10, 3) := by decide +kernel
theorem dX7_fits_56 : decode cX7_fits 56 = .ok (.iload_n 2, 1) := by decide +kernel
theorem dX7_fits_57 : decode cX7_fits 57 = .ok (.iconst 0, 1) := by decide +kernel
theorem dX7_fits_58 : decode cX7_fits 58 = .ok (.iload_n 3, 1) := by decide +kernel
theorem dX7_fits_59 : decode cX7_fits 59 = .ok (.invokevirtual 84, 3) := by decide +kernel
theorem dX7_fits_62 : decode cX7_fits 62 = .ok (.ifCond .eq 9, 3) := by decide +kernel
theorem dX7_fits_65 : decode cX7_fits 65 = .ok (.aload_n 0, 1) := by decide +kernel
theorem dX7_fits_66 : decode cX7_fits 66 = .ok (.iconst 2, 1) := by decide +kernel
theorem dX7_fits_67 : decode cX7_fits 67 = .ok (.invokevirtual 70, 3) := by decide +kernel
theorem dX7_fits_70 : decode cX7_fits 70 = .ok (.ireturn, 1) := by decide +kernel
theorem dX7_fits_71 : decode cX7_fits 71 = .ok (.aload_n 0, 1) := by decide +kernel
theorem dX7_fits_72 : decode cX7_fits 72 = .ok (.iconst 0, 1) := by decide +kernel
theorem dX7_fits_73 : decode cX7_fits 73 = .ok (.putfield 268, 3) := by decide +kernel
theorem dX7_fits_76 : decode cX7_fits 76 = .ok (.aload_n 0, 1) := by decide +kernel
theorem dX7_fits_77 : decode cX7_fits 77 = .ok (.iload_n 1, 1) := by decide +kernel
theorem dX7_fits_78 : decode cX7_fits 78 = .ok (.aload_n 0, 1) := by decide +kernel
theorem dX7_fits_79 : decode cX7_fits 79 = .ok (.getfield 10, 3) := by decide +kernel
theorem dX7_fits_82 : decode cX7_fits 82 = .ok (.getfield 96, 3) := by decide +kernel
theorem dX7_fits_85 : decode cX7_fits 85 = .ok (.iload_n 2, 1) := by decide +kernel
theorem dX7_fits_86 : decode cX7_fits 86 = .ok (.aaload, 1) := by decide +kernel
theorem dX7_fits_87 : decode cX7_fits 87 = .ok (.iload_n 3, 1) := by decide +kernel
theorem dX7_fits_88 : decode cX7_fits 88 = .ok (.invokevirtual 318, 3) := by decide +kernel
theorem dX7_fits_91 : decode cX7_fits 91 = .ok (.ireturn, 1) := by decide +kernel
theorem dX7_drawn_0 : decode cX7_drawn 0 = .ok (.aload_n 0, 1) := by decide +kernel
theorem dX7_drawn_1 : decode cX7_drawn 1 = .ok (.invokevirtual 162, 3) := by decide +kernel
theorem dX7_drawn_4 : decode cX7_drawn 4 = .ok (.ifCond .eq 6, 3) := by decide +kernel
theorem dX7_drawn_7 : decode cX7_drawn 7 = .ok (.ldc 158, 2) := by decide +kernel
theorem dX7_drawn_9 : decode cX7_drawn 9 = .ok (.ireturn, 1) := by decide +kernel
theorem dX7_drawn_10 : decode cX7_drawn 10 = .ok (.iload_n 1, 1) := by decide +kernel
theorem dX7_drawn_11 : decode cX7_drawn 11 = .ok (.ifCond .lt 30, 3) := by decide +kernel
theorem dX7_drawn_14 : decode cX7_drawn 14 = .ok (.iload_n 1, 1) := by decide +kernel
theorem dX7_drawn_15 : decode cX7_drawn 15 = .ok (.bipush 8, 2) := by decide +kernel
theorem dX7_drawn_17 : decode cX7_drawn 17 = .ok (.if_icmp .gt 24, 3) := by decide +kernel
theorem dX7_drawn_20 : decode cX7_drawn 20 = .ok (.iload_n 2, 1) := by decide +kernel
theorem dX7_drawn_21 : decode cX7_drawn 21 = .ok (.iconst 1, 1) := by decide +kernel
theorem dX7_drawn_22 : decode cX7_drawn 22 = .ok (.if_icmp .lt 19, 3) := by decide +kernel
theorem dX7_drawn_25 : decode cX7_drawn 25 = .ok (.iload_n 2, 1) := by decide +kernel
theorem dX7_drawn_26 : decode cX7_drawn 26 = .ok (.ldc_w 322, 3) := by decide +kernel
theorem dX7_drawn_29 : decode cX7_drawn 29 = .ok (.if_icmp .gt 12, 3) := by decide +kernel
theorem dX7_drawn_32 : decode cX7_drawn 32 = .ok (.iload_n 3, 1) := by decide +kernel
theorem dX7_drawn_33 : decode cX7_drawn 33 = .ok (.ifCond .lt 8, 3) := by decide +kernel
theorem dX7_drawn_36 : decode cX7_drawn 36 = .ok (.iload_n 3, 1) := by decide +kernel
theorem dX7_drawn_37 : decode cX7_drawn 37 = .ok (.iconst 1, 1) := by decide +kernel
theorem dX7_drawn_38 : decode cX7_drawn 38 = .ok (.if_icmp .le 6, 3) := by decide +kernel
theorem dX7_drawn_41 : decode cX7_drawn 41 = .ok (.ldc 69, 2) := by decide +kernel
theorem dX7_drawn_43 : decode cX7_drawn 43 = .ok (.ireturn, 1) := by decide +kernel
theorem dX7_drawn_44 : decode cX7_drawn 44 = .ok (.iconst 0, 1) := by decide +kernel
theorem dX7_drawn_45 : decode cX7_drawn 45 = .ok (.istore 4, 2) := by decide +kernel
theorem dX7_drawn_47 : decode cX7_drawn 47 = .ok (.iconst 0, 1) := by decide +kernel
theorem dX7_drawn_48 : decode cX7_drawn 48 = .ok (.istore 5, 2) := by decide +kernel
theorem dX7_drawn_50 : decode cX7_drawn 50 = .ok (.iload_n 2, 1) := by decide +kernel
theorem dX7_drawn_51 : decode cX7_drawn 51 = .ok (.i2l, 1) := by decide +kernel
theorem dX7_drawn_52 : decode cX7_drawn 52 = .ok (.lstore 6, 2) := by decide +kernel
theorem dX7_drawn_54 : decode cX7_drawn 54 = .ok (.aload_n 0, 1) := by decide +kernel
theorem dX7_drawn_55 : decode cX7_drawn 55 = .ok (.getfield 30, 3) := by decide +kernel
theorem dX7_drawn_58 : decode cX7_drawn 58 = .ok (.aload_n 0, 1) := by decide +kernel
theorem dX7_drawn_59 : decode cX7_drawn 59 = .ok (.getfield 26, 3) := by decide +kernel
theorem dX7_drawn_62 : decode cX7_drawn 62 = .ok (.invokevirtual 135, 3) := by decide +kernel
theorem dX7_drawn_65 : decode cX7_drawn 65 = .ok (.iconst 0, 1) := by decide +kernel
theorem dX7_drawn_66 : decode cX7_drawn 66 = .ok (.istore 8, 2) := by decide +kernel
theorem dX7_drawn_68 : decode cX7_drawn 68 = .ok (.iload 8, 2) := by decide +kernel
theorem dX7_drawn_70 : decode cX7_drawn 70 = .ok (.iload_n 1, 1) := by decide +kernel
theorem dX7_drawn_71 : decode cX7_drawn 71 = .ok (.if_icmp .ge 84, 3) := by decide +kernel
theorem dX7_drawn_74 : decode cX7_drawn 74 = .ok (.lload 6, 2) := by decide +kernel
theorem dX7_drawn_76 : decode cX7_drawn 76 = .ok (.ldc2_w 323, 3) := by decide +kernel
theorem dX7_drawn_79 : decode cX7_drawn 79 = .ok (.lmul, 1) := by decide +kernel
theorem dX7_drawn_80 : decode cX7_drawn 80 = .ok (.ldc2_w 325, 3) := by decide +kernel
theorem dX7_drawn_83 : decode cX7_drawn 83 = .ok (.lrem, 1) := by decide +kernel
theorem dX7_drawn_84 : decode cX7_drawn 84 = .ok (.lstore 6, 2) := by decide +kernel
theorem dX7_drawn_86 : decode cX7_drawn 86 = .ok (.aload_n 0, 1) := by decide +kernel
theorem dX7_drawn_87 : decode cX7_drawn 87 = .ok (.getfield 30, 3) := by decide +kernel
theorem dX7_drawn_90 : decode cX7_drawn 90 = .ok (.getfield 181, 3) := by decide +kernel
theorem dX7_drawn_93 : decode cX7_drawn 93 = .ok (.lload 6, 2) := by decide +kernel
theorem dX7_drawn_95 : decode cX7_drawn 95 = .ok (.aload_n 0, 1) := by decide +kernel
theorem dX7_drawn_96 : decode cX7_drawn 96 = .ok (.getfield 26, 3) := by decide +kernel
theorem dX7_drawn_99 : decode cX7_drawn 99 = .ok (.getfield 260, 3) := by decide +kernel
theorem dX7_drawn_102 : decode cX7_drawn 102 = .ok (.i2l, 1) := by decide +kernel
theorem dX7_drawn_103 : decode cX7_drawn 103 = .ok (.lrem, 1) := by decide +kernel
theorem dX7_drawn_104 : decode cX7_drawn 104 = .ok (.l2i, 1) := by decide +kernel
theorem dX7_drawn_105 : decode cX7_drawn 105 = .ok (.lload 6, 2) := by decide +kernel
theorem dX7_drawn_107 : decode cX7_drawn 107 = .ok (.ldc2_w 327, 3) := by decide +kernel
theorem dX7_drawn_110 : decode cX7_drawn 110 = .ok (.ldiv, 1) := by decide +kernel
theorem dX7_drawn_111 : decode cX7_drawn 111 = .ok (.ldc2_w 329, 3) := by decide +kernel
theorem dX7_drawn_114 : decode cX7_drawn 114 = .ok (.lrem, 1) := by decide +kernel
theorem dX7_drawn_115 : decode cX7_drawn 115 = .ok (.l2i, 1) := by decide +kernel
theorem dX7_drawn_116 : decode cX7_drawn 116 = .ok (.iastore, 1) := by decide +kernel
theorem dX7_drawn_117 : decode cX7_drawn 117 = .ok (.aload_n 0, 1) := by decide +kernel
theorem dX7_drawn_118 : decode cX7_drawn 118 = .ok (.getfield 47, 3) := by decide +kernel
theorem dX7_drawn_121 : decode cX7_drawn 121 = .ok (.aload_n 0, 1) := by decide +kernel
theorem dX7_drawn_122 : decode cX7_drawn 122 = .ok (.getfield 30, 3) := by decide +kernel
theorem dX7_drawn_125 : decode cX7_drawn 125 = .ok (.iconst (-1), 1) := by decide +kernel
theorem dX7_drawn_126 : decode cX7_drawn 126 = .ok (.invokevirtual 302, 3) := by decide +kernel
theorem dX7_drawn_129 : decode cX7_drawn 129 = .ok (.invokestatic 174, 3) := by decide +kernel
theorem dX7_drawn_132 : decode cX7_drawn 132 = .ok (.istore 9, 2) := by decide +kernel
theorem dX7_drawn_134 : decode cX7_drawn 134 = .ok (.iload 9, 2) := by decide +kernel
theorem dX7_drawn_136 : decode cX7_drawn 136 = .ok (.ifCond .lt 13, 3) := by decide +kernel
theorem dX7_drawn_139 : decode cX7_drawn 139 = .ok (.iinc 4 1, 3) := by decide +kernel
theorem dX7_drawn_142 : decode cX7_drawn 142 = .ok (.iload 5, 2) := by decide +kernel
theorem dX7_drawn_144 : decode cX7_drawn 144 = .ok (.iload 9, 2) := by decide +kernel
theorem dX7_drawn_146 : decode cX7_drawn 146 = .ok (.iadd, 1) := by decide +kernel
theorem dX7_drawn_147 : decode cX7_drawn 147 = .ok (.istore 5, 2) := by decide +kernel
theorem dX7_drawn_149 : decode cX7_drawn 149 = .ok (.iinc 8 1, 3) := by decide +kernel
theorem dX7_drawn_152 : decode cX7_drawn 152 = .ok (.goto (-84), 3) := by decide +kernel
theorem dX7_drawn_155 : decode cX7_drawn 155 = .ok (.iload_n 3, 1) := by decide +kernel
theorem dX7_drawn_156 : decode cX7_drawn 156 = .ok (.ifCond .ne 8, 3) := by decide +kernel
theorem dX7_drawn_159 : decode cX7_drawn 159 = .ok (.iload 4, 2) := by decide +kernel
theorem dX7_drawn_161 : decode cX7_drawn 161 = .ok (.goto 5, 3) := by decide +kernel
theorem dX7_drawn_164 : decode cX7_drawn 164 = .ok (.iload 5, 2) := by decide +kernel
theorem dX7_drawn_166 : decode cX7_drawn 166 = .ok (.ireturn, 1) := by decide +kernel
theorem dX7_image_0 : decode cX7_image 0 = .ok (.iload_n 1, 1) := by decide +kernel
theorem dX7_image_1 : decode cX7_image 1 = .ok (.ifCond .lt 8, 3) := by decide +kernel
theorem dX7_image_4 : decode cX7_image 4 = .ok (.iload_n 1, 1) := by decide +kernel
theorem dX7_image_5 : decode cX7_image 5 = .ok (.iconst 2, 1) := by decide +kernel
theorem dX7_image_6 : decode cX7_image 6 = .ok (.if_icmp .lt 6, 3) := by decide +kernel
theorem dX7_image_9 : decode cX7_image 9 = .ok (.ldc 69, 2) := by decide +kernel
theorem dX7_image_11 : decode cX7_image 11 = .ok (.ireturn, 1) := by decide +kernel
theorem dX7_image_12 : decode cX7_image 12 = .ok (.aload_n 0, 1) := by decide +kernel
theorem dX7_image_13 : decode cX7_image 13 = .ok (.invokevirtual 162, 3) := by decide +kernel
theorem dX7_image_16 : decode cX7_image 16 = .ok (.ifCond .eq 6, 3) := by decide +kernel
theorem dX7_image_19 : decode cX7_image 19 = .ok (.ldc 158, 2) := by decide +kernel
theorem dX7_image_21 : decode cX7_image 21 = .ok (.ireturn, 1) := by decide +kernel
theorem dX7_image_22 : decode cX7_image 22 = .ok (.aload_n 0, 1) := by decide +kernel
theorem dX7_image_23 : decode cX7_image 23 = .ok (.getfield 33, 3) := by decide +kernel
theorem dX7_image_26 : decode cX7_image 26 = .ok (.iload_n 1, 1) := by decide +kernel
theorem dX7_image_27 : decode cX7_image 27 = .ok (.aaload, 1) := by decide +kernel
theorem dX7_image_28 : decode cX7_image 28 = .ok (.aload_n 0, 1) := by decide +kernel
theorem dX7_image_29 : decode cX7_image 29 = .ok (.getfield 26, 3) := by decide +kernel
theorem dX7_image_32 : decode cX7_image 32 = .ok (.invokevirtual 135, 3) := by decide +kernel
theorem dX7_image_35 : decode cX7_image 35 = .ok (.iconst 1, 1) := by decide +kernel
theorem dX7_image_36 : decode cX7_image 36 = .ok (.ireturn, 1) := by decide +kernel
theorem dX7_restore_0 : decode cX7_restore 0 = .ok (.iload_n 1, 1) := by decide +kernel
theorem dX7_restore_1 : decode cX7_restore 1 = .ok (.ifCond .lt 8, 3) := by decide +kernel
theorem dX7_restore_4 : decode cX7_restore 4 = .ok (.iload_n 1, 1) := by decide +kernel
theorem dX7_restore_5 : decode cX7_restore 5 = .ok (.iconst 2, 1) := by decide +kernel
theorem dX7_restore_6 : decode cX7_restore 6 = .ok (.if_icmp .lt 6, 3) := by decide +kernel
theorem dX7_restore_9 : decode cX7_restore 9 = .ok (.ldc 69, 2) := by decide +kernel
theorem dX7_restore_11 : decode cX7_restore 11 = .ok (.ireturn, 1) := by decide +kernel
theorem dX7_restore_12 : decode cX7_restore 12 = .ok (.aload_n 0, 1) := by decide +kernel
theorem dX7_restore_13 : decode cX7_restore 13 = .ok (.getfield 33, 3) := by decide +kernel
theorem dX7_restore_16 : decode cX7_restore 16 = .ok (.iload_n 1, 1) := by decide +kernel
theorem dX7_restore_17 : decode cX7_restore 17 = .ok (.aaload, 1) := by decide +kernel
theorem dX7_restore_18 : decode cX7_restore 18 = .ok (.getfield 260, 3) := by decide +kernel
theorem dX7_restore_21 : decode cX7_restore 21 = .ok (.ifCond .ne 6, 3) := by decide +kernel
theorem dX7_restore_24 : decode cX7_restore 24 = .ok (.ldc 158, 2) := by decide +kernel
theorem dX7_restore_26 : decode cX7_restore 26 = .ok (.ireturn, 1) := by decide +kernel
theorem dX7_restore_27 : decode cX7_restore 27 = .ok (.aload_n 0, 1) := by decide +kernel
theorem dX7_restore_28 : decode cX7_restore 28 = .ok (.getfield 26, 3) := by decide +kernel
theorem dX7_restore_31 : decode cX7_restore 31 = .ok (.aload_n 0, 1) := by decide +kernel
theorem dX7_restore_32 : decode cX7_restore 32 = .ok (.getfield 33, 3) := by decide +kernel
theorem dX7_restore_35 : decode cX7_restore 35 = .ok (.iload_n 1, 1) := by decide +kernel
theorem dX7_restore_36 : decode cX7_restore 36 = .ok (.aaload, 1) := by decide +kernel
theorem dX7_restore_37 : decode cX7_restore 37 = .ok (.invokevirtual 135, 3) := by decide +kernel
theorem dX7_restore_40 : decode cX7_restore 40 = .ok (.aload_n 0, 1) := by decide +kernel
theorem dX7_restore_41 : decode cX7_restore 41 = .ok (.getfield 40, 3) := by decide +kernel
theorem dX7_restore_44 : decode cX7_restore 44 = .ok (.invokevirtual 138, 3) := by decide +kernel
theorem dX7_restore_47 : decode cX7_restore 47 = .ok (.aload_n 0, 1) := by decide +kernel
theorem dX7_restore_48 : decode cX7_restore 48 = .ok (.iconst 0, 1) := by decide +kernel
theorem dX7_restore_49 : decode cX7_restore 49 = .ok (.putfield 141, 3) := by decide +kernel
theorem dX7_restore_52 : decode cX7_restore 52 = .ok (.iconst 1, 1) := by decide +kernel
theorem dX7_restore_53 : decode cX7_restore 53 = .ok (.ireturn, 1) := by decide +kernel
theorem dX7_kind_0 : decode cX7_kind 0 = .ok (.aload_n 0, 1) := by decide +kernel
theorem dX7_kind_1 : decode cX7_kind 1 = .ok (.iload_n 1, 1) := by decide +kernel
theorem dX7_kind_2 : decode cX7_kind 2 = .ok (.invokevirtual 148, 3) := by decide +kernel
theorem dX7_kind_5 : decode cX7_kind 5 = .ok (.ifCond .eq 8, 3) := by decide +kernel
theorem dX7_kind_8 : decode cX7_kind 8 = .ok (.ldc 69, 2) := by decide +kernel
theorem dX7_kind_10 : decode cX7_kind 10 = .ok (.goto 12, 3) := by decide +kernel
theorem dX7_kind_13 : decode cX7_kind 13 = .ok (.aload_n 0, 1) := by decide +kernel
theorem dX7_kind_14 : decode cX7_kind 14 = .ok (.getfield 26, 3) := by decide +kernel
theorem dX7_kind_17 : decode cX7_kind 17 = .ok (.getfield 194, 3) := by decide +kernel
theorem dX7_kind_20 : decode cX7_kind 20 = .ok (.iload_n 1, 1) := by decide +kernel
theorem dX7_kind_21 : decode cX7_kind 21 = .ok (.iaload, 1) := by decide +kernel
theorem dX7_kind_22 : decode cX7_kind 22 = .ok (.ireturn, 1) := by decide +kernel
theorem dX7_as_0 : decode cX7_as 0 = .ok (.aload_n 0, 1) := by decide +kernel
theorem dX7_as_1 : decode cX7_as 1 = .ok (.iload_n 1, 1) := by decide +kernel
theorem dX7_as_2 : decode cX7_as 2 = .ok (.invokevirtual 148, 3) := by decide +kernel
theorem dX7_as_5 : decode cX7_as 5 = .ok (.ifCond .ne 12, 3) := by decide +kernel
theorem dX7_as_8 : decode cX7_as 8 = .ok (.iload_n 2, 1) := by decide +kernel
theorem dX7_as_9 : decode cX7_as 9 = .ok (.ifCond .lt 8, 3) := by decide +kernel
theorem dX7_as_12 : decode cX7_as 12 = .ok (.iload_n 2, 1) := by decide +kernel
theorem dX7_as_13 : decode cX7_as 13 = .ok (.iconst 5, 1) := by decide +kernel
theorem dX7_as_14 : decode cX7_as 14 = .ok (.if_icmp .le 6, 3) := by decide +kernel
theorem dX7_as_17 : decode cX7_as 17 = .ok (.ldc 69, 2) := by decide +kernel
theorem dX7_as_19 : decode cX7_as 19 = .ok (.ireturn, 1) := by decide +kernel
theorem dX7_as_20 : decode cX7_as 20 = .ok (.getstatic 331, 3) := by decide +kernel
theorem dX7_as_23 : decode cX7_as 23 = .ok (.aload_n 0, 1) := by decide +kernel
theorem dX7_as_24 : decode cX7_as 24 = .ok (.getfield 26, 3) := by decide +kernel
theorem dX7_as_27 : decode cX7_as 27 = .ok (.getfield 194, 3) := by decide +kernel
theorem dX7_as_30 : decode cX7_as 30 = .ok (.iload_n 1, 1) := by decide +kernel
theorem dX7_as_31 : decode cX7_as 31 = .ok (.iaload, 1) := by decide +kernel
theorem dX7_as_32 : decode cX7_as 32 = .ok (.iaload, 1) := by decide +kernel
theorem dX7_as_33 : decode cX7_as 33 = .ok (.iload_n 2, 1) := by decide +kernel
theorem dX7_as_34 : decode cX7_as 34 = .ok (.ishr, 1) := by decide +kernel
theorem dX7_as_35 : decode cX7_as 35 = .ok (.iconst 1, 1) := by decide +kernel
theorem dX7_as_36 : decode cX7_as 36 = .ok (.iand, 1) := by decide +kernel
theorem dX7_as_37 : decode cX7_as 37 = .ok (.ifCond .ne 9, 3) := by decide +kernel
theorem dX7_as_40 : decode cX7_as 40 = .ok (.aload_n 0, 1) := by decide +kernel
theorem dX7_as_41 : decode cX7_as 41 = .ok (.iconst 3, 1) := by decide +kernel
theorem dX7_as_42 : decode cX7_as 42 = .ok (.invokevirtual 70, 3) := by decide +kernel
theorem dX7_as_45 : decode cX7_as 45 = .ok (.ireturn, 1) := by decide +kernel
theorem dX7_as_46 : decode cX7_as 46 = .ok (.aload_n 0, 1) := by decide +kernel
theorem dX7_as_47 : decode cX7_as 47 = .ok (.iload_n 1, 1) := by decide +kernel
theorem dX7_as_48 : decode cX7_as 48 = .ok (.invokevirtual 78, 3) := by decide +kernel
theorem dX7_as_51 : decode cX7_as 51 = .ok (.ireturn, 1) := by decide +kernel
theorem dX7_ask_0 : decode cX7_ask 0 = .ok (.aload_n 0, 1) := by decide +kernel
theorem dX7_ask_1 : decode cX7_ask 1 = .ok (.iload_n 1, 1) := by decide +kernel
theorem dX7_ask_2 : decode cX7_ask 2 = .ok (.invokevirtual 148, 3) := by decide +kernel
theorem dX7_ask_5 : decode cX7_ask 5 = .ok (.ifCond .ne 12, 3) := by decide +kernel
theorem dX7_ask_8 : decode cX7_ask 8 = .ok (.iload_n 2, 1) := by decide +kernel
theorem dX7_ask_9 : decode cX7_ask 9 = .ok (.ifCond .lt 8, 3) := by decide +kernel
theorem dX7_ask_12 : decode cX7_ask 12 = .ok (.iload_n 2, 1) := by decide +kernel
theorem dX7_ask_13 : decode cX7_ask 13 = .ok (.iconst 1, 1) := by decide +kernel
theorem dX7_ask_14 : decode cX7_ask 14 = .ok (.if_icmp .le 6, 3) := by decide +kernel
theorem dX7_ask_17 : decode cX7_ask 17 = .ok (.ldc 69, 2) := by decide +kernel
theorem dX7_ask_19 : decode cX7_ask 19 = .ok (.ireturn, 1) := by decide +kernel
theorem dX7_ask_20 : decode cX7_ask 20 = .ok (.aload_n 0, 1) := by decide +kernel
theorem dX7_ask_21 : decode cX7_ask 21 = .ok (.getfield 61, 3) := by decide +kernel
theorem dX7_ask_24 : decode cX7_ask 24 = .ok (.aload_n 0, 1) := by decide +kernel
theorem dX7_ask_25 : decode cX7_ask 25 = .ok (.getfield 26, 3) := by decide +kernel
theorem dX7_ask_28 : decode cX7_ask 28 = .ok (.iload_n 1, 1) := by decide +kernel
theorem dX7_ask_29 : decode cX7_ask 29 = .ok (.invokevirtual 334, 3) := by decide +kernel
theorem dX7_ask_32 : decode cX7_ask 32 = .ok (.iload_n 2, 1) := by decide +kernel
theorem dX7_ask_33 : decode cX7_ask 33 = .ok (.ifCond .ne 13, 3) := by decide +kernel
theorem dX7_ask_36 : decode cX7_ask 36 = .ok (.aload_n 0, 1) := by decide +kernel
theorem dX7_ask_37 : decode cX7_ask 37 = .ok (.getfield 61, 3) := by decide +kernel
theorem dX7_ask_40 : decode cX7_ask 40 = .ok (.invokevirtual 337, 3) := by decide +kernel
theorem dX7_ask_43 : decode cX7_ask 43 = .ok (.goto 10, 3) := by decide +kernel
theorem dX7_ask_46 : decode cX7_ask 46 = .ok (.aload_n 0, 1) := by decide +kernel
theorem dX7_ask_47 : decode cX7_ask 47 = .ok (.getfield 61, 3) := by decide +kernel
theorem dX7_ask_50 : decode cX7_ask 50 = .ok (.invokevirtual 340, 3) := by decide +kernel
theorem dX7_ask_53 : decode cX7_ask 53 = .ok (.ireturn, 1) := by decide +kernel
theorem dX7_trace_0 : decode cX7_trace 0 = .ok (.iload_n 1, 1) := by decide +kernel
theorem dX7_trace_1 : decode cX7_trace 1 = .ok (.ifCond .lt 14, 3) := by decide +kernel
theorem dX7_trace_4 : decode cX7_trace 4 = .ok (.iload_n 1, 1) := by decide +kernel
theorem dX7_trace_5 : decode cX7_trace 5 = .ok (.aload_n 0, 1) := by decide +kernel
theorem dX7_trace_6 : decode cX7_trace 6 = .ok (.getfield 61, 3) := by decide +kernel
theorem dX7_trace_9 : decode cX7_trace 9 = .ok (.getfield 343, 3) := by decide +kernel
theorem dX7_trace_12 : decode cX7_trace 12 = .ok (.if_icmp .lt 8, 3) := by decide +kernel
theorem dX7_trace_15 : decode cX7_trace 15 = .ok (.ldc 169, 2) := by decide +kernel
theorem dX7_trace_17 : decode cX7_trace 17 = .ok (.goto 12, 3) := by decide +kernel
theorem dX7_trace_20 : decode cX7_trace 20 = .ok (.aload_n 0, 1) := by decide +kernel
theorem dX7_trace_21 : decode cX7_trace 21 = .ok (.getfield 61, 3) := by decide +kernel
theorem dX7_trace_24 : decode cX7_trace 24 = .ok (.getfield 344, 3) := by decide +kernel
theorem dX7_trace_27 : decode cX7_trace 27 = .ok (.iload_n 1, 1) := by decide +kernel
theorem dX7_trace_28 : decode cX7_trace 28 = .ok (.iaload, 1) := by decide +kernel
theorem dX7_trace_29 : decode cX7_trace 29 = .ok (.ireturn, 1) := by decide +kernel
theorem dX7_count_0 : decode cX7_count 0 = .ok (.iload_n 1, 1) := by decide +kernel
theorem dX7_count_1 : decode cX7_count 1 = .ok (.tableswitch 87 0 5 #[39, 47, 55, 63, 71, 79], 39) := by decide +kernel
theorem dX7_count_40 : decode cX7_count 40 = .ok (.aload_n 0, 1) := by decide +kernel
theorem dX7_count_41 : decode cX7_count 41 = .ok (.getfield 10, 3) := by decide +kernel
theorem dX7_count_44 : decode cX7_count 44 = .ok (.invokevirtual 347, 3) := by decide +kernel
theorem dX7_count_47 : decode cX7_count 47 = .ok (.ireturn, 1) := by decide +kernel
theorem dX7_count_48 : decode cX7_count 48 = .ok (.aload_n 0, 1) := by decide +kernel
theorem dX7_count_49 : decode cX7_count 49 = .ok (.getfield 26, 3) := by decide +kernel
theorem dX7_count_52 : decode cX7_count 52 = .ok (.getfield 145, 3) := by decide +kernel
theorem dX7_count_55 : decode cX7_count 55 = .ok (.ireturn, 1) := by decide +kernel
theorem dX7_count_56 : decode cX7_count 56 = .ok (.aload_n 0, 1) := by decide +kernel
theorem dX7_count_57 : decode cX7_count 57 = .ok (.getfield 26, 3) := by decide +kernel
theorem dX7_count_60 : decode cX7_count 60 = .ok (.getfield 260, 3) := by decide +kernel
theorem dX7_count_63 : decode cX7_count 63 = .ok (.ireturn, 1) := by decide +kernel
theorem dX7_count_64 : decode cX7_count 64 = .ok (.aload_n 0, 1) := by decide +kernel
theorem dX7_count_65 : decode cX7_count 65 = .ok (.getfield 26, 3) := by decide +kernel
theorem dX7_count_68 : decode cX7_count 68 = .ok (.invokevirtual 350, 3) := by decide +kernel
theorem dX7_count_71 : decode cX7_count 71 = .ok (.ireturn, 1) := by decide +kernel
theorem dX7_count_72 : decode cX7_count 72 = .ok (.aload_n 0, 1) := by decide +kernel
theorem dX7_count_73 : decode cX7_count 73 = .ok (.getfield 40, 3) := by decide +kernel
theorem dX7_count_76 : decode cX7_count 76 = .ok (.getfield 200, 3) := by decide +kernel
theorem dX7_count_79 : decode cX7_count 79 = .ok (.ireturn, 1) := by decide +kernel
theorem dX7_count_80 : decode cX7_count 80 = .ok (.aload_n 0, 1) := by decide +kernel
theorem dX7_count_81 : decode cX7_count 81 = .ok (.getfield 19, 3) := by decide +kernel
theorem dX7_count_84 : decode cX7_count 84 = .ok (.getfield 121, 3) := by decide +kernel
theorem dX7_count_87 : decode cX7_count 87 = .ok (.ireturn, 1) := by decide +kernel
theorem dX7_count_88 : decode cX7_count 88 = .ok (.ldc 69, 2) := by decide +kernel
theorem dX7_count_90 : decode cX7_count 90 = .ok (.ireturn, 1) := by decide +kernel
theorem dX7_status_0 : decode cX7_status 0 = .ok (.aload_n 0, 1) := by decide +kernel
theorem dX7_status_1 : decode cX7_status 1 = .ok (.getfield 268, 3) := by decide +kernel
theorem dX7_status_4 : decode cX7_status 4 = .ok (.ireturn, 1) := by decide +kernel
theorem dX7_found_0 : decode cX7_found 0 = .ok (.aload_n 0, 1) := by decide +kernel
theorem dX7_found_1 : decode cX7_found 1 = .ok (.iload_n 1, 1) := by decide +kernel
theorem dX7_found_2 : decode cX7_found 2 = .ok (.putfield 268, 3) := by decide +kernel
theorem dX7_found_5 : decode cX7_found 5 = .ok (.ldc_w 353, 3) := by decide +kernel
theorem dX7_found_8 : decode cX7_found 8 = .ok (.iload_n 1, 1) := by decide +kernel
theorem dX7_found_9 : decode cX7_found 9 = .ok (.isub, 1) := by decide +kernel
theorem dX7_found_10 : decode cX7_found 10 = .ok (.ireturn, 1) := by decide +kernel
theorem dX7_well_0 : decode cX7_well 0 = .ok (.aload_n 0, 1) := by decide +kernel
theorem dX7_well_1 : decode cX7_well 1 = .ok (.iconst 0, 1) := by decide +kernel
theorem dX7_well_2 : decode cX7_well 2 = .ok (.putfield 268, 3) := by decide +kernel
theorem dX7_well_5 : decode cX7_well 5 = .ok (.iload_n 1, 1) := by decide +kernel
theorem dX7_well_6 : decode cX7_well 6 = .ok (.ireturn, 1) := by decide +kernel
theorem dX7_noRow_0 : decode cX7_noRow 0 = .ok (.iload_n 1, 1) := by decide +kernel
theorem dX7_noRow_1 : decode cX7_noRow 1 = .ok (.ifCond .lt 9, 3) := by decide +kernel
theorem dX7_noRow_4 : decode cX7_noRow 4 = .ok (.iload_n 1, 1) := by decide +kernel
theorem dX7_noRow_5 : decode cX7_noRow 5 = .ok (.bipush 8, 2) := by decide +kernel
theorem dX7_noRow_7 : decode cX7_noRow 7 = .ok (.if_icmp .lt 7, 3) := by decide +kernel
theorem dX7_noRow_10 : decode cX7_noRow 10 = .ok (.iconst 1, 1) := by decide +kernel
theorem dX7_noRow_11 : decode cX7_noRow 11 = .ok (.goto 4, 3) := by decide +kernel
theorem dX7_noRow_14 : decode cX7_noRow 14 = .ok (.iconst 0, 1) := by decide +kernel
theorem dX7_noRow_15 : decode cX7_noRow 15 = .ok (.ireturn, 1) := by decide +kernel
theorem dX7_noDay_0 : decode cX7_noDay 0 = .ok (.aload_n 0, 1) := by decide +kernel
theorem dX7_noDay_1 : decode cX7_noDay 1 = .ok (.getfield 26, 3) := by decide +kernel
theorem dX7_noDay_4 : decode cX7_noDay 4 = .ok (.getfield 260, 3) := by decide +kernel
theorem dX7_noDay_7 : decode cX7_noDay 7 = .ok (.ifCond .ne 7, 3) := by decide +kernel
theorem dX7_noDay_10 : decode cX7_noDay 10 = .ok (.iconst 1, 1) := by decide +kernel
theorem dX7_noDay_11 : decode cX7_noDay 11 = .ok (.goto 4, 3) := by decide +kernel
theorem dX7_noDay_14 : decode cX7_noDay 14 = .ok (.iconst 0, 1) := by decide +kernel
theorem dX7_noDay_15 : decode cX7_noDay 15 = .ok (.ireturn, 1) := by decide +kernel
theorem dX7_noHour_0 : decode cX7_noHour 0 = .ok (.iload_n 1, 1) := by decide +kernel
theorem dX7_noHour_1 : decode cX7_noHour 1 = .ok (.ifCond .lt 14, 3) := by decide +kernel
theorem dX7_noHour_4 : decode cX7_noHour 4 = .ok (.iload_n 1, 1) := by decide +kernel
theorem dX7_noHour_5 : decode cX7_noHour 5 = .ok (.aload_n 0, 1) := by decide +kernel
theorem dX7_noHour_6 : decode cX7_noHour 6 = .ok (.getfield 26, 3) := by decide +kernel
theorem dX7_noHour_9 : decode cX7_noHour 9 = .ok (.getfield 260, 3) := by decide +kernel
theorem dX7_noHour_12 : decode cX7_noHour 12 = .ok (.if_icmp .lt 7, 3) := by decide +kernel
theorem dX7_noHour_15 : decode cX7_noHour 15 = .ok (.iconst 1, 1) := by decide +kernel
theorem dX7_noHour_16 : decode cX7_noHour 16 = .ok (.goto 4, 3) := by decide +kernel
theorem dX7_noHour_19 : decode cX7_noHour 19 = .ok (.iconst 0, 1) := by decide +kernel
theorem dX7_noHour_20 : decode cX7_noHour 20 = .ok (.ireturn, 1) := by decide +kernel
theorem dX7_noUnit_0 : decode cX7_noUnit 0 = .ok (.iload_n 1, 1) := by decide +kernel
theorem dX7_noUnit_1 : decode cX7_noUnit 1 = .ok (.ifCond .lt 14, 3) := by decide +kernel
theorem dX7_noUnit_4 : decode cX7_noUnit 4 = .ok (.iload_n 1, 1) := by decide +kernel
theorem dX7_noUnit_5 : decode cX7_noUnit 5 = .ok (.aload_n 0, 1) := by decide +kernel
theorem dX7_noUnit_6 : decode cX7_noUnit 6 = .ok (.getfield 26, 3) := by decide +kernel
theorem dX7_noUnit_9 : decode cX7_noUnit 9 = .ok (.getfield 145, 3) := by decide +kernel
theorem dX7_noUnit_12 : decode cX7_noUnit 12 = .ok (.if_icmp .lt 7, 3) := by decide +kernel
theorem dX7_noUnit_15 : decode cX7_noUnit 15 = .ok (.iconst 1, 1) := by decide +kernel
theorem dX7_noUnit_16 : decode cX7_noUnit 16 = .ok (.goto 4, 3) := by decide +kernel
theorem dX7_noUnit_19 : decode cX7_noUnit 19 = .ok (.iconst 0, 1) := by decide +kernel
theorem dX7_noUnit_20 : decode cX7_noUnit 20 = .ok (.ireturn, 1) := by decide +kernel
theorem dX7_keepForUndo_0 : decode cX7_keepForUndo 0 = .ok (.aload_n 0, 1) := by decide +kernel
theorem dX7_keepForUndo_1 : decode cX7_keepForUndo 1 = .ok (.getfield 40, 3) := by decide +kernel
theorem dX7_keepForUndo_4 : decode cX7_keepForUndo 4 = .ok (.aload_n 0, 1) := by decide +kernel
theorem dX7_keepForUndo_5 : decode cX7_keepForUndo 5 = .ok (.getfield 26, 3) := by decide +kernel
theorem dX7_keepForUndo_8 : decode cX7_keepForUndo 8 = .ok (.invokevirtual 354, 3) := by decide +kernel
theorem dX7_keepForUndo_11 : decode cX7_keepForUndo 11 = .ok (.aload_n 0, 1) := by decide +kernel
theorem dX7_keepForUndo_12 : decode cX7_keepForUndo 12 = .ok (.iconst 0, 1) := by decide +kernel
theorem dX7_keepForUndo_13 : decode cX7_keepForUndo 13 = .ok (.putfield 141, 3) := by decide +kernel
theorem dX7_keepForUndo_16 : decode cX7_keepForUndo 16 = .ok (.return_, 1) := by decide +kernel
theorem dX7_bestNow_0 : decode cX7_bestNow 0 = .ok (.aload_n 0, 1) := by decide +kernel
theorem dX7_bestNow_1 : decode cX7_bestNow 1 = .ok (.getfield 141, 3) := by decide +kernel
theorem dX7_bestNow_4 : decode cX7_bestNow 4 = .ok (.ifCond .ne 24, 3) := by decide +kernel
theorem dX7_bestNow_7 : decode cX7_bestNow 7 = .ok (.aload_n 0, 1) := by decide +kernel
theorem dX7_bestNow_8 : decode cX7_bestNow 8 = .ok (.aload_n 0, 1) := by decide +kernel
theorem dX7_bestNow_9 : decode cX7_bestNow 9 = .ok (.getfield 47, 3) := by decide +kernel
theorem dX7_bestNow_12 : decode cX7_bestNow 12 = .ok (.aload_n 0, 1) := by decide +kernel
theorem dX7_bestNow_13 : decode cX7_bestNow 13 = .ok (.getfield 26, 3) := by decide +kernel
theorem dX7_bestNow_16 : decode cX7_bestNow 16 = .ok (.iconst (-1), 1) := by decide +kernel
theorem dX7_bestNow_17 : decode cX7_bestNow 17 = .ok (.invokevirtual 302, 3) := by decide +kernel
theorem dX7_bestNow_20 : decode cX7_bestNow 20 = .ok (.putfield 357, 3) := by decide +kernel
theorem dX7_bestNow_23 : decode cX7_bestNow 23 = .ok (.aload_n 0, 1) := by decide +kernel
theorem dX7_bestNow_24 : decode cX7_bestNow 24 = .ok (.iconst 1, 1) := by decide +kernel
theorem dX7_bestNow_25 : decode cX7_bestNow 25 = .ok (.putfield 141, 3) := by decide +kernel
theorem dX7_bestNow_28 : decode cX7_bestNow 28 = .ok (.aload_n 0, 1) := by decide +kernel
theorem dX7_bestNow_29 : decode cX7_bestNow 29 = .ok (.getfield 357, 3) := by decide +kernel
theorem dX7_bestNow_32 : decode cX7_bestNow 32 = .ok (.lreturn, 1) := by decide +kernel
theorem dX7_countDemands_0 : decode cX7_countDemands 0 = .ok (.iconst 0, 1) := by decide +kernel
theorem dX7_countDemands_1 : decode cX7_countDemands 1 = .ok (.istore_n 3, 1) := by decide +kernel
theorem dX7_countDemands_2 : decode cX7_countDemands 2 = .ok (.aload_n 0, 1) := by decide +kernel
theorem dX7_countDemands_3 : decode cX7_countDemands 3 = .ok (.getfield 47, 3) := by decide +kernel
theorem dX7_countDemands_6 : decode cX7_countDemands 6 = .ok (.aload_n 0, 1) := by decide +kernel
theorem dX7_countDemands_7 : decode cX7_countDemands 7 = .ok (.getfield 26, 3) := by decide +kernel
theorem dX7_countDemands_10 : decode cX7_countDemands 10 = .ok (.iload_n 1, 1) := by decide +kernel
theorem dX7_countDemands_11 : decode cX7_countDemands 11 = .ok (.invokevirtual 360, 3) := by decide +kernel
theorem dX7_countDemands_14 : decode cX7_countDemands 14 = .ok (.iconst 0, 1) := by decide +kernel
theorem dX7_countDemands_15 : decode cX7_countDemands 15 = .ok (.istore 4, 2) := by decide +kernel
theorem dX7_countDemands_17 : decode cX7_countDemands 17 = .ok (.iload 4, 2) := by decide +kernel
theorem dX7_countDemands_19 : decode cX7_countDemands 19 = .ok (.bipush 60, 2) := by decide +kernel
theorem dX7_countDemands_21 : decode cX7_countDemands 21 = .ok (.if_icmp .gt 29, 3) := by decide +kernel
theorem dX7_countDemands_24 : decode cX7_countDemands 24 = .ok (.aload_n 0, 1) := by decide +kernel
theorem dX7_countDemands_25 : decode cX7_countDemands 25 = .ok (.getfield 47, 3) := by decide +kernel
theorem dX7_countDemands_28 : decode cX7_countDemands 28 = .ok (.aload_n 0, 1) := by decide +kernel
theorem dX7_countDemands_29 : decode cX7_countDemands 29 = .ok (.getfield 26, 3) := by decide +kernel
theorem dX7_countDemands_32 : decode cX7_countDemands 32 = .ok (.iload 4, 2) := by decide +kernel
theorem dX7_countDemands_34 : decode cX7_countDemands 34 = .ok (.invokevirtual 363, 3) := by decide +kernel
theorem dX7_countDemands_37 : decode cX7_countDemands 37 = .ok (.iload_n 2, 1) := by decide +kernel
theorem dX7_countDemands_38 : decode cX7_countDemands 38 = .ok (.if_icmp .ne 6, 3) := by decide +kernel
theorem dX7_countDemands_41 : decode cX7_countDemands 41 = .ok (.iinc 3 1, 3) := by decide +kernel
theorem dX7_countDemands_44 : decode cX7_countDemands 44 = .ok (.iinc 4 1, 3) := by decide +kernel
theorem dX7_countDemands_47 : decode cX7_countDemands 47 = .ok (.goto (-30), 3) := by decide +kernel
theorem dX7_countDemands_50 : decode cX7_countDemands 50 = .ok (.iload_n 3, 1) := by decide +kernel
theorem dX7_countDemands_51 : decode cX7_countDemands 51 = .ok (.ireturn, 1) := by decide +kernel
theorem dX7_leastDemand_0 : decode cX7_leastDemand 0 = .ok (.aload_n 0, 1) := by decide +kernel
theorem dX7_leastDemand_1 : decode cX7_leastDemand 1 = .ok (.getfield 47, 3) := by decide +kernel
theorem dX7_leastDemand_4 : decode cX7_leastDemand 4 = .ok (.aload_n 0, 1) := by decide +kernel
theorem dX7_leastDemand_5 : decode cX7_leastDemand 5 = .ok (.getfield 26, 3) := by decide +kernel
theorem dX7_leastDemand_8 : decode cX7_leastDemand 8 = .ok (.iload_n 1, 1) := by decide +kernel
theorem dX7_leastDemand_9 : decode cX7_leastDemand 9 = .ok (.invokevirtual 360, 3) := by decide +kernel
theorem dX7_leastDemand_12 : decode cX7_leastDemand 12 = .ok (.iconst 0, 1) := by decide +kernel
theorem dX7_leastDemand_13 : decode cX7_leastDemand 13 = .ok (.istore_n 3, 1) := by decide +kernel
theorem dX7_leastDemand_14 : decode cX7_leastDemand 14 = .ok (.iload_n 3, 1) := by decide +kernel
theorem dX7_leastDemand_15 : decode cX7_leastDemand 15 = .ok (.bipush 60, 2) := by decide +kernel
theorem dX7_leastDemand_17 : decode cX7_leastDemand 17 = .ok (.if_icmp .gt 27, 3) := by decide +kernel
theorem dX7_leastDemand_20 : decode cX7_leastDemand 20 = .ok (.aload_n 0, 1) := by decide +kernel
theorem dX7_leastDemand_21 : decode cX7_leastDemand 21 = .ok (.getfield 47, 3) := by decide +kernel
theorem dX7_leastDemand_24 : decode cX7_leastDemand 24 = .ok (.aload_n 0, 1) := by decide +kernel
theorem dX7_leastDemand_25 : decode cX7_leastDemand 25 = .ok (.getfield 26, 3) := by decide +kernel
theorem dX7_leastDemand_28 : decode cX7_leastDemand 28 = .ok (.iload_n 3, 1) := by decide +kernel
theorem dX7_leastDemand_29 : decode cX7_leastDemand 29 = .ok (.invokevirtual 363, 3) := by decide +kernel
theorem dX7_leastDemand_32 : decode cX7_leastDemand 32 = .ok (.iload_n 2, 1) := by decide +kernel
theorem dX7_leastDemand_33 : decode cX7_leastDemand 33 = .ok (.if_icmp .ne 5, 3) := by decide +kernel
theorem dX7_leastDemand_36 : decode cX7_leastDemand 36 = .ok (.iload_n 3, 1) := by decide +kernel
theorem dX7_leastDemand_37 : decode cX7_leastDemand 37 = .ok (.ireturn, 1) := by decide +kernel
theorem dX7_leastDemand_38 : decode cX7_leastDemand 38 = .ok (.iinc 3 1, 3) := by decide +kernel
theorem dX7_leastDemand_41 : decode cX7_leastDemand 41 = .ok (.goto (-27), 3) := by decide +kernel
theorem dX7_leastDemand_44 : decode cX7_leastDemand 44 = .ok (.ldc 169, 2) := by decide +kernel
theorem dX7_leastDemand_46 : decode cX7_leastDemand 46 = .ok (.ireturn, 1) := by decide +kernel
theorem dX7_kindsThatCost_0 : decode cX7_kindsThatCost 0 = .ok (.iconst 0, 1) := by decide +kernel
theorem dX7_kindsThatCost_1 : decode cX7_kindsThatCost 1 = .ok (.istore_n 3, 1) := by decide +kernel
theorem dX7_kindsThatCost_2 : decode cX7_kindsThatCost 2 = .ok (.aload_n 0, 1) := by decide +kernel
theorem dX7_kindsThatCost_3 : decode cX7_kindsThatCost 3 = .ok (.getfield 30, 3) := by decide +kernel
theorem dX7_kindsThatCost_6 : decode cX7_kindsThatCost 6 = .ok (.aload_n 0, 1) := by decide +kernel
theorem dX7_kindsThatCost_7 : decode cX7_kindsThatCost 7 = .ok (.getfield 26, 3) := by decide +kernel
theorem dX7_kindsThatCost_10 : decode cX7_kindsThatCost 10 = .ok (.invokevirtual 135, 3) := by decide +kernel
theorem dX7_kindsThatCost_13 : decode cX7_kindsThatCost 13 = .ok (.iconst 1, 1) := by decide +kernel
theorem dX7_kindsThatCost_14 : decode cX7_kindsThatCost 14 = .ok (.istore 4, 2) := by decide +kernel
theorem dX7_kindsThatCost_16 : decode cX7_kindsThatCost 16 = .ok (.iload 4, 2) := by decide +kernel
theorem dX7_kindsThatCost_18 : decode cX7_kindsThatCost 18 = .ok (.iconst 5, 1) := by decide +kernel
theorem dX7_kindsThatCost_19 : decode cX7_kindsThatCost 19 = .ok (.if_icmp .gt 45, 3) := by decide +kernel
theorem dX7_kindsThatCost_22 : decode cX7_kindsThatCost 22 = .ok (.aload_n 0, 1) := by decide +kernel
theorem dX7_kindsThatCost_23 : decode cX7_kindsThatCost 23 = .ok (.getfield 30, 3) := by decide +kernel
theorem dX7_kindsThatCost_26 : decode cX7_kindsThatCost 26 = .ok (.iload_n 1, 1) := by decide +kernel
theorem dX7_kindsThatCost_27 : decode cX7_kindsThatCost 27 = .ok (.iload 4, 2) := by decide +kernel
theorem dX7_kindsThatCost_29 : decode cX7_kindsThatCost 29 = .ok (.invokevirtual 197, 3) := by decide +kernel
theorem dX7_kindsThatCost_32 : decode cX7_kindsThatCost 32 = .ok (.aload_n 0, 1) := by decide +kernel
theorem dX7_kindsThatCost_33 : decode cX7_kindsThatCost 33 = .ok (.getfield 47, 3) := by decide +kernel
theorem dX7_kindsThatCost_36 : decode cX7_kindsThatCost 36 = .ok (.aload_n 0, 1) := by decide +kernel
theorem dX7_kindsThatCost_37 : decode cX7_kindsThatCost 37 = .ok (.getfield 30, 3) := by decide +kernel
theorem dX7_kindsThatCost_40 : decode cX7_kindsThatCost 40 = .ok (.iconst (-1), 1) := by decide +kernel
theorem dX7_kindsThatCost_41 : decode cX7_kindsThatCost 41 = .ok (.invokevirtual 302, 3) := by decide +kernel
theorem dX7_kindsThatCost_44 : decode cX7_kindsThatCost 44 = .ok (.invokestatic 174, 3) := by decide +kernel
theorem dX7_kindsThatCost_47 : decode cX7_kindsThatCost 47 = .ok (.iload_n 2, 1) := by decide +kernel
theorem dX7_kindsThatCost_48 : decode cX7_kindsThatCost 48 = .ok (.if_icmp .ne 10, 3) := by decide +kernel
theorem dX7_kindsThatCost_51 : decode cX7_kindsThatCost 51 = .ok (.iload_n 3, 1) := by decide +kernel
theorem dX7_kindsThatCost_52 : decode cX7_kindsThatCost 52 = .ok (.iconst 1, 1) := by decide +kernel
theorem dX7_kindsThatCost_53 : decode cX7_kindsThatCost 53 = .ok (.iload 4, 2) := by decide +kernel
theorem dX7_kindsThatCost_55 : decode cX7_kindsThatCost 55 = .ok (.ishl, 1) := by decide +kernel
theorem dX7_kindsThatCost_56 : decode cX7_kindsThatCost 56 = .ok (.ior, 1) := by decide +kernel
theorem dX7_kindsThatCost_57 : decode cX7_kindsThatCost 57 = .ok (.istore_n 3, 1) := by decide +kernel
theorem dX7_kindsThatCost_58 : decode cX7_kindsThatCost 58 = .ok (.iinc 4 1, 3) := by decide +kernel
theorem dX7_kindsThatCost_61 : decode cX7_kindsThatCost 61 = .ok (.goto (-45), 3) := by decide +kernel
theorem dX7_kindsThatCost_64 : decode cX7_kindsThatCost 64 = .ok (.iload_n 3, 1) := by decide +kernel
theorem dX7_kindsThatCost_65 : decode cX7_kindsThatCost 65 = .ok (.ireturn, 1) := by decide +kernel
theorem dX7_pricesThatCost_0 : decode cX7_pricesThatCost 0 = .ok (.iconst 0, 1) := by decide +kernel
theorem dX7_pricesThatCost_1 : decode cX7_pricesThatCost 1 = .ok (.istore_n 3, 1) := by decide +kernel
theorem dX7_pricesThatCost_2 : decode cX7_pricesThatCost 2 = .ok (.aload_n 0, 1) := by decide +kernel
theorem dX7_pricesThatCost_3 : decode cX7_pricesThatCost 3 = .ok (.getfield 30, 3) := by decide +kernel
theorem dX7_pricesThatCost_6 : decode cX7_pricesThatCost 6 = .ok (.aload_n 0, 1) := by decide +kernel
theorem dX7_pricesThatCost_7 : decode cX7_pricesThatCost 7 = .ok (.getfield 26, 3) := by decide +kernel
theorem dX7_pricesThatCost_10 : decode cX7_pricesThatCost 10 = .ok (.invokevirtual 135, 3) := by decide +kernel
theorem dX7_pricesThatCost_13 : decode cX7_pricesThatCost 13 = .ok (.iconst 1, 1) := by decide +kernel
theorem dX7_pricesThatCost_14 : decode cX7_pricesThatCost 14 = .ok (.istore 4, 2) := by decide +kernel
theorem dX7_pricesThatCost_16 : decode cX7_pricesThatCost 16 = .ok (.iload 4, 2) := by decide +kernel
theorem dX7_pricesThatCost_18 : decode cX7_pricesThatCost 18 = .ok (.bipush 9, 2) := by decide +kernel
theorem dX7_pricesThatCost_20 : decode cX7_pricesThatCost 20 = .ok (.if_icmp .gt 45, 3) := by decide +kernel
theorem dX7_pricesThatCost_23 : decode cX7_pricesThatCost 23 = .ok (.aload_n 0, 1) := by decide +kernel
theorem dX7_pricesThatCost_24 : decode cX7_pricesThatCost 24 = .ok (.getfield 30, 3) := by decide +kernel
theorem dX7_pricesThatCost_27 : decode cX7_pricesThatCost 27 = .ok (.iload_n 1, 1) := by decide +kernel
theorem dX7_pricesThatCost_28 : decode cX7_pricesThatCost 28 = .ok (.iload 4, 2) := by decide +kernel
theorem dX7_pricesThatCost_30 : decode cX7_pricesThatCost 30 = .ok (.invokevirtual 190, 3) := by decide +kernel
theorem dX7_pricesThatCost_33 : decode cX7_pricesThatCost 33 = .ok (.aload_n 0, 1) := by decide +kernel
theorem dX7_pricesThatCost_34 : decode cX7_pricesThatCost 34 = .ok (.getfield 47, 3) := by decide +kernel
theorem dX7_pricesThatCost_37 : decode cX7_pricesThatCost 37 = .ok (.aload_n 0, 1) := by decide +kernel
theorem dX7_pricesThatCost_38 : decode cX7_pricesThatCost 38 = .ok (.getfield 30, 3) := by decide +kernel
theorem dX7_pricesThatCost_41 : decode cX7_pricesThatCost 41 = .ok (.iconst (-1), 1) := by decide +kernel
theorem dX7_pricesThatCost_42 : decode cX7_pricesThatCost 42 = .ok (.invokevirtual 302, 3) := by decide +kernel
theorem dX7_pricesThatCost_45 : decode cX7_pricesThatCost 45 = .ok (.invokestatic 174, 3) := by decide +kernel
theorem dX7_pricesThatCost_48 : decode cX7_pricesThatCost 48 = .ok (.iload_n 2, 1) := by decide +kernel
theorem dX7_pricesThatCost_49 : decode cX7_pricesThatCost 49 = .ok (.if_icmp .ne 10, 3) := by decide +kernel
theorem dX7_pricesThatCost_52 : decode cX7_pricesThatCost 52 = .ok (.iload_n 3, 1) := by decide +kernel
theorem dX7_pricesThatCost_53 : decode cX7_pricesThatCost 53 = .ok (.iconst 1, 1) := by decide +kernel
theorem dX7_pricesThatCost_54 : decode cX7_pricesThatCost 54 = .ok (.iload 4, 2) := by decide +kernel
theorem dX7_pricesThatCost_56 : decode cX7_pricesThatCost 56 = .ok (.ishl, 1) := by decide +kernel
theorem dX7_pricesThatCost_57 : decode cX7_pricesThatCost 57 = .ok (.ior, 1) := by decide +kernel
theorem dX7_pricesThatCost_58 : decode cX7_pricesThatCost 58 = .ok (.istore_n 3, 1) := by decide +kernel
theorem dX7_pricesThatCost_59 : decode cX7_pricesThatCost 59 = .ok (.iinc 4 1, 3) := by decide +kernel
theorem dX7_pricesThatCost_62 : decode cX7_pricesThatCost 62 = .ok (.goto (-46), 3) := by decide +kernel
theorem dX7_pricesThatCost_65 : decode cX7_pricesThatCost 65 = .ok (.iload_n 3, 1) := by decide +kernel
theorem dX7_pricesThatCost_66 : decode cX7_pricesThatCost 66 = .ok (.ireturn, 1) := by decide +kernel
theorem dX7_kindsThatFit_0 : decode cX7_kindsThatFit 0 = .ok (.iconst 0, 1) := by decide +kernel
theorem dX7_kindsThatFit_1 : decode cX7_kindsThatFit 1 = .ok (.istore 4, 2) := by decide +kernel
theorem dX7_kindsThatFit_3 : decode cX7_kindsThatFit 3 = .ok (.aload_n 0, 1) := by decide +kernel
theorem dX7_kindsThatFit_4 : decode cX7_kindsThatFit 4 = .ok (.getfield 30, 3) := by decide +kernel
theorem dX7_kindsThatFit_7 : decode cX7_kindsThatFit 7 = .ok (.aload_n 0, 1) := by decide +kernel
theorem dX7_kindsThatFit_8 : decode cX7_kindsThatFit 8 = .ok (.getfield 26, 3) := by decide +kernel
theorem dX7_kindsThatFit_11 : decode cX7_kindsThatFit 11 = .ok (.invokevirtual 135, 3) := by decide +kernel
theorem dX7_kindsThatFit_14 : decode cX7_kindsThatFit 14 = .ok (.iconst 1, 1) := by decide +kernel
theorem dX7_kindsThatFit_15 : decode cX7_kindsThatFit 15 = .ok (.istore 5, 2) := by decide +kernel
theorem dX7_kindsThatFit_17 : decode cX7_kindsThatFit 17 = .ok (.iload 5, 2) := by decide +kernel
theorem dX7_kindsThatFit_19 : decode cX7_kindsThatFit 19 = .ok (.iconst 5, 1) := by decide +kernel
theorem dX7_kindsThatFit_20 : decode cX7_kindsThatFit 20 = .ok (.if_icmp .gt 59, 3) := by decide +kernel
theorem dX7_kindsThatFit_23 : decode cX7_kindsThatFit 23 = .ok (.aload_n 0, 1) := by decide +kernel
theorem dX7_kindsThatFit_24 : decode cX7_kindsThatFit 24 = .ok (.getfield 30, 3) := by decide +kernel
theorem dX7_kindsThatFit_27 : decode cX7_kindsThatFit 27 = .ok (.iload_n 1, 1) := by decide +kernel
theorem dX7_kindsThatFit_28 : decode cX7_kindsThatFit 28 = .ok (.iload 5, 2) := by decide +kernel
theorem dX7_kindsThatFit_30 : decode cX7_kindsThatFit 30 = .ok (.invokevirtual 197, 3) := by decide +kernel
theorem dX7_kindsThatFit_33 : decode cX7_kindsThatFit 33 = .ok (.aload_n 0, 1) := by decide +kernel
theorem dX7_kindsThatFit_34 : decode cX7_kindsThatFit 34 = .ok (.getfield 47, 3) := by decide +kernel
theorem dX7_kindsThatFit_37 : decode cX7_kindsThatFit 37 = .ok (.aload_n 0, 1) := by decide +kernel
theorem dX7_kindsThatFit_38 : decode cX7_kindsThatFit 38 = .ok (.getfield 30, 3) := by decide +kernel
theorem dX7_kindsThatFit_41 : decode cX7_kindsThatFit 41 = .ok (.iconst (-1), 1) := by decide +kernel
theorem dX7_kindsThatFit_42 : decode cX7_kindsThatFit 42 = .ok (.invokevirtual 302, 3) := by decide +kernel
theorem dX7_kindsThatFit_45 : decode cX7_kindsThatFit 45 = .ok (.lstore 6, 2) := by decide +kernel
theorem dX7_kindsThatFit_47 : decode cX7_kindsThatFit 47 = .ok (.lload 6, 2) := by decide +kernel
theorem dX7_kindsThatFit_49 : decode cX7_kindsThatFit 49 = .ok (.lconst 0, 1) := by decide +kernel
theorem dX7_kindsThatFit_50 : decode cX7_kindsThatFit 50 = .ok (.lcmp, 1) := by decide +kernel
theorem dX7_kindsThatFit_51 : decode cX7_kindsThatFit 51 = .ok (.ifCond .lt 22, 3) := by decide +kernel
theorem dX7_kindsThatFit_54 : decode cX7_kindsThatFit 54 = .ok (.lload 6, 2) := by decide +kernel
theorem dX7_kindsThatFit_56 : decode cX7_kindsThatFit 56 = .ok (.aload_n 2, 1) := by decide +kernel
theorem dX7_kindsThatFit_57 : decode cX7_kindsThatFit 57 = .ok (.iload_n 3, 1) := by decide +kernel
theorem dX7_kindsThatFit_58 : decode cX7_kindsThatFit 58 = .ok (.invokestatic 367, 3) := by decide +kernel
theorem dX7_kindsThatFit_61 : decode cX7_kindsThatFit 61 = .ok (.ifCond .eq 12, 3) := by decide +kernel
theorem dX7_kindsThatFit_64 : decode cX7_kindsThatFit 64 = .ok (.iload 4, 2) := by decide +kernel
theorem dX7_kindsThatFit_66 : decode cX7_kindsThatFit 66 = .ok (.iconst 1, 1) := by decide +kernel
theorem dX7_kindsThatFit_67 : decode cX7_kindsThatFit 67 = .ok (.iload 5, 2) := by decide +kernel
theorem dX7_kindsThatFit_69 : decode cX7_kindsThatFit 69 = .ok (.ishl, 1) := by decide +kernel
theorem dX7_kindsThatFit_70 : decode cX7_kindsThatFit 70 = .ok (.ior, 1) := by decide +kernel
theorem dX7_kindsThatFit_71 : decode cX7_kindsThatFit 71 = .ok (.istore 4, 2) := by decide +kernel
theorem dX7_kindsThatFit_73 : decode cX7_kindsThatFit 73 = .ok (.iinc 5 1, 3) := by decide +kernel
theorem dX7_kindsThatFit_76 : decode cX7_kindsThatFit 76 = .ok (.goto (-59), 3) := by decide +kernel
theorem dX7_kindsThatFit_79 : decode cX7_kindsThatFit 79 = .ok (.iload 4, 2) := by decide +kernel
theorem dX7_kindsThatFit_81 : decode cX7_kindsThatFit 81 = .ok (.ireturn, 1) := by decide +kernel
theorem dX7_isAsTold_0 : decode cX7_isAsTold 0 = .ok (.iconst 0, 1) := by decide +kernel
theorem dX7_isAsTold_1 : decode cX7_isAsTold 1 = .ok (.istore 4, 2) := by decide +kernel
theorem dX7_isAsTold_3 : decode cX7_isAsTold 3 = .ok (.iload 4, 2) := by decide +kernel
theorem dX7_isAsTold_5 : decode cX7_isAsTold 5 = .ok (.iload_n 3, 1) := by decide +kernel
theorem dX7_isAsTold_6 : decode cX7_isAsTold 6 = .ok (.if_icmp .ge 24, 3) := by decide +kernel
theorem dX7_isAsTold_9 : decode cX7_isAsTold 9 = .ok (.aload_n 2, 1) := by decide +kernel
theorem dX7_isAsTold_10 : decode cX7_isAsTold 10 = .ok (.iload 4, 2) := by decide +kernel
theorem dX7_isAsTold_12 : decode cX7_isAsTold 12 = .ok (.iaload, 1) := by decide +kernel
theorem dX7_isAsTold_13 : decode cX7_isAsTold 13 = .ok (.lload_n 0, 1) := by decide +kernel
theorem dX7_isAsTold_14 : decode cX7_isAsTold 14 = .ok (.iload 4, 2) := by decide +kernel
theorem dX7_isAsTold_16 : decode cX7_isAsTold 16 = .ok (.invokestatic 263, 3) := by decide +kernel
theorem dX7_isAsTold_19 : decode cX7_isAsTold 19 = .ok (.if_icmp .eq 5, 3) := by decide +kernel
theorem dX7_isAsTold_22 : decode cX7_isAsTold 22 = .ok (.iconst 0, 1) := by decide +kernel
theorem dX7_isAsTold_23 : decode cX7_isAsTold 23 = .ok (.ireturn, 1) := by decide +kernel
theorem dX7_isAsTold_24 : decode cX7_isAsTold 24 = .ok (.iinc 4 1, 3) := by decide +kernel
theorem dX7_isAsTold_27 : decode cX7_isAsTold 27 = .ok (.goto (-24), 3) := by decide +kernel
theorem dX7_isAsTold_30 : decode cX7_isAsTold 30 = .ok (.iconst 1, 1) := by decide +kernel
theorem dX7_isAsTold_31 : decode cX7_isAsTold 31 = .ok (.ireturn, 1) := by decide +kernel
theorem dX7_startsAmong_0 : decode cX7_startsAmong 0 = .ok (.iload_n 0, 1) := by decide +kernel
theorem dX7_startsAmong_1 : decode cX7_startsAmong 1 = .ok (.iload_n 0, 1) := by decide +kernel
theorem dX7_startsAmong_2 : decode cX7_startsAmong 2 = .ok (.iconst 1, 1) := by decide +kernel
theorem dX7_startsAmong_3 : decode cX7_startsAmong 3 = .ok (.ishl, 1) := by decide +kernel
theorem dX7_startsAmong_4 : decode cX7_startsAmong 4 = .ok (.iconst (-1), 1) := by decide +kernel
theorem dX7_startsAmong_5 : decode cX7_startsAmong 5 = .ok (.ixor, 1) := by decide +kernel
theorem dX7_startsAmong_6 : decode cX7_startsAmong 6 = .ok (.iand, 1) := by decide +kernel
theorem dX7_startsAmong_7 : decode cX7_startsAmong 7 = .ok (.ireturn, 1) := by decide +kernel
theorem dX8_init_0 : decode cX8_init 0 = .ok (.aload_n 0, 1) := by decide +kernel
theorem dX8_init_1 : decode cX8_init 1 = .ok (.invokespecial 1, 3) := by decide +kernel
theorem dX8_init_4 : decode cX8_init 4 = .ok (.aload_n 0, 1) := by decide +kernel
theorem dX8_init_5 : decode cX8_init 5 = .ok (.bipush 8, 2) := by decide +kernel
theorem dX8_init_7 : decode cX8_init 7 = .ok (.newarray .int, 2) := by decide +kernel
theorem dX8_init_9 : decode cX8_init 9 = .ok (.putfield 7, 3) := by decide +kernel
theorem dX8_init_12 : decode cX8_init 12 = .ok (.aload_n 0, 1) := by decide +kernel
theorem dX8_init_13 : decode cX8_init 13 = .ok (.bipush 8, 2) := by decide +kernel
theorem dX8_init_15 : decode cX8_init 15 = .ok (.newarray .int, 2) := by decide +kernel
theorem dX8_init_17 : decode cX8_init 17 = .ok (.putfield 13, 3) := by decide +kernel
theorem dX8_init_20 : decode cX8_init 20 = .ok (.aload_n 0, 1) := by decide +kernel
theorem dX8_init_21 : decode cX8_init 21 = .ok (.sipush 320, 3) := by decide +kernel
theorem dX8_init_24 : decode cX8_init 24 = .ok (.newarray .int, 2) := by decide +kernel
theorem dX8_init_26 : decode cX8_init 26 = .ok (.putfield 16, 3) := by decide +kernel
theorem dX8_init_29 : decode cX8_init 29 = .ok (.aload_n 0, 1) := by decide +kernel
theorem dX8_init_30 : decode cX8_init 30 = .ok (.bipush 40, 2) := by decide +kernel
theorem dX8_init_32 : decode cX8_init 32 = .ok (.newarray .int, 2) := by decide +kernel
theorem dX8_init_34 : decode cX8_init 34 = .ok (.putfield 19, 3) := by decide +kernel
theorem dX8_init_37 : decode cX8_init 37 = .ok (.aload_n 0, 1) := by decide +kernel
theorem dX8_init_38 : decode cX8_init 38 = .ok (.bipush 120, 2) := by decide +kernel
theorem dX8_init_40 : decode cX8_init 40 = .ok (.newarray .int, 2) := by decide +kernel
theorem dX8_init_42 : decode cX8_init 42 = .ok (.putfield 22, 3) := by decide +kernel
theorem dX8_init_45 : decode cX8_init 45 = .ok (.aload_n 0, 1) := by decide +kernel
theorem dX8_init_46 : decode cX8_init 46 = .ok (.bipush 41, 2) := by decide +kernel
theorem dX8_init_48 : decode cX8_init 48 = .ok (.newarray .int, 2) := by decide +kernel
theorem dX8_init_50 : decode cX8_init 50 = .ok (.putfield 25, 3) := by decide +kernel
theorem dX8_init_53 : decode cX8_init 53 = .ok (.aload_n 0, 1) := by decide +kernel
theorem dX8_init_54 : decode cX8_init 54 = .ok (.bipush 41, 2) := by decide +kernel
theorem dX8_init_56 : decode cX8_init 56 = .ok (.newarray .int, 2) := by decide +kernel
theorem dX8_init_58 : decode cX8_init 58 = .ok (.putfield 28, 3) := by decide +kernel
theorem dX8_init_61 : decode cX8_init 61 = .ok (.aload_n 0, 1) := by decide +kernel
theorem dX8_init_62 : decode cX8_init 62 = .ok (.bipush 41, 2) := by decide +kernel
theorem dX8_init_64 : decode cX8_init 64 = .ok (.newarray .int, 2) := by decide +kernel
theorem dX8_init_66 : decode cX8_init 66 = .ok (.putfield 31, 3) := by decide +kernel
theorem dX8_init_69 : decode cX8_init 69 = .ok (.aload_n 0, 1) := by decide +kernel
theorem dX8_init_70 : decode cX8_init 70 = .ok (.sipush 656, 3) := by decide +kernel
theorem dX8_init_73 : decode cX8_init 73 = .ok (.newarray .int, 2) := by decide +kernel
theorem dX8_init_75 : decode cX8_init 75 = .ok (.putfield 34, 3) := by decide +kernel
theorem dX8_init_78 : decode cX8_init 78 = .ok (.aload_n 0, 1) := by decide +kernel
theorem dX8_init_79 : decode cX8_init 79 = .ok (.bipush 82, 2) := by decide +kernel
theorem dX8_init_81 : decode cX8_init 81 = .ok (.newarray .int, 2) := by decide +kernel
theorem dX8_init_83 : decode cX8_init 83 = .ok (.putfield 37, 3) := by decide +kernel
theorem dX8_init_86 : decode cX8_init 86 = .ok (.aload_n 0, 1) := by decide +kernel
theorem dX8_init_87 : decode cX8_init 87 = .ok (.iconst 2, 1) := by decide +kernel
theorem dX8_init_88 : decode cX8_init 88 = .ok (.newarray .boolean, 2) := by decide +kernel
theorem dX8_init_90 : decode cX8_init 90 = .ok (.putfield 40, 3) := by decide +kernel
theorem dX8_init_93 : decode cX8_init 93 = .ok (.aload_n 0, 1) := by decide +kernel
theorem dX8_init_94 : decode cX8_init 94 = .ok (.iconst 4, 1) := by decide +kernel
theorem dX8_init_95 : decode cX8_init 95 = .ok (.newarray .int, 2) := by decide +kernel
theorem dX8_init_97 : decode cX8_init 97 = .ok (.putfield 44, 3) := by decide +kernel
theorem dX8_init_100 : decode cX8_init 100 = .ok (.aload_n 0, 1) := by decide +kernel
theorem dX8_init_101 : decode cX8_init 101 = .ok (.sipush 486, 3) := by decide +kernel
theorem dX8_init_104 : decode cX8_init 104 = .ok (.newarray .int, 2) := by decide +kernel
theorem dX8_init_106 : decode cX8_init 106 = .ok (.putfield 47, 3) := by decide +kernel
theorem dX8_init_109 : decode cX8_init 109 = .ok (.aload_n 0, 1) := by decide +kernel
theorem dX8_init_110 : decode cX8_init 110 = .ok (.sipush 9072, 3) := by decide +kernel
theorem dX8_init_113 : decode cX8_init 113 = .ok (.newarray .int, 2) := by decide +kernel
theorem dX8_init_115 : decode cX8_init 115 = .ok (.putfield 50, 3) := by decide +kernel
theorem dX8_init_118 : decode cX8_init 118 = .ok (.aload_n 0, 1) := by decide +kernel
theorem dX8_init_119 : decode cX8_init 119 = .ok (.bipush 6, 2) := by decide +kernel
theorem dX8_init_121 : decode cX8_init 121 = .ok (.newarray .int, 2) := by decide +kernel
theorem dX8_init_123 : decode cX8_init 123 = .ok (.putfield 53, 3) := by decide +kernel
theorem dX8_init_126 : decode cX8_init 126 = .ok (.aload_n 0, 1) := by decide +kernel
theorem dX8_init_127 : decode cX8_init 127 = .ok (.bipush 6, 2) := by decide +kernel
theorem dX8_init_129 : decode cX8_init 129 = .ok (.newarray .long, 2) := by decide +kernel
theorem dX8_init_131 : decode cX8_init 131 = .ok (.putfield 56, 3) := by decide +kernel
theorem dX8_init_134 : decode cX8_init 134 = .ok (.aload_n 0, 1) := by decide +kernel
theorem dX8_init_135 : decode cX8_init 135 = .ok (.bipush 6, 2) := by decide +kernel
theorem dX8_init_137 : decode cX8_init 137 = .ok (.newarray .long, 2) := by decide +kernel
theorem dX8_init_139 : decode cX8_init 139 = .ok (.putfield 60, 3) := by decide +kernel
theorem dX8_init_142 : decode cX8_init 142 = .ok (.aload_n 0, 1) := by decide +kernel
theorem dX8_init_143 : decode cX8_init 143 = .ok (.bipush 16, 2) := by decide +kernel
theorem dX8_init_145 : decode cX8_init 145 = .ok (.newarray .int, 2) := by decide +kernel
theorem dX8_init_147 : decode cX8_init 147 = .ok (.putfield 63, 3) := by decide +kernel
theorem dX8_init_150 : decode cX8_init 150 = .ok (.iconst 0, 1) := by decide +kernel
theorem dX8_init_151 : decode cX8_init 151 = .ok (.istore_n 1, 1) := by decide +kernel
theorem dX8_init_152 : decode cX8_init 152 = .ok (.iload_n 1, 1) := by decide +kernel
theorem dX8_init_153 : decode cX8_init 153 = .ok (.bipush 8, 2) := by decide +kernel
theorem dX8_init_155 : decode cX8_init 155 = .ok (.if_icmp .ge 17, 3) := by decide +kernel
theorem dX8_init_158 : decode cX8_init 158 = .ok (.aload_n 0, 1) := by decide +kernel
theorem dX8_init_159 : decode cX8_init 159 = .ok (.getfield 7, 3) := by decide +kernel
theorem dX8_init_162 : decode cX8_init 162 = .ok (.iload_n 1, 1) := by decide +kernel
theorem dX8_init_163 : decode cX8_init 163 = .ok (.ldc 66, 2) := by decide +kernel
theorem dX8_init_165 : decode cX8_init 165 = .ok (.iastore, 1) := by decide +kernel
theorem dX8_init_166 : decode cX8_init 166 = .ok (.iinc 1 1, 3) := by decide +kernel
theorem dX8_init_169 : decode cX8_init 169 = .ok (.goto (-17), 3) := by decide +kernel
theorem dX8_init_172 : decode cX8_init 172 = .ok (.return_, 1) := by decide +kernel
theorem dX8_in_0 : decode cX8_in 0 = .ok (.iload_n 0, 1) := by decide +kernel
theorem dX8_in_1 : decode cX8_in 1 = .ok (.iload_n 1, 1) := by decide +kernel
theorem dX8_in_2 : decode cX8_in 2 = .ok (.if_icmp .lt 12, 3) := by decide +kernel
theorem dX8_in_5 : decode cX8_in 5 = .ok (.iload_n 0, 1) := by decide +kernel
theorem dX8_in_6 : decode cX8_in 6 = .ok (.iload_n 2, 1) := by decide +kernel
theorem dX8_in_7 : decode cX8_in 7 = .ok (.if_icmp .gt 7, 3) := by decide +kernel
theorem dX8_in_10 : decode cX8_in 10 = .ok (.iconst 1, 1) := by decide +kernel
theorem dX8_in_11 : decode cX8_in 11 = .ok (.goto 4, 3) := by decide +kernel
theorem dX8_in_14 : decode cX8_in 14 = .ok (.iconst 0, 1) := by decide +kernel
theorem dX8_in_15 : decode cX8_in 15 = .ok (.ireturn, 1) := by decide +kernel
theorem dX8_has_0 : decode cX8_has 0 = .ok (.iload_n 0, 1) := by decide +kernel
theorem dX8_has_1 : decode cX8_has 1 = .ok (.iload_n 1, 1) := by decide +kernel
theorem dX8_has_2 : decode cX8_has 2 = .ok (.ishr, 1) := by decide +kernel
theorem dX8_has_3 : decode cX8_has 3 = .ok (.iconst 1, 1) := by decide +kernel
theorem dX8_has_4 : decode cX8_has 4 = .ok (.iand, 1) := by decide +kernel
theorem dX8_has_5 : decode cX8_has 5 = .ok (.iconst 1, 1) := by decide +kernel
theorem dX8_has_6 : decode cX8_has 6 = .ok (.if_icmp .ne 7, 3) := by decide +kernel
theorem dX8_has_9 : decode cX8_has 9 = .ok (.iconst 1, 1) := by decide +kernel
theorem dX8_has_10 : decode cX8_has 10 = .ok (.goto 4, 3) := by decide +kernel
theorem dX8_has_13 : decode cX8_has 13 = .ok (.iconst 0, 1) := by decide +kernel
theorem dX8_has_14 : decode cX8_has 14 = .ok (.ireturn, 1) := by decide +kernel
theorem dX8_ones_0 : decode cX8_ones 0 = .ok (.iconst 0, 1) := by decide +kernel
theorem dX8_ones_1 : decode cX8_ones 1 = .ok (.istore_n 1, 1) := by decide +kernel
theorem dX8_ones_2 : decode cX8_ones 2 = .ok (.iconst 0, 1) := by decide +kernel
theorem dX8_ones_3 : decode cX8_ones 3 = .ok (.istore_n 2, 1) := by decide +kernel
theorem dX8_ones_4 : decode cX8_ones 4 = .ok (.iload_n 2, 1) := by decide +kernel
theorem dX8_ones_5 : decode cX8_ones 5 = .ok (.bipush 6, 2) := by decide +kernel
theorem dX8_ones_7 : decode cX8_ones 7 = .ok (.if_icmp .ge 17, 3) := by decide +kernel
theorem dX8_ones_10 : decode cX8_ones 10 = .ok (.iload_n 1, 1) := by decide +kernel
theorem dX8_ones_11 : decode cX8_ones 11 = .ok (.iload_n 0, 1) := by decide +kernel
theorem dX8_ones_12 : decode cX8_ones 12 = .ok (.iload_n 2, 1) := by decide +kernel
theorem dX8_ones_13 : decode cX8_ones 13 = .ok (.ishr, 1) := by decide +kernel
theorem dX8_ones_14 : decode cX8_ones 14 = .ok (.iconst 1, 1) := by decide +kernel
theorem dX8_ones_15 : decode cX8_ones 15 = .ok (.iand, 1) := by decide +kernel
theorem dX8_ones_16 : decode cX8_ones 16 = .ok (.iadd, 1) := by decide +kernel
theorem dX8_ones_17 : decode cX8_ones 17 = .ok (.istore_n 1, 1) := by decide +kernel
theorem dX8_ones_18 : decode cX8_ones 18 = .ok (.iinc 2 1, 3) := by decide +kernel
theorem dX8_ones_21 : decode cX8_ones 21 = .ok (.goto (-17), 3) := by decide +kernel
theorem dX8_ones_24 : decode cX8_ones 24 = .ok (.iload_n 1, 1) := by decide +kernel
theorem dX8_ones_25 : decode cX8_ones 25 = .ok (.ireturn, 1) := by decide +kernel
theorem dX8_found_0 : decode cX8_found 0 = .ok (.aload_n 0, 1) := by decide +kernel
theorem dX8_found_1 : decode cX8_found 1 = .ok (.iload_n 1, 1) := by decide +kernel
theorem dX8_found_2 : decode cX8_found 2 = .ok (.putfield 67, 3) := by decide +kernel
theorem dX8_found_5 : decode cX8_found 5 = .ok (.ldc 71, 2) := by decide +kernel
theorem dX8_found_7 : decode cX8_found 7 = .ok (.iload_n 1, 1) := by decide +kernel
theorem dX8_found_8 : decode cX8_found 8 = .ok (.isub, 1) := by decide +kernel
theorem dX8_found_9 : decode cX8_found 9 = .ok (.ireturn, 1) := by decide +kernel
theorem dX8_well_0 : decode cX8_well 0 = .ok (.aload_n 0, 1) := by decide +kernel
theorem dX8_well_1 : decode cX8_well 1 = .ok (.iconst 0, 1) := by decide +kernel
theorem dX8_well_2 : decode cX8_well 2 = .ok (.putfield 67, 3) := by decide +kernel
theorem dX8_well_5 : decode cX8_well 5 = .ok (.iload_n 1, 1) := by decide +kernel
theorem dX8_well_6 : decode cX8_well 6 = .ok (.ireturn, 1) := by decide +kernel
theorem dX8_copies_0 : decode cX8_copies 0 = .ok (.iconst 0, 1) := by decide +kernel
theorem dX8_copies_1 : decode cX8_copies 1 = .ok (.istore 4, 2) := by decide +kernel
theorem dX8_copies_3 : decode cX8_copies 3 = .ok (.iload 4, 2) := by decide +kernel
theorem dX8_copies_5 : decode cX8_copies 5 = .ok (.bipush 41, 2) := by decide +kernel
theorem dX8_copies_7 : decode cX8_copies 7 = .ok (.if_icmp .ge 21, 3) := by decide +kernel
theorem dX8_copies_10 : decode cX8_copies 10 = .ok (.aload_n 2, 1) := by decide +kernel
theorem dX8_copies_11 : decode cX8_copies 11 = .ok (.iload_n 3, 1) := by decide +kernel
theorem dX8_copies_12 : decode cX8_copies 12 = .ok (.iload 4, 2) := by decide +kernel
theorem dX8_copies_14 : decode cX8_copies 14 = .ok (.iadd, 1) := by decide +kernel
theorem dX8_copies_15 : decode cX8_copies 15 = .ok (.aload_n 0, 1) := by decide +kernel
theorem dX8_copies_16 : decode cX8_copies 16 = .ok (.iload_n 1, 1) := by decide +kernel
theorem dX8_copies_17 : decode cX8_copies 17 = .ok (.iload 4, 2) := by decide +kernel
theorem dX8_copies_19 : decode cX8_copies 19 = .ok (.iadd, 1) := by decide +kernel
theorem dX8_copies_20 : decode cX8_copies 20 = .ok (.iaload, 1) := by decide +kernel
theorem dX8_copies_21 : decode cX8_copies 21 = .ok (.iastore, 1) := by decide +kernel
theorem dX8_copies_22 : decode cX8_copies 22 = .ok (.iinc 4 1, 3) := by decide +kernel
theorem dX8_copies_25 : decode cX8_copies 25 = .ok (.goto (-22), 3) := by decide +kernel
theorem dX8_copies_28 : decode cX8_copies 28 = .ok (.return_, 1) := by decide +kernel
theorem dX8_isRow_0 : decode cX8_isRow 0 = .ok (.iload_n 0, 1) := by decide +kernel
theorem dX8_isRow_1 : decode cX8_isRow 1 = .ok (.iconst 0, 1) := by decide +kernel
theorem dX8_isRow_2 : decode cX8_isRow 2 = .ok (.bipush 7, 2) := by decide +kernel
theorem dX8_isRow_4 : decode cX8_isRow 4 = .ok (.invokestatic 72, 3) := by decide +kernel
theorem dX8_isRow_7 : decode cX8_isRow 7 = .ok (.ireturn, 1) := by decide +kernel
theorem dX8_isMissing_0 : decode cX8_isMissing 0 = .ok (.aload_n 0, 1) := by decide +kernel
theorem dX8_isMissing_1 : decode cX8_isMissing 1 = .ok (.getfield 7, 3) := by decide +kernel
theorem dX8_isMissing_4 : decode cX8_isMissing 4 = .ok (.iload_n 1, 1) := by decide +kernel
theorem dX8_isMissing_5 : decode cX8_isMissing 5 = .ok (.iaload, 1) := by decide +kernel
theorem dX8_isMissing_6 : decode cX8_isMissing 6 = .ok (.ldc 66, 2) := by decide +kernel
theorem dX8_isMissing_8 : decode cX8_isMissing 8 = .ok (.if_icmp .ne 7, 3) := by decide +kernel
theorem dX8_isMissing_11 : decode cX8_isMissing 11 = .ok (.iconst 1, 1) := by decide +kernel
theorem dX8_isMissing_12 : decode cX8_isMissing 12 = .ok (.goto 4, 3) := by decide +kernel
theorem dX8_isMissing_15 : decode cX8_isMissing 15 = .ok (.iconst 0, 1) := by decide +kernel
theorem dX8_isMissing_16 : decode cX8_isMissing 16 = .ok (.ireturn, 1) := by decide +kernel
theorem dX8_lowest_0 : decode cX8_lowest 0 = .ok (.iload_n 0, 1) := by decide +kernel
theorem dX8_lowest_1 : decode cX8_lowest 1 = .ok (.ifCond .ne 13, 3) := by decide +kernel
theorem dX8_lowest_4 : decode cX8_lowest 4 = .ok (.iload_n 1, 1) := by decide +kernel
theorem dX8_lowest_5 : decode cX8_lowest 5 = .ok (.bipush 24, 2) := by decide +kernel
theorem dX8_lowest_7 : decode cX8_lowest 7 = .ok (.ishl, 1) := by decide +kernel
theorem dX8_lowest_8 : decode cX8_lowest 8 = .ok (.bipush 24, 2) := by decide +kernel
theorem dX8_lowest_10 : decode cX8_lowest 10 = .ok (.ishr, 1) := by decide +kernel
theorem dX8_lowest_11 : decode cX8_lowest 11 = .ok (.goto 19, 3) := by decide +kernel
theorem dX8_lowest_14 : decode cX8_lowest 14 = .ok (.iload_n 0, 1) := by decide +kernel
theorem dX8_lowest_15 : decode cX8_lowest 15 = .ok (.iconst 1, 1) := by decide +kernel
theorem dX8_lowest_16 : decode cX8_lowest 16 = .ok (.if_icmp .ne 13, 3) := by decide +kernel
theorem dX8_lowest_19 : decode cX8_lowest 19 = .ok (.iload_n 1, 1) := by decide +kernel
theorem dX8_lowest_20 : decode cX8_lowest 20 = .ok (.bipush 16, 2) := by decide +kernel
theorem dX8_lowest_22 : decode cX8_lowest 22 = .ok (.ishl, 1) := by decide +kernel
theorem dX8_lowest_23 : decode cX8_lowest 23 = .ok (.bipush 16, 2) := by decide +kernel
theorem dX8_lowest_25 : decode cX8_lowest 25 = .ok (.ishr, 1) := by decide +kernel
theorem dX8_lowest_26 : decode cX8_lowest 26 = .ok (.goto 4, 3) := by decide +kernel
theorem dX8_lowest_29 : decode cX8_lowest 29 = .ok (.iload_n 1, 1) := by decide +kernel
theorem dX8_lowest_30 : decode cX8_lowest 30 = .ok (.ireturn, 1) := by decide +kernel
theorem dX8_row_0 : decode cX8_row 0 = .ok (.iload_n 1, 1) := by decide +kernel
theorem dX8_row_1 : decode cX8_row 1 = .ok (.invokestatic 76, 3) := by decide +kernel
theorem dX8_row_4 : decode cX8_row 4 = .ok (.ifCond .eq 18, 3) := by decide +kernel
theorem dX8_row_7 : decode cX8_row 7 = .ok (.iload_n 2, 1) := by decide +kernel
theorem dX8_row_8 : decode cX8_row 8 = .ok (.iconst 0, 1) := by decide +kernel
theorem dX8_row_9 : decode cX8_row 9 = .ok (.iconst 2, 1) := by decide +kernel
theorem dX8_row_10 : decode cX8_row 10 = .ok (.invokestatic 72, 3) := by decide +kernel
theorem dX8_row_13 : decode cX8_row 13 = .ok (.ifCond .eq 9, 3) := by decide +kernel
theorem dX8_row_16 : decode cX8_row 16 = .ok (.iload_n 3, 1) := by decide +kernel
theorem dX8_row_17 : decode cX8_row 17 = .ok (.bipush 40, 2) := by decide +kernel
theorem dX8_row_19 : decode cX8_row 19 = .ok (.if_icmp .le 6, 3) := by decide +kernel
theorem dX8_row_22 : decode cX8_row 22 = .ok (.ldc 80, 2) := by decide +kernel
theorem dX8_row_24 : decode cX8_row 24 = .ok (.ireturn, 1) := by decide +kernel
theorem dX8_row_25 : decode cX8_row 25 = .ok (.iload_n 3, 1) := by decide +kernel
theorem dX8_row_26 : decode cX8_row 26 = .ok (.ifCond .ge 9, 3) := by decide +kernel
theorem dX8_row_29 : decode cX8_row 29 = .ok (.aload_n 0, 1) := by decide +kernel
theorem dX8_row_30 : decode cX8_row 30 = .ok (.iconst 4, 1) := by decide +kernel
theorem dX8_row_31 : decode cX8_row 31 = .ok (.invokevirtual 81, 3) := by decide +kernel
theorem dX8_row_34 : decode cX8_row 34 = .ok (.ireturn, 1) := by decide +kernel
theorem dX8_row_35 : decode cX8_row 35 = .ok (.aload_n 0, 1) := by decide +kernel
theorem dX8_row_36 : decode cX8_row 36 = .ok (.getfield 7, 3) := by decide +kernel
theorem dX8_row_39 : decode cX8_row 39 = .ok (.iload_n 1, 1) := by decide +kernel
theorem dX8_row_40 : decode cX8_row 40 = .ok (.iload_n 2, 1) := by decide +kernel
theorem dX8_row_41 : decode cX8_row 41 = .ok (.iastore, 1) := by decide +kernel
theorem dX8_row_42 : decode cX8_row 42 = .ok (.aload_n 0, 1) := by decide +kernel
theorem dX8_row_43 : decode cX8_row 43 = .ok (.getfield 13, 3) := by decide +kernel
theorem dX8_row_46 : decode cX8_row 46 = .ok (.iload_n 1, 1) := by decide +kernel
theorem dX8_row_47 : decode cX8_row 47 = .ok (.iload_n 3, 1) := by decide +kernel
theorem dX8_row_48 : decode cX8_row 48 = .ok (.iastore, 1) := by decide +kernel
theorem dX8_row_49 : decode cX8_row 49 = .ok (.iconst 0, 1) := by decide +kernel
theorem dX8_row_50 : decode cX8_row 50 = .ok (.istore 4, 2) := by decide +kernel
theorem dX8_row_52 : decode cX8_row 52 = .ok (.iload 4, 2) := by decide +kernel
theorem dX8_row_54 : decode cX8_row 54 = .ok (.bipush 40, 2) := by decide +kernel
theorem dX8_row_56 : decode cX8_row 56 = .ok (.if_icmp .ge 22, 3) := by decide +kernel
theorem dX8_row_59 : decode cX8_row 59 = .ok (.aload_n 0, 1) := by decide +kernel
theorem dX8_row_60 : decode cX8_row 60 = .ok (.getfield 16, 3) := by decide +kernel
theorem dX8_row_63 : decode cX8_row 63 = .ok (.bipush 40, 2) := by decide +kernel
theorem dX8_row_65 : decode cX8_row 65 = .ok (.iload_n 1, 1) := by decide +kernel
theorem dX8_row_66 : decode cX8_row 66 = .ok (.imul, 1) := by decide +kernel
theorem dX8_row_67 : decode cX8_row 67 = .ok (.iload 4, 2) := by decide +kernel
theorem dX8_row_69 : decode cX8_row 69 = .ok (.iadd, 1) := by decide +kernel
theorem dX8_row_70 : decode cX8_row 70 = .ok (.iconst 0, 1) := by decide +kernel
theorem dX8_row_71 : decode cX8_row 71 = .ok (.iastore, 1) := by decide +kernel
theorem dX8_row_72 : decode cX8_row 72 = .ok (.iinc 4 1, 3) := by decide +kernel
