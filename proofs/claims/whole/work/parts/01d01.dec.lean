theorem dX2_init_20 : decode cX2_init 20 = .ok (.iconst 4, 1) := by decide +kernel
theorem dX2_init_21 : decode cX2_init 21 = .ok (.newarray .int, 2) := by decide +kernel
theorem dX2_init_23 : decode cX2_init 23 = .ok (.putfield 18, 3) := by decide +kernel
theorem dX2_init_26 : decode cX2_init 26 = .ok (.aload_n 0, 1) := by decide +kernel
theorem dX2_init_27 : decode cX2_init 27 = .ok (.iconst 4, 1) := by decide +kernel
theorem dX2_init_28 : decode cX2_init 28 = .ok (.newarray .int, 2) := by decide +kernel
theorem dX2_init_30 : decode cX2_init 30 = .ok (.putfield 21, 3) := by decide +kernel
theorem dX2_init_33 : decode cX2_init 33 = .ok (.aload_n 0, 1) := by decide +kernel
theorem dX2_init_34 : decode cX2_init 34 = .ok (.iconst 4, 1) := by decide +kernel
theorem dX2_init_35 : decode cX2_init 35 = .ok (.newarray .int, 2) := by decide +kernel
theorem dX2_init_37 : decode cX2_init 37 = .ok (.putfield 24, 3) := by decide +kernel
theorem dX2_init_40 : decode cX2_init 40 = .ok (.aload_n 0, 1) := by decide +kernel
theorem dX2_init_41 : decode cX2_init 41 = .ok (.iconst 4, 1) := by decide +kernel
theorem dX2_init_42 : decode cX2_init 42 = .ok (.newarray .int, 2) := by decide +kernel
theorem dX2_init_44 : decode cX2_init 44 = .ok (.putfield 27, 3) := by decide +kernel
theorem dX2_init_47 : decode cX2_init 47 = .ok (.aload_n 0, 1) := by decide +kernel
theorem dX2_init_48 : decode cX2_init 48 = .ok (.iconst 4, 1) := by decide +kernel
theorem dX2_init_49 : decode cX2_init 49 = .ok (.newarray .int, 2) := by decide +kernel
theorem dX2_init_51 : decode cX2_init 51 = .ok (.putfield 30, 3) := by decide +kernel
theorem dX2_init_54 : decode cX2_init 54 = .ok (.aload_n 0, 1) := by decide +kernel
theorem dX2_init_55 : decode cX2_init 55 = .ok (.iconst 4, 1) := by decide +kernel
theorem dX2_init_56 : decode cX2_init 56 = .ok (.newarray .int, 2) := by decide +kernel
theorem dX2_init_58 : decode cX2_init 58 = .ok (.putfield 33, 3) := by decide +kernel
theorem dX2_init_61 : decode cX2_init 61 = .ok (.aload_n 0, 1) := by decide +kernel
theorem dX2_init_62 : decode cX2_init 62 = .ok (.iconst 4, 1) := by decide +kernel
theorem dX2_init_63 : decode cX2_init 63 = .ok (.newarray .int, 2) := by decide +kernel
theorem dX2_init_65 : decode cX2_init 65 = .ok (.putfield 36, 3) := by decide +kernel
theorem dX2_init_68 : decode cX2_init 68 = .ok (.aload_n 0, 1) := by decide +kernel
theorem dX2_init_69 : decode cX2_init 69 = .ok (.iconst 4, 1) := by decide +kernel
theorem dX2_init_70 : decode cX2_init 70 = .ok (.newarray .int, 2) := by decide +kernel
theorem dX2_init_72 : decode cX2_init 72 = .ok (.putfield 39, 3) := by decide +kernel
theorem dX2_init_75 : decode cX2_init 75 = .ok (.aload_n 0, 1) := by decide +kernel
theorem dX2_init_76 : decode cX2_init 76 = .ok (.iconst 4, 1) := by decide +kernel
theorem dX2_init_77 : decode cX2_init 77 = .ok (.newarray .int, 2) := by decide +kernel
theorem dX2_init_79 : decode cX2_init 79 = .ok (.putfield 42, 3) := by decide +kernel
theorem dX2_init_82 : decode cX2_init 82 = .ok (.aload_n 0, 1) := by decide +kernel
theorem dX2_init_83 : decode cX2_init 83 = .ok (.iconst 4, 1) := by decide +kernel
theorem dX2_init_84 : decode cX2_init 84 = .ok (.newarray .int, 2) := by decide +kernel
theorem dX2_init_86 : decode cX2_init 86 = .ok (.putfield 45, 3) := by decide +kernel
theorem dX2_init_89 : decode cX2_init 89 = .ok (.aload_n 0, 1) := by decide +kernel
theorem dX2_init_90 : decode cX2_init 90 = .ok (.iconst 4, 1) := by decide +kernel
theorem dX2_init_91 : decode cX2_init 91 = .ok (.newarray .int, 2) := by decide +kernel
theorem dX2_init_93 : decode cX2_init 93 = .ok (.putfield 48, 3) := by decide +kernel
theorem dX2_init_96 : decode cX2_init 96 = .ok (.return_, 1) := by decide +kernel
theorem dX2_becomeLike_0 : decode cX2_becomeLike 0 = .ok (.aload_n 0, 1) := by decide +kernel
theorem dX2_becomeLike_1 : decode cX2_becomeLike 1 = .ok (.aload_n 1, 1) := by decide +kernel
theorem dX2_becomeLike_2 : decode cX2_becomeLike 2 = .ok (.getfield 51, 3) := by decide +kernel
theorem dX2_becomeLike_5 : decode cX2_becomeLike 5 = .ok (.putfield 51, 3) := by decide +kernel
theorem dX2_becomeLike_8 : decode cX2_becomeLike 8 = .ok (.aload_n 0, 1) := by decide +kernel
theorem dX2_becomeLike_9 : decode cX2_becomeLike 9 = .ok (.aload_n 1, 1) := by decide +kernel
theorem dX2_becomeLike_10 : decode cX2_becomeLike 10 = .ok (.getfield 55, 3) := by decide +kernel
theorem dX2_becomeLike_13 : decode cX2_becomeLike 13 = .ok (.putfield 55, 3) := by decide +kernel
theorem dX2_becomeLike_16 : decode cX2_becomeLike 16 = .ok (.aload_n 0, 1) := by decide +kernel
theorem dX2_becomeLike_17 : decode cX2_becomeLike 17 = .ok (.aload_n 1, 1) := by decide +kernel
theorem dX2_becomeLike_18 : decode cX2_becomeLike 18 = .ok (.getfield 58, 3) := by decide +kernel
theorem dX2_becomeLike_21 : decode cX2_becomeLike 21 = .ok (.putfield 58, 3) := by decide +kernel
theorem dX2_becomeLike_24 : decode cX2_becomeLike 24 = .ok (.aload_n 1, 1) := by decide +kernel
theorem dX2_becomeLike_25 : decode cX2_becomeLike 25 = .ok (.getfield 9, 3) := by decide +kernel
theorem dX2_becomeLike_28 : decode cX2_becomeLike 28 = .ok (.iconst 0, 1) := by decide +kernel
theorem dX2_becomeLike_29 : decode cX2_becomeLike 29 = .ok (.aload_n 0, 1) := by decide +kernel
theorem dX2_becomeLike_30 : decode cX2_becomeLike 30 = .ok (.getfield 9, 3) := by decide +kernel
theorem dX2_becomeLike_33 : decode cX2_becomeLike 33 = .ok (.iconst 0, 1) := by decide +kernel
theorem dX2_becomeLike_34 : decode cX2_becomeLike 34 = .ok (.bipush 6, 2) := by decide +kernel
theorem dX2_becomeLike_36 : decode cX2_becomeLike 36 = .ok (.invokestatic 61, 3) := by decide +kernel
theorem dX2_becomeLike_39 : decode cX2_becomeLike 39 = .ok (.aload_n 1, 1) := by decide +kernel
theorem dX2_becomeLike_40 : decode cX2_becomeLike 40 = .ok (.getfield 15, 3) := by decide +kernel
theorem dX2_becomeLike_43 : decode cX2_becomeLike 43 = .ok (.iconst 0, 1) := by decide +kernel
theorem dX2_becomeLike_44 : decode cX2_becomeLike 44 = .ok (.aload_n 0, 1) := by decide +kernel
theorem dX2_becomeLike_45 : decode cX2_becomeLike 45 = .ok (.getfield 15, 3) := by decide +kernel
theorem dX2_becomeLike_48 : decode cX2_becomeLike 48 = .ok (.iconst 0, 1) := by decide +kernel
theorem dX2_becomeLike_49 : decode cX2_becomeLike 49 = .ok (.iconst 4, 1) := by decide +kernel
theorem dX2_becomeLike_50 : decode cX2_becomeLike 50 = .ok (.invokestatic 61, 3) := by decide +kernel
theorem dX2_becomeLike_53 : decode cX2_becomeLike 53 = .ok (.aload_n 1, 1) := by decide +kernel
theorem dX2_becomeLike_54 : decode cX2_becomeLike 54 = .ok (.getfield 18, 3) := by decide +kernel
theorem dX2_becomeLike_57 : decode cX2_becomeLike 57 = .ok (.iconst 0, 1) := by decide +kernel
theorem dX2_becomeLike_58 : decode cX2_becomeLike 58 = .ok (.aload_n 0, 1) := by decide +kernel
theorem dX2_becomeLike_59 : decode cX2_becomeLike 59 = .ok (.getfield 18, 3) := by decide +kernel
theorem dX2_becomeLike_62 : decode cX2_becomeLike 62 = .ok (.iconst 0, 1) := by decide +kernel
theorem dX2_becomeLike_63 : decode cX2_becomeLike 63 = .ok (.iconst 4, 1) := by decide +kernel
theorem dX2_becomeLike_64 : decode cX2_becomeLike 64 = .ok (.invokestatic 61, 3) := by decide +kernel
theorem dX2_becomeLike_67 : decode cX2_becomeLike 67 = .ok (.aload_n 1, 1) := by decide +kernel
theorem dX2_becomeLike_68 : decode cX2_becomeLike 68 = .ok (.getfield 21, 3) := by decide +kernel
theorem dX2_becomeLike_71 : decode cX2_becomeLike 71 = .ok (.iconst 0, 1) := by decide +kernel
theorem dX2_becomeLike_72 : decode cX2_becomeLike 72 = .ok (.aload_n 0, 1) := by decide +kernel
theorem dX2_becomeLike_73 : decode cX2_becomeLike 73 = .ok (.getfield 21, 3) := by decide +kernel
theorem dX2_becomeLike_76 : decode cX2_becomeLike 76 = .ok (.iconst 0, 1) := by decide +kernel
theorem dX2_becomeLike_77 : decode cX2_becomeLike 77 = .ok (.iconst 4, 1) := by decide +kernel
theorem dX2_becomeLike_78 : decode cX2_becomeLike 78 = .ok (.invokestatic 61, 3) := by decide +kernel
theorem dX2_becomeLike_81 : decode cX2_becomeLike 81 = .ok (.aload_n 1, 1) := by decide +kernel
theorem dX2_becomeLike_82 : decode cX2_becomeLike 82 = .ok (.getfield 24, 3) := by decide +kernel
theorem dX2_becomeLike_85 : decode cX2_becomeLike 85 = .ok (.iconst 0, 1) := by decide +kernel
theorem dX2_becomeLike_86 : decode cX2_becomeLike 86 = .ok (.aload_n 0, 1) := by decide +kernel
theorem dX2_becomeLike_87 : decode cX2_becomeLike 87 = .ok (.getfield 24, 3) := by decide +kernel
theorem dX2_becomeLike_90 : decode cX2_becomeLike 90 = .ok (.iconst 0, 1) := by decide +kernel
theorem dX2_becomeLike_91 : decode cX2_becomeLike 91 = .ok (.iconst 4, 1) := by decide +kernel
theorem dX2_becomeLike_92 : decode cX2_becomeLike 92 = .ok (.invokestatic 61, 3) := by decide +kernel
theorem dX2_becomeLike_95 : decode cX2_becomeLike 95 = .ok (.aload_n 1, 1) := by decide +kernel
theorem dX2_becomeLike_96 : decode cX2_becomeLike 96 = .ok (.getfield 27, 3) := by decide +kernel
theorem dX2_becomeLike_99 : decode cX2_becomeLike 99 = .ok (.iconst 0, 1) := by decide +kernel
theorem dX2_becomeLike_100 : decode cX2_becomeLike 100 = .ok (.aload_n 0, 1) := by decide +kernel
theorem dX2_becomeLike_101 : decode cX2_becomeLike 101 = .ok (.getfield 27, 3) := by decide +kernel
theorem dX2_becomeLike_104 : decode cX2_becomeLike 104 = .ok (.iconst 0, 1) := by decide +kernel
theorem dX2_becomeLike_105 : decode cX2_becomeLike 105 = .ok (.iconst 4, 1) := by decide +kernel
theorem dX2_becomeLike_106 : decode cX2_becomeLike 106 = .ok (.invokestatic 61, 3) := by decide +kernel
theorem dX2_becomeLike_109 : decode cX2_becomeLike 109 = .ok (.aload_n 1, 1) := by decide +kernel
theorem dX2_becomeLike_110 : decode cX2_becomeLike 110 = .ok (.getfield 30, 3) := by decide +kernel
theorem dX2_becomeLike_113 : decode cX2_becomeLike 113 = .ok (.iconst 0, 1) := by decide +kernel
theorem dX2_becomeLike_114 : decode cX2_becomeLike 114 = .ok (.aload_n 0, 1) := by decide +kernel
theorem dX2_becomeLike_115 : decode cX2_becomeLike 115 = .ok (.getfield 30, 3) := by decide +kernel
theorem dX2_becomeLike_118 : decode cX2_becomeLike 118 = .ok (.iconst 0, 1) := by decide +kernel
theorem dX2_becomeLike_119 : decode cX2_becomeLike 119 = .ok (.iconst 4, 1) := by decide +kernel
theorem dX2_becomeLike_120 : decode cX2_becomeLike 120 = .ok (.invokestatic 61, 3) := by decide +kernel
theorem dX2_becomeLike_123 : decode cX2_becomeLike 123 = .ok (.aload_n 1, 1) := by decide +kernel
theorem dX2_becomeLike_124 : decode cX2_becomeLike 124 = .ok (.getfield 33, 3) := by decide +kernel
theorem dX2_becomeLike_127 : decode cX2_becomeLike 127 = .ok (.iconst 0, 1) := by decide +kernel
theorem dX2_becomeLike_128 : decode cX2_becomeLike 128 = .ok (.aload_n 0, 1) := by decide +kernel
theorem dX2_becomeLike_129 : decode cX2_becomeLike 129 = .ok (.getfield 33, 3) := by decide +kernel
theorem dX2_becomeLike_132 : decode cX2_becomeLike 132 = .ok (.iconst 0, 1) := by decide +kernel
theorem dX2_becomeLike_133 : decode cX2_becomeLike 133 = .ok (.iconst 4, 1) := by decide +kernel
theorem dX2_becomeLike_134 : decode cX2_becomeLike 134 = .ok (.invokestatic 61, 3) := by decide +kernel
theorem dX2_becomeLike_137 : decode cX2_becomeLike 137 = .ok (.aload_n 1, 1) := by decide +kernel
theorem dX2_becomeLike_138 : decode cX2_becomeLike 138 = .ok (.getfield 36, 3) := by decide +kernel
theorem dX2_becomeLike_141 : decode cX2_becomeLike 141 = .ok (.iconst 0, 1) := by decide +kernel
theorem dX2_becomeLike_142 : decode cX2_becomeLike 142 = .ok (.aload_n 0, 1) := by decide +kernel
theorem dX2_becomeLike_143 : decode cX2_becomeLike 143 = .ok (.getfield 36, 3) := by decide +kernel
theorem dX2_becomeLike_146 : decode cX2_becomeLike 146 = .ok (.iconst 0, 1) := by decide +kernel
theorem dX2_becomeLike_147 : decode cX2_becomeLike 147 = .ok (.iconst 4, 1) := by decide +kernel
theorem dX2_becomeLike_148 : decode cX2_becomeLike 148 = .ok (.invokestatic 61, 3) := by decide +kernel
theorem dX2_becomeLike_151 : decode cX2_becomeLike 151 = .ok (.aload_n 0, 1) := by decide +kernel
theorem dX2_becomeLike_152 : decode cX2_becomeLike 152 = .ok (.invokevirtual 67, 3) := by decide +kernel
theorem dX2_becomeLike_155 : decode cX2_becomeLike 155 = .ok (.return_, 1) := by decide +kernel
theorem dX2_putPrice_0 : decode cX2_putPrice 0 = .ok (.aload_n 0, 1) := by decide +kernel
theorem dX2_putPrice_1 : decode cX2_putPrice 1 = .ok (.getfield 24, 3) := by decide +kernel
theorem dX2_putPrice_4 : decode cX2_putPrice 4 = .ok (.iload_n 1, 1) := by decide +kernel
theorem dX2_putPrice_5 : decode cX2_putPrice 5 = .ok (.iload_n 2, 1) := by decide +kernel
theorem dX2_putPrice_6 : decode cX2_putPrice 6 = .ok (.iastore, 1) := by decide +kernel
theorem dX2_putPrice_7 : decode cX2_putPrice 7 = .ok (.aload_n 0, 1) := by decide +kernel
theorem dX2_putPrice_8 : decode cX2_putPrice 8 = .ok (.invokevirtual 67, 3) := by decide +kernel
theorem dX2_putPrice_11 : decode cX2_putPrice 11 = .ok (.return_, 1) := by decide +kernel
theorem dX2_putKind_0 : decode cX2_putKind 0 = .ok (.aload_n 0, 1) := by decide +kernel
theorem dX2_putKind_1 : decode cX2_putKind 1 = .ok (.getfield 15, 3) := by decide +kernel
theorem dX2_putKind_4 : decode cX2_putKind 4 = .ok (.iload_n 1, 1) := by decide +kernel
theorem dX2_putKind_5 : decode cX2_putKind 5 = .ok (.iload_n 2, 1) := by decide +kernel
theorem dX2_putKind_6 : decode cX2_putKind 6 = .ok (.iastore, 1) := by decide +kernel
theorem dX2_putKind_7 : decode cX2_putKind 7 = .ok (.aload_n 0, 1) := by decide +kernel
theorem dX2_putKind_8 : decode cX2_putKind 8 = .ok (.invokevirtual 67, 3) := by decide +kernel
theorem dX2_putKind_11 : decode cX2_putKind 11 = .ok (.return_, 1) := by decide +kernel
theorem dX2_settle_0 : decode cX2_settle 0 = .ok (.iconst 0, 1) := by decide +kernel
theorem dX2_settle_1 : decode cX2_settle 1 = .ok (.istore_n 1, 1) := by decide +kernel
theorem dX2_settle_2 : decode cX2_settle 2 = .ok (.iload_n 1, 1) := by decide +kernel
theorem dX2_settle_3 : decode cX2_settle 3 = .ok (.aload_n 0, 1) := by decide +kernel
theorem dX2_settle_4 : decode cX2_settle 4 = .ok (.getfield 55, 3) := by decide +kernel
theorem dX2_settle_7 : decode cX2_settle 7 = .ok (.if_icmp .ge 127, 3) := by decide +kernel
theorem dX2_settle_10 : decode cX2_settle 10 = .ok (.aload_n 0, 1) := by decide +kernel
theorem dX2_settle_11 : decode cX2_settle 11 = .ok (.getfield 15, 3) := by decide +kernel
theorem dX2_settle_14 : decode cX2_settle 14 = .ok (.iload_n 1, 1) := by decide +kernel
theorem dX2_settle_15 : decode cX2_settle 15 = .ok (.iaload, 1) := by decide +kernel
theorem dX2_settle_16 : decode cX2_settle 16 = .ok (.iconst 4, 1) := by decide +kernel
theorem dX2_settle_17 : decode cX2_settle 17 = .ok (.if_icmp .eq 13, 3) := by decide +kernel
theorem dX2_settle_20 : decode cX2_settle 20 = .ok (.aload_n 0, 1) := by decide +kernel
theorem dX2_settle_21 : decode cX2_settle 21 = .ok (.getfield 15, 3) := by decide +kernel
theorem dX2_settle_24 : decode cX2_settle 24 = .ok (.iload_n 1, 1) := by decide +kernel
theorem dX2_settle_25 : decode cX2_settle 25 = .ok (.iaload, 1) := by decide +kernel
theorem dX2_settle_26 : decode cX2_settle 26 = .ok (.iconst 5, 1) := by decide +kernel
theorem dX2_settle_27 : decode cX2_settle 27 = .ok (.if_icmp .ne 7, 3) := by decide +kernel
theorem dX2_settle_30 : decode cX2_settle 30 = .ok (.iconst 1, 1) := by decide +kernel
theorem dX2_settle_31 : decode cX2_settle 31 = .ok (.goto 4, 3) := by decide +kernel
theorem dX2_settle_34 : decode cX2_settle 34 = .ok (.iconst 0, 1) := by decide +kernel
theorem dX2_settle_35 : decode cX2_settle 35 = .ok (.istore_n 2, 1) := by decide +kernel
theorem dX2_settle_36 : decode cX2_settle 36 = .ok (.aload_n 0, 1) := by decide +kernel
theorem dX2_settle_37 : decode cX2_settle 37 = .ok (.getfield 42, 3) := by decide +kernel
theorem dX2_settle_40 : decode cX2_settle 40 = .ok (.iload_n 1, 1) := by decide +kernel
theorem dX2_settle_41 : decode cX2_settle 41 = .ok (.iload_n 2, 1) := by decide +kernel
theorem dX2_settle_42 : decode cX2_settle 42 = .ok (.ifCond .eq 7, 3) := by decide +kernel
theorem dX2_settle_45 : decode cX2_settle 45 = .ok (.iconst 0, 1) := by decide +kernel
theorem dX2_settle_46 : decode cX2_settle 46 = .ok (.goto 9, 3) := by decide +kernel
theorem dX2_settle_49 : decode cX2_settle 49 = .ok (.aload_n 0, 1) := by decide +kernel
theorem dX2_settle_50 : decode cX2_settle 50 = .ok (.getfield 18, 3) := by decide +kernel
theorem dX2_settle_53 : decode cX2_settle 53 = .ok (.iload_n 1, 1) := by decide +kernel
theorem dX2_settle_54 : decode cX2_settle 54 = .ok (.iaload, 1) := by decide +kernel
theorem dX2_settle_55 : decode cX2_settle 55 = .ok (.iastore, 1) := by decide +kernel
theorem dX2_settle_56 : decode cX2_settle 56 = .ok (.aload_n 0, 1) := by decide +kernel
theorem dX2_settle_57 : decode cX2_settle 57 = .ok (.getfield 45, 3) := by decide +kernel
theorem dX2_settle_60 : decode cX2_settle 60 = .ok (.iload_n 1, 1) := by decide +kernel
theorem dX2_settle_61 : decode cX2_settle 61 = .ok (.aload_n 0, 1) := by decide +kernel
theorem dX2_settle_62 : decode cX2_settle 62 = .ok (.getfield 15, 3) := by decide +kernel
theorem dX2_settle_65 : decode cX2_settle 65 = .ok (.iload_n 1, 1) := by decide +kernel
theorem dX2_settle_66 : decode cX2_settle 66 = .ok (.iaload, 1) := by decide +kernel
theorem dX2_settle_67 : decode cX2_settle 67 = .ok (.iconst 3, 1) := by decide +kernel
theorem dX2_settle_68 : decode cX2_settle 68 = .ok (.if_icmp .ne 12, 3) := by decide +kernel
theorem dX2_settle_71 : decode cX2_settle 71 = .ok (.aload_n 0, 1) := by decide +kernel
theorem dX2_settle_72 : decode cX2_settle 72 = .ok (.getfield 18, 3) := by decide +kernel
theorem dX2_settle_75 : decode cX2_settle 75 = .ok (.iload_n 1, 1) := by decide +kernel
theorem dX2_settle_76 : decode cX2_settle 76 = .ok (.iaload, 1) := by decide +kernel
theorem dX2_settle_77 : decode cX2_settle 77 = .ok (.goto 9, 3) := by decide +kernel
theorem dX2_settle_80 : decode cX2_settle 80 = .ok (.aload_n 0, 1) := by decide +kernel
theorem dX2_settle_81 : decode cX2_settle 81 = .ok (.getfield 21, 3) := by decide +kernel
theorem dX2_settle_84 : decode cX2_settle 84 = .ok (.iload_n 1, 1) := by decide +kernel
theorem dX2_settle_85 : decode cX2_settle 85 = .ok (.iaload, 1) := by decide +kernel
theorem dX2_settle_86 : decode cX2_settle 86 = .ok (.iastore, 1) := by decide +kernel
theorem dX2_settle_87 : decode cX2_settle 87 = .ok (.aload_n 0, 1) := by decide +kernel
theorem dX2_settle_88 : decode cX2_settle 88 = .ok (.getfield 48, 3) := by decide +kernel
theorem dX2_settle_91 : decode cX2_settle 91 = .ok (.iload_n 1, 1) := by decide +kernel
theorem dX2_settle_92 : decode cX2_settle 92 = .ok (.iload_n 2, 1) := by decide +kernel
theorem dX2_settle_93 : decode cX2_settle 93 = .ok (.ifCond .eq 7, 3) := by decide +kernel
theorem dX2_settle_96 : decode cX2_settle 96 = .ok (.iconst 0, 1) := by decide +kernel
theorem dX2_settle_97 : decode cX2_settle 97 = .ok (.goto 30, 3) := by decide +kernel
theorem dX2_settle_100 : decode cX2_settle 100 = .ok (.aload_n 0, 1) := by decide +kernel
theorem dX2_settle_101 : decode cX2_settle 101 = .ok (.getfield 15, 3) := by decide +kernel
theorem dX2_settle_104 : decode cX2_settle 104 = .ok (.iload_n 1, 1) := by decide +kernel
theorem dX2_settle_105 : decode cX2_settle 105 = .ok (.iaload, 1) := by decide +kernel
theorem dX2_settle_106 : decode cX2_settle 106 = .ok (.iconst 2, 1) := by decide +kernel
theorem dX2_settle_107 : decode cX2_settle 107 = .ok (.if_icmp .ne 14, 3) := by decide +kernel
theorem dX2_settle_110 : decode cX2_settle 110 = .ok (.aload_n 0, 1) := by decide +kernel
theorem dX2_settle_111 : decode cX2_settle 111 = .ok (.getfield 27, 3) := by decide +kernel
theorem dX2_settle_114 : decode cX2_settle 114 = .ok (.iload_n 1, 1) := by decide +kernel
theorem dX2_settle_115 : decode cX2_settle 115 = .ok (.iaload, 1) := by decide +kernel
theorem dX2_settle_116 : decode cX2_settle 116 = .ok (.iconst 2, 1) := by decide +kernel
theorem dX2_settle_117 : decode cX2_settle 117 = .ok (.idiv, 1) := by decide +kernel
theorem dX2_settle_118 : decode cX2_settle 118 = .ok (.goto 9, 3) := by decide +kernel
theorem dX2_settle_121 : decode cX2_settle 121 = .ok (.aload_n 0, 1) := by decide +kernel
theorem dX2_settle_122 : decode cX2_settle 122 = .ok (.getfield 27, 3) := by decide +kernel
theorem dX2_settle_125 : decode cX2_settle 125 = .ok (.iload_n 1, 1) := by decide +kernel
theorem dX2_settle_126 : decode cX2_settle 126 = .ok (.iaload, 1) := by decide +kernel
theorem dX2_settle_127 : decode cX2_settle 127 = .ok (.iastore, 1) := by decide +kernel
theorem dX2_settle_128 : decode cX2_settle 128 = .ok (.iinc 1 1, 3) := by decide +kernel
theorem dX2_settle_131 : decode cX2_settle 131 = .ok (.goto (-129), 3) := by decide +kernel
theorem dX2_settle_134 : decode cX2_settle 134 = .ok (.aload_n 0, 1) := by decide +kernel
theorem dX2_settle_135 : decode cX2_settle 135 = .ok (.invokevirtual 70, 3) := by decide +kernel
theorem dX2_settle_138 : decode cX2_settle 138 = .ok (.return_, 1) := by decide +kernel
theorem dX2_sortUnits_0 : decode cX2_sortUnits 0 = .ok (.iconst 0, 1) := by decide +kernel
theorem dX2_sortUnits_1 : decode cX2_sortUnits 1 = .ok (.istore_n 1, 1) := by decide +kernel
theorem dX2_sortUnits_2 : decode cX2_sortUnits 2 = .ok (.iload_n 1, 1) := by decide +kernel
theorem dX2_sortUnits_3 : decode cX2_sortUnits 3 = .ok (.aload_n 0, 1) := by decide +kernel
theorem dX2_sortUnits_4 : decode cX2_sortUnits 4 = .ok (.getfield 55, 3) := by decide +kernel
theorem dX2_sortUnits_7 : decode cX2_sortUnits 7 = .ok (.if_icmp .ge 64, 3) := by decide +kernel
theorem dX2_sortUnits_10 : decode cX2_sortUnits 10 = .ok (.iload_n 1, 1) := by decide +kernel
theorem dX2_sortUnits_11 : decode cX2_sortUnits 11 = .ok (.istore_n 2, 1) := by decide +kernel
theorem dX2_sortUnits_12 : decode cX2_sortUnits 12 = .ok (.iload_n 2, 1) := by decide +kernel
theorem dX2_sortUnits_13 : decode cX2_sortUnits 13 = .ok (.ifCond .le 45, 3) := by decide +kernel
theorem dX2_sortUnits_16 : decode cX2_sortUnits 16 = .ok (.aload_n 0, 1) := by decide +kernel
theorem dX2_sortUnits_17 : decode cX2_sortUnits 17 = .ok (.getfield 24, 3) := by decide +kernel
theorem dX2_sortUnits_20 : decode cX2_sortUnits 20 = .ok (.iload_n 1, 1) := by decide +kernel
theorem dX2_sortUnits_21 : decode cX2_sortUnits 21 = .ok (.iaload, 1) := by decide +kernel
theorem dX2_sortUnits_22 : decode cX2_sortUnits 22 = .ok (.aload_n 0, 1) := by decide +kernel
theorem dX2_sortUnits_23 : decode cX2_sortUnits 23 = .ok (.getfield 24, 3) := by decide +kernel
theorem dX2_sortUnits_26 : decode cX2_sortUnits 26 = .ok (.aload_n 0, 1) := by decide +kernel
theorem dX2_sortUnits_27 : decode cX2_sortUnits 27 = .ok (.getfield 39, 3) := by decide +kernel
theorem dX2_sortUnits_30 : decode cX2_sortUnits 30 = .ok (.iload_n 2, 1) := by decide +kernel
theorem dX2_sortUnits_31 : decode cX2_sortUnits 31 = .ok (.iconst 1, 1) := by decide +kernel
theorem dX2_sortUnits_32 : decode cX2_sortUnits 32 = .ok (.isub, 1) := by decide +kernel
theorem dX2_sortUnits_33 : decode cX2_sortUnits 33 = .ok (.iaload, 1) := by decide +kernel
theorem dX2_sortUnits_34 : decode cX2_sortUnits 34 = .ok (.iaload, 1) := by decide +kernel
theorem dX2_sortUnits_35 : decode cX2_sortUnits 35 = .ok (.if_icmp .ge 23, 3) := by decide +kernel
theorem dX2_sortUnits_38 : decode cX2_sortUnits 38 = .ok (.aload_n 0, 1) := by decide +kernel
theorem dX2_sortUnits_39 : decode cX2_sortUnits 39 = .ok (.getfield 39, 3) := by decide +kernel
theorem dX2_sortUnits_42 : decode cX2_sortUnits 42 = .ok (.iload_n 2, 1) := by decide +kernel
theorem dX2_sortUnits_43 : decode cX2_sortUnits 43 = .ok (.aload_n 0, 1) := by decide +kernel
theorem dX2_sortUnits_44 : decode cX2_sortUnits 44 = .ok (.getfield 39, 3) := by decide +kernel
theorem dX2_sortUnits_47 : decode cX2_sortUnits 47 = .ok (.iload_n 2, 1) := by decide +kernel
theorem dX2_sortUnits_48 : decode cX2_sortUnits 48 = .ok (.iconst 1, 1) := by decide +kernel
theorem dX2_sortUnits_49 : decode cX2_sortUnits 49 = .ok (.isub, 1) := by decide +kernel
theorem dX2_sortUnits_50 : decode cX2_sortUnits 50 = .ok (.iaload, 1) := by decide +kernel
theorem dX2_sortUnits_51 : decode cX2_sortUnits 51 = .ok (.iastore, 1) := by decide +kernel
theorem dX2_sortUnits_52 : decode cX2_sortUnits 52 = .ok (.iinc 2 (-1), 3) := by decide +kernel
theorem dX2_sortUnits_55 : decode cX2_sortUnits 55 = .ok (.goto (-43), 3) := by decide +kernel
theorem dX2_sortUnits_58 : decode cX2_sortUnits 58 = .ok (.aload_n 0, 1) := by decide +kernel
theorem dX2_sortUnits_59 : decode cX2_sortUnits 59 = .ok (.getfield 39, 3) := by decide +kernel
theorem dX2_sortUnits_62 : decode cX2_sortUnits 62 = .ok (.iload_n 2, 1) := by decide +kernel
theorem dX2_sortUnits_63 : decode cX2_sortUnits 63 = .ok (.iload_n 1, 1) := by decide +kernel
theorem dX2_sortUnits_64 : decode cX2_sortUnits 64 = .ok (.iastore, 1) := by decide +kernel
theorem dX2_sortUnits_65 : decode cX2_sortUnits 65 = .ok (.iinc 1 1, 3) := by decide +kernel
theorem dX2_sortUnits_68 : decode cX2_sortUnits 68 = .ok (.goto (-66), 3) := by decide +kernel
theorem dX2_sortUnits_71 : decode cX2_sortUnits 71 = .ok (.return_, 1) := by decide +kernel
theorem dX2_allHours_0 : decode cX2_allHours 0 = .ok (.iconst 1, 1) := by decide +kernel
theorem dX2_allHours_1 : decode cX2_allHours 1 = .ok (.aload_n 0, 1) := by decide +kernel
theorem dX2_allHours_2 : decode cX2_allHours 2 = .ok (.getfield 51, 3) := by decide +kernel
theorem dX2_allHours_5 : decode cX2_allHours 5 = .ok (.ishl, 1) := by decide +kernel
theorem dX2_allHours_6 : decode cX2_allHours 6 = .ok (.iconst 1, 1) := by decide +kernel
theorem dX2_allHours_7 : decode cX2_allHours 7 = .ok (.isub, 1) := by decide +kernel
theorem dX2_allHours_8 : decode cX2_allHours 8 = .ok (.ireturn, 1) := by decide +kernel
theorem dX2_sumDemands_0 : decode cX2_sumDemands 0 = .ok (.iconst 0, 1) := by decide +kernel
theorem dX2_sumDemands_1 : decode cX2_sumDemands 1 = .ok (.istore_n 1, 1) := by decide +kernel
theorem dX2_sumDemands_2 : decode cX2_sumDemands 2 = .ok (.iconst 0, 1) := by decide +kernel
theorem dX2_sumDemands_3 : decode cX2_sumDemands 3 = .ok (.istore_n 2, 1) := by decide +kernel
theorem dX2_sumDemands_4 : decode cX2_sumDemands 4 = .ok (.iload_n 2, 1) := by decide +kernel
theorem dX2_sumDemands_5 : decode cX2_sumDemands 5 = .ok (.aload_n 0, 1) := by decide +kernel
theorem dX2_sumDemands_6 : decode cX2_sumDemands 6 = .ok (.getfield 51, 3) := by decide +kernel
theorem dX2_sumDemands_9 : decode cX2_sumDemands 9 = .ok (.if_icmp .ge 18, 3) := by decide +kernel
theorem dX2_sumDemands_12 : decode cX2_sumDemands 12 = .ok (.iload_n 1, 1) := by decide +kernel
theorem dX2_sumDemands_13 : decode cX2_sumDemands 13 = .ok (.aload_n 0, 1) := by decide +kernel
theorem dX2_sumDemands_14 : decode cX2_sumDemands 14 = .ok (.getfield 9, 3) := by decide +kernel
theorem dX2_sumDemands_17 : decode cX2_sumDemands 17 = .ok (.iload_n 2, 1) := by decide +kernel
theorem dX2_sumDemands_18 : decode cX2_sumDemands 18 = .ok (.iaload, 1) := by decide +kernel
theorem dX2_sumDemands_19 : decode cX2_sumDemands 19 = .ok (.iadd, 1) := by decide +kernel
theorem dX2_sumDemands_20 : decode cX2_sumDemands 20 = .ok (.istore_n 1, 1) := by decide +kernel
theorem dX2_sumDemands_21 : decode cX2_sumDemands 21 = .ok (.iinc 2 1, 3) := by decide +kernel
theorem dX2_sumDemands_24 : decode cX2_sumDemands 24 = .ok (.goto (-20), 3) := by decide +kernel
theorem dX2_sumDemands_27 : decode cX2_sumDemands 27 = .ok (.iload_n 1, 1) := by decide +kernel
theorem dX2_sumDemands_28 : decode cX2_sumDemands 28 = .ok (.ireturn, 1) := by decide +kernel
theorem dX2_keeps_0 : decode cX2_keeps 0 = .ok (.aload_n 0, 1) := by decide +kernel
theorem dX2_keeps_1 : decode cX2_keeps 1 = .ok (.getfield 15, 3) := by decide +kernel
theorem dX2_keeps_4 : decode cX2_keeps 4 = .ok (.iload_n 1, 1) := by decide +kernel
theorem dX2_keeps_5 : decode cX2_keeps 5 = .ok (.iaload, 1) := by decide +kernel
theorem dX2_keeps_6 : decode cX2_keeps 6 = .ok (.iconst 5, 1) := by decide +kernel
theorem dX2_keeps_7 : decode cX2_keeps 7 = .ok (.if_icmp .ne 17, 3) := by decide +kernel
theorem dX2_keeps_10 : decode cX2_keeps 10 = .ok (.iload_n 2, 1) := by decide +kernel
theorem dX2_keeps_11 : decode cX2_keeps 11 = .ok (.aload_n 0, 1) := by decide +kernel
theorem dX2_keeps_12 : decode cX2_keeps 12 = .ok (.invokevirtual 73, 3) := by decide +kernel
theorem dX2_keeps_15 : decode cX2_keeps 15 = .ok (.if_icmp .ne 7, 3) := by decide +kernel
theorem dX2_keeps_18 : decode cX2_keeps 18 = .ok (.iconst 1, 1) := by decide +kernel
theorem dX2_keeps_19 : decode cX2_keeps 19 = .ok (.goto 4, 3) := by decide +kernel
theorem dX2_keeps_22 : decode cX2_keeps 22 = .ok (.iconst 0, 1) := by decide +kernel
theorem dX2_keeps_23 : decode cX2_keeps 23 = .ok (.ireturn, 1) := by decide +kernel
theorem dX2_keeps_24 : decode cX2_keeps 24 = .ok (.iconst 0, 1) := by decide +kernel
theorem dX2_keeps_25 : decode cX2_keeps 25 = .ok (.istore_n 3, 1) := by decide +kernel
theorem dX2_keeps_26 : decode cX2_keeps 26 = .ok (.bipush 6, 2) := by decide +kernel
theorem dX2_keeps_28 : decode cX2_keeps 28 = .ok (.istore 4, 2) := by decide +kernel
theorem dX2_keeps_30 : decode cX2_keeps 30 = .ok (.iconst 0, 1) := by decide +kernel
theorem dX2_keeps_31 : decode cX2_keeps 31 = .ok (.istore 5, 2) := by decide +kernel
theorem dX2_keeps_33 : decode cX2_keeps 33 = .ok (.iload 5, 2) := by decide +kernel
theorem dX2_keeps_35 : decode cX2_keeps 35 = .ok (.aload_n 0, 1) := by decide +kernel
theorem dX2_keeps_36 : decode cX2_keeps 36 = .ok (.getfield 51, 3) := by decide +kernel
theorem dX2_keeps_39 : decode cX2_keeps 39 = .ok (.if_icmp .ge 66, 3) := by decide +kernel
theorem dX2_keeps_42 : decode cX2_keeps 42 = .ok (.iload_n 2, 1) := by decide +kernel
theorem dX2_keeps_43 : decode cX2_keeps 43 = .ok (.iload 5, 2) := by decide +kernel
theorem dX2_keeps_45 : decode cX2_keeps 45 = .ok (.ishr, 1) := by decide +kernel
theorem dX2_keeps_46 : decode cX2_keeps 46 = .ok (.iconst 1, 1) := by decide +kernel
theorem dX2_keeps_47 : decode cX2_keeps 47 = .ok (.iand, 1) := by decide +kernel
theorem dX2_keeps_48 : decode cX2_keeps 48 = .ok (.iconst 1, 1) := by decide +kernel
theorem dX2_keeps_49 : decode cX2_keeps 49 = .ok (.if_icmp .ne 29, 3) := by decide +kernel
theorem dX2_keeps_52 : decode cX2_keeps 52 = .ok (.iload_n 3, 1) := by decide +kernel
theorem dX2_keeps_53 : decode cX2_keeps 53 = .ok (.ifCond .ne 16, 3) := by decide +kernel
theorem dX2_keeps_56 : decode cX2_keeps 56 = .ok (.iload 4, 2) := by decide +kernel
theorem dX2_keeps_58 : decode cX2_keeps 58 = .ok (.aload_n 0, 1) := by decide +kernel
theorem dX2_keeps_59 : decode cX2_keeps 59 = .ok (.getfield 33, 3) := by decide +kernel
theorem dX2_keeps_62 : decode cX2_keeps 62 = .ok (.iload_n 1, 1) := by decide +kernel
theorem dX2_keeps_63 : decode cX2_keeps 63 = .ok (.iaload, 1) := by decide +kernel
theorem dX2_keeps_64 : decode cX2_keeps 64 = .ok (.if_icmp .ge 5, 3) := by decide +kernel
theorem dX2_keeps_67 : decode cX2_keeps 67 = .ok (.iconst 0, 1) := by decide +kernel
theorem dX2_keeps_68 : decode cX2_keeps 68 = .ok (.ireturn, 1) := by decide +kernel
theorem dX2_keeps_69 : decode cX2_keeps 69 = .ok (.iinc 3 1, 3) := by decide +kernel
theorem dX2_keeps_72 : decode cX2_keeps 72 = .ok (.iconst 0, 1) := by decide +kernel
theorem dX2_keeps_73 : decode cX2_keeps 73 = .ok (.istore 4, 2) := by decide +kernel
theorem dX2_keeps_75 : decode cX2_keeps 75 = .ok (.goto 24, 3) := by decide +kernel
theorem dX2_keeps_78 : decode cX2_keeps 78 = .ok (.iload_n 3, 1) := by decide +kernel
theorem dX2_keeps_79 : decode cX2_keeps 79 = .ok (.ifCond .le 15, 3) := by decide +kernel
theorem dX2_keeps_82 : decode cX2_keeps 82 = .ok (.iload_n 3, 1) := by decide +kernel
theorem dX2_keeps_83 : decode cX2_keeps 83 = .ok (.aload_n 0, 1) := by decide +kernel
theorem dX2_keeps_84 : decode cX2_keeps 84 = .ok (.getfield 30, 3) := by decide +kernel
theorem dX2_keeps_87 : decode cX2_keeps 87 = .ok (.iload_n 1, 1) := by decide +kernel
theorem dX2_keeps_88 : decode cX2_keeps 88 = .ok (.iaload, 1) := by decide +kernel
theorem dX2_keeps_89 : decode cX2_keeps 89 = .ok (.if_icmp .ge 5, 3) := by decide +kernel
theorem dX2_keeps_92 : decode cX2_keeps 92 = .ok (.iconst 0, 1) := by decide +kernel
theorem dX2_keeps_93 : decode cX2_keeps 93 = .ok (.ireturn, 1) := by decide +kernel
theorem dX2_keeps_94 : decode cX2_keeps 94 = .ok (.iconst 0, 1) := by decide +kernel
theorem dX2_keeps_95 : decode cX2_keeps 95 = .ok (.istore_n 3, 1) := by decide +kernel
theorem dX2_keeps_96 : decode cX2_keeps 96 = .ok (.iinc 4 1, 3) := by decide +kernel
theorem dX2_keeps_99 : decode cX2_keeps 99 = .ok (.iinc 5 1, 3) := by decide +kernel
theorem dX2_keeps_102 : decode cX2_keeps 102 = .ok (.goto (-69), 3) := by decide +kernel
theorem dX2_keeps_105 : decode cX2_keeps 105 = .ok (.iconst 1, 1) := by decide +kernel
theorem dX2_keeps_106 : decode cX2_keeps 106 = .ok (.ireturn, 1) := by decide +kernel
theorem dX2_unitsOn_0 : decode cX2_unitsOn 0 = .ok (.aload_n 0, 1) := by decide +kernel
theorem dX2_unitsOn_1 : decode cX2_unitsOn 1 = .ok (.iload_n 1, 1) := by decide +kernel
theorem dX2_unitsOn_2 : decode cX2_unitsOn 2 = .ok (.iconst 0, 1) := by decide +kernel
theorem dX2_unitsOn_3 : decode cX2_unitsOn 3 = .ok (.invokevirtual 77, 3) := by decide +kernel
theorem dX2_unitsOn_6 : decode cX2_unitsOn 6 = .ok (.ireturn, 1) := by decide +kernel
theorem dX2_unitsStarting_0 : decode cX2_unitsStarting 0 = .ok (.aload_n 0, 1) := by decide +kernel
theorem dX2_unitsStarting_1 : decode cX2_unitsStarting 1 = .ok (.iload_n 1, 1) := by decide +kernel
theorem dX2_unitsStarting_2 : decode cX2_unitsStarting 2 = .ok (.iconst 1, 1) := by decide +kernel
theorem dX2_unitsStarting_3 : decode cX2_unitsStarting 3 = .ok (.invokevirtual 77, 3) := by decide +kernel
theorem dX2_unitsStarting_6 : decode cX2_unitsStarting 6 = .ok (.ireturn, 1) := by decide +kernel
theorem dX2_unitsAmong_0 : decode cX2_unitsAmong 0 = .ok (.iconst 0, 1) := by decide +kernel
theorem dX2_unitsAmong_1 : decode cX2_unitsAmong 1 = .ok (.istore_n 3, 1) := by decide +kernel
theorem dX2_unitsAmong_2 : decode cX2_unitsAmong 2 = .ok (.iconst 0, 1) := by decide +kernel
theorem dX2_unitsAmong_3 : decode cX2_unitsAmong 3 = .ok (.istore 4, 2) := by decide +kernel
theorem dX2_unitsAmong_5 : decode cX2_unitsAmong 5 = .ok (.iload 4, 2) := by decide +kernel
theorem dX2_unitsAmong_7 : decode cX2_unitsAmong 7 = .ok (.aload_n 0, 1) := by decide +kernel
theorem dX2_unitsAmong_8 : decode cX2_unitsAmong 8 = .ok (.getfield 55, 3) := by decide +kernel
theorem dX2_unitsAmong_11 : decode cX2_unitsAmong 11 = .ok (.if_icmp .ge 47, 3) := by decide +kernel
theorem dX2_unitsAmong_14 : decode cX2_unitsAmong 14 = .ok (.iload_n 2, 1) := by decide +kernel
theorem dX2_unitsAmong_15 : decode cX2_unitsAmong 15 = .ok (.ifCond .eq 16, 3) := by decide +kernel
theorem dX2_unitsAmong_18 : decode cX2_unitsAmong 18 = .ok (.aload_n 0, 1) := by decide +kernel
theorem dX2_unitsAmong_19 : decode cX2_unitsAmong 19 = .ok (.getfield 36, 3) := by decide +kernel
theorem dX2_unitsAmong_22 : decode cX2_unitsAmong 22 = .ok (.iload 4, 2) := by decide +kernel
theorem dX2_unitsAmong_24 : decode cX2_unitsAmong 24 = .ok (.iaload, 1) := by decide +kernel
theorem dX2_unitsAmong_25 : decode cX2_unitsAmong 25 = .ok (.invokestatic 81, 3) := by decide +kernel
theorem dX2_unitsAmong_28 : decode cX2_unitsAmong 28 = .ok (.goto 10, 3) := by decide +kernel
theorem dX2_unitsAmong_31 : decode cX2_unitsAmong 31 = .ok (.aload_n 0, 1) := by decide +kernel
theorem dX2_unitsAmong_32 : decode cX2_unitsAmong 32 = .ok (.getfield 36, 3) := by decide +kernel
theorem dX2_unitsAmong_35 : decode cX2_unitsAmong 35 = .ok (.iload 4, 2) := by decide +kernel
theorem dX2_unitsAmong_37 : decode cX2_unitsAmong 37 = .ok (.iaload, 1) := by decide +kernel
theorem dX2_unitsAmong_38 : decode cX2_unitsAmong 38 = .ok (.istore 5, 2) := by decide +kernel
theorem dX2_unitsAmong_40 : decode cX2_unitsAmong 40 = .ok (.iload_n 3, 1) := by decide +kernel
theorem dX2_unitsAmong_41 : decode cX2_unitsAmong 41 = .ok (.iload 5, 2) := by decide +kernel
theorem dX2_unitsAmong_43 : decode cX2_unitsAmong 43 = .ok (.iload_n 1, 1) := by decide +kernel
theorem dX2_unitsAmong_44 : decode cX2_unitsAmong 44 = .ok (.ishr, 1) := by decide +kernel
theorem dX2_unitsAmong_45 : decode cX2_unitsAmong 45 = .ok (.iconst 1, 1) := by decide +kernel
theorem dX2_unitsAmong_46 : decode cX2_unitsAmong 46 = .ok (.iand, 1) := by decide +kernel
theorem dX2_unitsAmong_47 : decode cX2_unitsAmong 47 = .ok (.iload 4, 2) := by decide +kernel
theorem dX2_unitsAmong_49 : decode cX2_unitsAmong 49 = .ok (.ishl, 1) := by decide +kernel
theorem dX2_unitsAmong_50 : decode cX2_unitsAmong 50 = .ok (.ior, 1) := by decide +kernel
theorem dX2_unitsAmong_51 : decode cX2_unitsAmong 51 = .ok (.istore_n 3, 1) := by decide +kernel
theorem dX2_unitsAmong_52 : decode cX2_unitsAmong 52 = .ok (.iinc 4 1, 3) := by decide +kernel
theorem dX2_unitsAmong_55 : decode cX2_unitsAmong 55 = .ok (.goto (-50), 3) := by decide +kernel
theorem dX2_unitsAmong_58 : decode cX2_unitsAmong 58 = .ok (.iload_n 3, 1) := by decide +kernel
theorem dX2_unitsAmong_59 : decode cX2_unitsAmong 59 = .ok (.ireturn, 1) := by decide +kernel
theorem dX2_floorsOf_0 : decode cX2_floorsOf 0 = .ok (.iconst 0, 1) := by decide +kernel
theorem dX2_floorsOf_1 : decode cX2_floorsOf 1 = .ok (.istore_n 2, 1) := by decide +kernel
theorem dX2_floorsOf_2 : decode cX2_floorsOf 2 = .ok (.iconst 0, 1) := by decide +kernel
theorem dX2_floorsOf_3 : decode cX2_floorsOf 3 = .ok (.istore_n 3, 1) := by decide +kernel
theorem dX2_floorsOf_4 : decode cX2_floorsOf 4 = .ok (.iload_n 3, 1) := by decide +kernel
theorem dX2_floorsOf_5 : decode cX2_floorsOf 5 = .ok (.aload_n 0, 1) := by decide +kernel
theorem dX2_floorsOf_6 : decode cX2_floorsOf 6 = .ok (.getfield 55, 3) := by decide +kernel
theorem dX2_floorsOf_9 : decode cX2_floorsOf 9 = .ok (.if_icmp .ge 27, 3) := by decide +kernel
theorem dX2_floorsOf_12 : decode cX2_floorsOf 12 = .ok (.iload_n 1, 1) := by decide +kernel
theorem dX2_floorsOf_13 : decode cX2_floorsOf 13 = .ok (.iload_n 3, 1) := by decide +kernel
theorem dX2_floorsOf_14 : decode cX2_floorsOf 14 = .ok (.ishr, 1) := by decide +kernel
theorem dX2_floorsOf_15 : decode cX2_floorsOf 15 = .ok (.iconst 1, 1) := by decide +kernel
theorem dX2_floorsOf_16 : decode cX2_floorsOf 16 = .ok (.iand, 1) := by decide +kernel
theorem dX2_floorsOf_17 : decode cX2_floorsOf 17 = .ok (.iconst 1, 1) := by decide +kernel
theorem dX2_floorsOf_18 : decode cX2_floorsOf 18 = .ok (.if_icmp .ne 12, 3) := by decide +kernel
theorem dX2_floorsOf_21 : decode cX2_floorsOf 21 = .ok (.iload_n 2, 1) := by decide +kernel
theorem dX2_floorsOf_22 : decode cX2_floorsOf 22 = .ok (.aload_n 0, 1) := by decide +kernel
theorem dX2_floorsOf_23 : decode cX2_floorsOf 23 = .ok (.getfield 42, 3) := by decide +kernel
theorem dX2_floorsOf_26 : decode cX2_floorsOf 26 = .ok (.iload_n 3, 1) := by decide +kernel
theorem dX2_floorsOf_27 : decode cX2_floorsOf 27 = .ok (.iaload, 1) := by decide +kernel
theorem dX2_floorsOf_28 : decode cX2_floorsOf 28 = .ok (.iadd, 1) := by decide +kernel
theorem dX2_floorsOf_29 : decode cX2_floorsOf 29 = .ok (.istore_n 2, 1) := by decide +kernel
theorem dX2_floorsOf_30 : decode cX2_floorsOf 30 = .ok (.iinc 3 1, 3) := by decide +kernel
theorem dX2_floorsOf_33 : decode cX2_floorsOf 33 = .ok (.goto (-29), 3) := by decide +kernel
theorem dX2_floorsOf_36 : decode cX2_floorsOf 36 = .ok (.iload_n 2, 1) := by decide +kernel
theorem dX2_floorsOf_37 : decode cX2_floorsOf 37 = .ok (.ireturn, 1) := by decide +kernel
theorem dX2_roofsOf_0 : decode cX2_roofsOf 0 = .ok (.iconst 0, 1) := by decide +kernel
theorem dX2_roofsOf_1 : decode cX2_roofsOf 1 = .ok (.istore_n 3, 1) := by decide +kernel
theorem dX2_roofsOf_2 : decode cX2_roofsOf 2 = .ok (.iconst 0, 1) := by decide +kernel
theorem dX2_roofsOf_3 : decode cX2_roofsOf 3 = .ok (.istore 4, 2) := by decide +kernel
theorem dX2_roofsOf_5 : decode cX2_roofsOf 5 = .ok (.iload 4, 2) := by decide +kernel
theorem dX2_roofsOf_7 : decode cX2_roofsOf 7 = .ok (.aload_n 0, 1) := by decide +kernel
theorem dX2_roofsOf_8 : decode cX2_roofsOf 8 = .ok (.getfield 55, 3) := by decide +kernel
theorem dX2_roofsOf_11 : decode cX2_roofsOf 11 = .ok (.if_icmp .ge 49, 3) := by decide +kernel
theorem dX2_roofsOf_14 : decode cX2_roofsOf 14 = .ok (.iload_n 1, 1) := by decide +kernel
theorem dX2_roofsOf_15 : decode cX2_roofsOf 15 = .ok (.iload 4, 2) := by decide +kernel
theorem dX2_roofsOf_17 : decode cX2_roofsOf 17 = .ok (.ishr, 1) := by decide +kernel
theorem dX2_roofsOf_18 : decode cX2_roofsOf 18 = .ok (.iconst 1, 1) := by decide +kernel
theorem dX2_roofsOf_19 : decode cX2_roofsOf 19 = .ok (.iand, 1) := by decide +kernel
theorem dX2_roofsOf_20 : decode cX2_roofsOf 20 = .ok (.iconst 1, 1) := by decide +kernel
theorem dX2_roofsOf_21 : decode cX2_roofsOf 21 = .ok (.if_icmp .ne 33, 3) := by decide +kernel
theorem dX2_roofsOf_24 : decode cX2_roofsOf 24 = .ok (.iload_n 3, 1) := by decide +kernel
theorem dX2_roofsOf_25 : decode cX2_roofsOf 25 = .ok (.iload_n 2, 1) := by decide +kernel
theorem dX2_roofsOf_26 : decode cX2_roofsOf 26 = .ok (.iload 4, 2) := by decide +kernel
theorem dX2_roofsOf_28 : decode cX2_roofsOf 28 = .ok (.ishr, 1) := by decide +kernel
theorem dX2_roofsOf_29 : decode cX2_roofsOf 29 = .ok (.iconst 1, 1) := by decide +kernel
theorem dX2_roofsOf_30 : decode cX2_roofsOf 30 = .ok (.iand, 1) := by decide +kernel
theorem dX2_roofsOf_31 : decode cX2_roofsOf 31 = .ok (.iconst 1, 1) := by decide +kernel
theorem dX2_roofsOf_32 : decode cX2_roofsOf 32 = .ok (.if_icmp .ne 13, 3) := by decide +kernel
theorem dX2_roofsOf_35 : decode cX2_roofsOf 35 = .ok (.aload_n 0, 1) := by decide +kernel
theorem dX2_roofsOf_36 : decode cX2_roofsOf 36 = .ok (.getfield 45, 3) := by decide +kernel
theorem dX2_roofsOf_39 : decode cX2_roofsOf 39 = .ok (.iload 4, 2) := by decide +kernel
theorem dX2_roofsOf_41 : decode cX2_roofsOf 41 = .ok (.iaload, 1) := by decide +kernel
theorem dX2_roofsOf_42 : decode cX2_roofsOf 42 = .ok (.goto 10, 3) := by decide +kernel
theorem dX2_roofsOf_45 : decode cX2_roofsOf 45 = .ok (.aload_n 0, 1) := by decide +kernel
theorem dX2_roofsOf_46 : decode cX2_roofsOf 46 = .ok (.getfield 21, 3) := by decide +kernel
theorem dX2_roofsOf_49 : decode cX2_roofsOf 49 = .ok (.iload 4, 2) := by decide +kernel
theorem dX2_roofsOf_51 : decode cX2_roofsOf 51 = .ok (.iaload, 1) := by decide +kernel
theorem dX2_roofsOf_52 : decode cX2_roofsOf 52 = .ok (.iadd, 1) := by decide +kernel
theorem dX2_roofsOf_53 : decode cX2_roofsOf 53 = .ok (.istore_n 3, 1) := by decide +kernel
theorem dX2_roofsOf_54 : decode cX2_roofsOf 54 = .ok (.iinc 4 1, 3) := by decide +kernel
theorem dX2_roofsOf_57 : decode cX2_roofsOf 57 = .ok (.goto (-52), 3) := by decide +kernel
theorem dX2_roofsOf_60 : decode cX2_roofsOf 60 = .ok (.iload_n 3, 1) := by decide +kernel
theorem dX2_roofsOf_61 : decode cX2_roofsOf 61 = .ok (.ireturn, 1) := by decide +kernel
theorem dX2_isMet_0 : decode cX2_isMet 0 = .ok (.aload_n 0, 1) := by decide +kernel
theorem dX2_isMet_1 : decode cX2_isMet 1 = .ok (.iload_n 2, 1) := by decide +kernel
theorem dX2_isMet_2 : decode cX2_isMet 2 = .ok (.invokevirtual 85, 3) := by decide +kernel
theorem dX2_isMet_5 : decode cX2_isMet 5 = .ok (.iload_n 1, 1) := by decide +kernel
theorem dX2_isMet_6 : decode cX2_isMet 6 = .ok (.if_icmp .gt 22, 3) := by decide +kernel
theorem dX2_isMet_9 : decode cX2_isMet 9 = .ok (.aload_n 0, 1) := by decide +kernel
theorem dX2_isMet_10 : decode cX2_isMet 10 = .ok (.iload_n 2, 1) := by decide +kernel
theorem dX2_isMet_11 : decode cX2_isMet 11 = .ok (.iload_n 3, 1) := by decide +kernel
theorem dX2_isMet_12 : decode cX2_isMet 12 = .ok (.invokevirtual 88, 3) := by decide +kernel
theorem dX2_isMet_15 : decode cX2_isMet 15 = .ok (.iload_n 1, 1) := by decide +kernel
theorem dX2_isMet_16 : decode cX2_isMet 16 = .ok (.aload_n 0, 1) := by decide +kernel
theorem dX2_isMet_17 : decode cX2_isMet 17 = .ok (.getfield 58, 3) := by decide +kernel
theorem dX2_isMet_20 : decode cX2_isMet 20 = .ok (.iadd, 1) := by decide +kernel
theorem dX2_isMet_21 : decode cX2_isMet 21 = .ok (.if_icmp .lt 7, 3) := by decide +kernel
theorem dX2_isMet_24 : decode cX2_isMet 24 = .ok (.iconst 1, 1) := by decide +kernel
theorem dX2_isMet_25 : decode cX2_isMet 25 = .ok (.goto 4, 3) := by decide +kernel
theorem dX2_isMet_28 : decode cX2_isMet 28 = .ok (.iconst 0, 1) := by decide +kernel
theorem dX2_isMet_29 : decode cX2_isMet 29 = .ok (.ireturn, 1) := by decide +kernel
theorem dX2_givenBy_0 : decode cX2_givenBy 0 = .ok (.iload_n 2, 1) := by decide +kernel
theorem dX2_givenBy_1 : decode cX2_givenBy 1 = .ok (.aload_n 0, 1) := by decide +kernel
theorem dX2_givenBy_2 : decode cX2_givenBy 2 = .ok (.iload_n 3, 1) := by decide +kernel
theorem dX2_givenBy_3 : decode cX2_givenBy 3 = .ok (.invokevirtual 85, 3) := by decide +kernel
theorem dX2_givenBy_6 : decode cX2_givenBy 6 = .ok (.isub, 1) := by decide +kernel
theorem dX2_givenBy_7 : decode cX2_givenBy 7 = .ok (.istore 5, 2) := by decide +kernel
theorem dX2_givenBy_9 : decode cX2_givenBy 9 = .ok (.iconst 0, 1) := by decide +kernel
theorem dX2_givenBy_10 : decode cX2_givenBy 10 = .ok (.istore 6, 2) := by decide +kernel
theorem dX2_givenBy_12 : decode cX2_givenBy 12 = .ok (.iload 6, 2) := by decide +kernel
theorem dX2_givenBy_14 : decode cX2_givenBy 14 = .ok (.aload_n 0, 1) := by decide +kernel
theorem dX2_givenBy_15 : decode cX2_givenBy 15 = .ok (.getfield 55, 3) := by decide +kernel
theorem dX2_givenBy_18 : decode cX2_givenBy 18 = .ok (.if_icmp .ge 99, 3) := by decide +kernel
theorem dX2_givenBy_21 : decode cX2_givenBy 21 = .ok (.aload_n 0, 1) := by decide +kernel
theorem dX2_givenBy_22 : decode cX2_givenBy 22 = .ok (.getfield 39, 3) := by decide +kernel
theorem dX2_givenBy_25 : decode cX2_givenBy 25 = .ok (.iload 6, 2) := by decide +kernel
theorem dX2_givenBy_27 : decode cX2_givenBy 27 = .ok (.iaload, 1) := by decide +kernel
theorem dX2_givenBy_28 : decode cX2_givenBy 28 = .ok (.istore 7, 2) := by decide +kernel
theorem dX2_givenBy_30 : decode cX2_givenBy 30 = .ok (.iload_n 3, 1) := by decide +kernel
theorem dX2_givenBy_31 : decode cX2_givenBy 31 = .ok (.iload 7, 2) := by decide +kernel
theorem dX2_givenBy_33 : decode cX2_givenBy 33 = .ok (.ishr, 1) := by decide +kernel
theorem dX2_givenBy_34 : decode cX2_givenBy 34 = .ok (.iconst 1, 1) := by decide +kernel
theorem dX2_givenBy_35 : decode cX2_givenBy 35 = .ok (.iand, 1) := by decide +kernel
theorem dX2_givenBy_36 : decode cX2_givenBy 36 = .ok (.iconst 1, 1) := by decide +kernel
theorem dX2_givenBy_37 : decode cX2_givenBy 37 = .ok (.if_icmp .ne 74, 3) := by decide +kernel
theorem dX2_givenBy_40 : decode cX2_givenBy 40 = .ok (.iload 4, 2) := by decide +kernel
theorem dX2_givenBy_42 : decode cX2_givenBy 42 = .ok (.iload 7, 2) := by decide +kernel
theorem dX2_givenBy_44 : decode cX2_givenBy 44 = .ok (.ishr, 1) := by decide +kernel
theorem dX2_givenBy_45 : decode cX2_givenBy 45 = .ok (.iconst 1, 1) := by decide +kernel
theorem dX2_givenBy_46 : decode cX2_givenBy 46 = .ok (.iand, 1) := by decide +kernel
theorem dX2_givenBy_47 : decode cX2_givenBy 47 = .ok (.iconst 1, 1) := by decide +kernel
theorem dX2_givenBy_48 : decode cX2_givenBy 48 = .ok (.if_icmp .ne 13, 3) := by decide +kernel
theorem dX2_givenBy_51 : decode cX2_givenBy 51 = .ok (.aload_n 0, 1) := by decide +kernel
theorem dX2_givenBy_52 : decode cX2_givenBy 52 = .ok (.getfield 45, 3) := by decide +kernel
theorem dX2_givenBy_55 : decode cX2_givenBy 55 = .ok (.iload 7, 2) := by decide +kernel
theorem dX2_givenBy_57 : decode cX2_givenBy 57 = .ok (.iaload, 1) := by decide +kernel
theorem dX2_givenBy_58 : decode cX2_givenBy 58 = .ok (.goto 10, 3) := by decide +kernel
theorem dX2_givenBy_61 : decode cX2_givenBy 61 = .ok (.aload_n 0, 1) := by decide +kernel
theorem dX2_givenBy_62 : decode cX2_givenBy 62 = .ok (.getfield 21, 3) := by decide +kernel
theorem dX2_givenBy_65 : decode cX2_givenBy 65 = .ok (.iload 7, 2) := by decide +kernel
theorem dX2_givenBy_67 : decode cX2_givenBy 67 = .ok (.iaload, 1) := by decide +kernel
theorem dX2_givenBy_68 : decode cX2_givenBy 68 = .ok (.istore 8, 2) := by decide +kernel
theorem dX2_givenBy_70 : decode cX2_givenBy 70 = .ok (.iload 5, 2) := by decide +kernel
theorem dX2_givenBy_72 : decode cX2_givenBy 72 = .ok (.iload 8, 2) := by decide +kernel
theorem dX2_givenBy_74 : decode cX2_givenBy 74 = .ok (.aload_n 0, 1) := by decide +kernel
theorem dX2_givenBy_75 : decode cX2_givenBy 75 = .ok (.getfield 42, 3) := by decide +kernel
theorem dX2_givenBy_78 : decode cX2_givenBy 78 = .ok (.iload 7, 2) := by decide +kernel
theorem dX2_givenBy_80 : decode cX2_givenBy 80 = .ok (.iaload, 1) := by decide +kernel
theorem dX2_givenBy_81 : decode cX2_givenBy 81 = .ok (.isub, 1) := by decide +kernel
theorem dX2_givenBy_82 : decode cX2_givenBy 82 = .ok (.invokestatic 92, 3) := by decide +kernel
theorem dX2_givenBy_85 : decode cX2_givenBy 85 = .ok (.istore 9, 2) := by decide +kernel
theorem dX2_givenBy_87 : decode cX2_givenBy 87 = .ok (.iload 7, 2) := by decide +kernel
theorem dX2_givenBy_89 : decode cX2_givenBy 89 = .ok (.iload_n 1, 1) := by decide +kernel
theorem dX2_givenBy_90 : decode cX2_givenBy 90 = .ok (.if_icmp .ne 14, 3) := by decide +kernel
theorem dX2_givenBy_93 : decode cX2_givenBy 93 = .ok (.aload_n 0, 1) := by decide +kernel
theorem dX2_givenBy_94 : decode cX2_givenBy 94 = .ok (.getfield 42, 3) := by decide +kernel
theorem dX2_givenBy_97 : decode cX2_givenBy 97 = .ok (.iload 7, 2) := by decide +kernel
theorem dX2_givenBy_99 : decode cX2_givenBy 99 = .ok (.iaload, 1) := by decide +kernel
theorem dX2_givenBy_100 : decode cX2_givenBy 100 = .ok (.iload 9, 2) := by decide +kernel
theorem dX2_givenBy_102 : decode cX2_givenBy 102 = .ok (.iadd, 1) := by decide +kernel
theorem dX2_givenBy_103 : decode cX2_givenBy 103 = .ok (.ireturn, 1) := by decide +kernel
theorem dX2_givenBy_104 : decode cX2_givenBy 104 = .ok (.iload 5, 2) := by decide +kernel
theorem dX2_givenBy_106 : decode cX2_givenBy 106 = .ok (.iload 9, 2) := by decide +kernel
theorem dX2_givenBy_108 : decode cX2_givenBy 108 = .ok (.isub, 1) := by decide +kernel
theorem dX2_givenBy_109 : decode cX2_givenBy 109 = .ok (.istore 5, 2) := by decide +kernel
theorem dX2_givenBy_111 : decode cX2_givenBy 111 = .ok (.iinc 6 1, 3) := by decide +kernel
theorem dX2_givenBy_114 : decode cX2_givenBy 114 = .ok (.goto (-102), 3) := by decide +kernel
theorem dX2_givenBy_117 : decode cX2_givenBy 117 = .ok (.iconst 0, 1) := by decide +kernel
theorem dX2_givenBy_118 : decode cX2_givenBy 118 = .ok (.ireturn, 1) := by decide +kernel
theorem dX2_hourCost_0 : decode cX2_hourCost 0 = .ok (.iload_n 1, 1) := by decide +kernel
theorem dX2_hourCost_1 : decode cX2_hourCost 1 = .ok (.istore 4, 2) := by decide +kernel
theorem dX2_hourCost_3 : decode cX2_hourCost 3 = .ok (.iload_n 1, 1) := by decide +kernel
theorem dX2_hourCost_4 : decode cX2_hourCost 4 = .ok (.ineg, 1) := by decide +kernel
theorem dX2_hourCost_5 : decode cX2_hourCost 5 = .ok (.aload_n 0, 1) := by decide +kernel
theorem dX2_hourCost_6 : decode cX2_hourCost 6 = .ok (.getfield 58, 3) := by decide +kernel
theorem dX2_hourCost_9 : decode cX2_hourCost 9 = .ok (.isub, 1) := by decide +kernel
theorem dX2_hourCost_10 : decode cX2_hourCost 10 = .ok (.istore 5, 2) := by decide +kernel
theorem dX2_hourCost_12 : decode cX2_hourCost 12 = .ok (.iconst 0, 1) := by decide +kernel
theorem dX2_hourCost_13 : decode cX2_hourCost 13 = .ok (.istore 6, 2) := by decide +kernel
theorem dX2_hourCost_15 : decode cX2_hourCost 15 = .ok (.iload 6, 2) := by decide +kernel
theorem dX2_hourCost_17 : decode cX2_hourCost 17 = .ok (.aload_n 0, 1) := by decide +kernel
theorem dX2_hourCost_18 : decode cX2_hourCost 18 = .ok (.getfield 55, 3) := by decide +kernel
theorem dX2_hourCost_21 : decode cX2_hourCost 21 = .ok (.if_icmp .ge 63, 3) := by decide +kernel
theorem dX2_hourCost_24 : decode cX2_hourCost 24 = .ok (.iload_n 2, 1) := by decide +kernel
theorem dX2_hourCost_25 : decode cX2_hourCost 25 = .ok (.iload 6, 2) := by decide +kernel
theorem dX2_hourCost_27 : decode cX2_hourCost 27 = .ok (.ishr, 1) := by decide +kernel
theorem dX2_hourCost_28 : decode cX2_hourCost 28 = .ok (.iconst 1, 1) := by decide +kernel
theorem dX2_hourCost_29 : decode cX2_hourCost 29 = .ok (.iand, 1) := by decide +kernel
theorem dX2_hourCost_30 : decode cX2_hourCost 30 = .ok (.iconst 1, 1) := by decide +kernel
theorem dX2_hourCost_31 : decode cX2_hourCost 31 = .ok (.if_icmp .ne 47, 3) := by decide +kernel
theorem dX2_hourCost_34 : decode cX2_hourCost 34 = .ok (.iload 4, 2) := by decide +kernel
theorem dX2_hourCost_36 : decode cX2_hourCost 36 = .ok (.aload_n 0, 1) := by decide +kernel
theorem dX2_hourCost_37 : decode cX2_hourCost 37 = .ok (.getfield 42, 3) := by decide +kernel
theorem dX2_hourCost_40 : decode cX2_hourCost 40 = .ok (.iload 6, 2) := by decide +kernel
theorem dX2_hourCost_42 : decode cX2_hourCost 42 = .ok (.iaload, 1) := by decide +kernel
theorem dX2_hourCost_43 : decode cX2_hourCost 43 = .ok (.isub, 1) := by decide +kernel
theorem dX2_hourCost_44 : decode cX2_hourCost 44 = .ok (.istore 4, 2) := by decide +kernel
theorem dX2_hourCost_46 : decode cX2_hourCost 46 = .ok (.iload 5, 2) := by decide +kernel
theorem dX2_hourCost_48 : decode cX2_hourCost 48 = .ok (.iload_n 3, 1) := by decide +kernel
theorem dX2_hourCost_49 : decode cX2_hourCost 49 = .ok (.iload 6, 2) := by decide +kernel
theorem dX2_hourCost_51 : decode cX2_hourCost 51 = .ok (.ishr, 1) := by decide +kernel
theorem dX2_hourCost_52 : decode cX2_hourCost 52 = .ok (.iconst 1, 1) := by decide +kernel
theorem dX2_hourCost_53 : decode cX2_hourCost 53 = .ok (.iand, 1) := by decide +kernel
theorem dX2_hourCost_54 : decode cX2_hourCost 54 = .ok (.iconst 1, 1) := by decide +kernel
theorem dX2_hourCost_55 : decode cX2_hourCost 55 = .ok (.if_icmp .ne 13, 3) := by decide +kernel
theorem dX2_hourCost_58 : decode cX2_hourCost 58 = .ok (.aload_n 0, 1) := by decide +kernel
theorem dX2_hourCost_59 : decode cX2_hourCost 59 = .ok (.getfield 45, 3) := by decide +kernel
theorem dX2_hourCost_62 : decode cX2_hourCost 62 = .ok (.iload 6, 2) := by decide +kernel
theorem dX2_hourCost_64 : decode cX2_hourCost 64 = .ok (.iaload, 1) := by decide +kernel
theorem dX2_hourCost_65 : decode cX2_hourCost 65 = .ok (.goto 10, 3) := by decide +kernel
theorem dX2_hourCost_68 : decode cX2_hourCost 68 = .ok (.aload_n 0, 1) := by decide +kernel
theorem dX2_hourCost_69 : decode cX2_hourCost 69 = .ok (.getfield 21, 3) := by decide +kernel
theorem dX2_hourCost_72 : decode cX2_hourCost 72 = .ok (.iload 6, 2) := by decide +kernel
theorem dX2_hourCost_74 : decode cX2_hourCost 74 = .ok (.iaload, 1) := by decide +kernel
theorem dX2_hourCost_75 : decode cX2_hourCost 75 = .ok (.iadd, 1) := by decide +kernel
theorem dX2_hourCost_76 : decode cX2_hourCost 76 = .ok (.istore 5, 2) := by decide +kernel
theorem dX2_hourCost_78 : decode cX2_hourCost 78 = .ok (.iinc 6 1, 3) := by decide +kernel
theorem dX2_hourCost_81 : decode cX2_hourCost 81 = .ok (.goto (-66), 3) := by decide +kernel
theorem dX2_hourCost_84 : decode cX2_hourCost 84 = .ok (.iload 4, 2) := by decide +kernel
theorem dX2_hourCost_86 : decode cX2_hourCost 86 = .ok (.ifCond .lt 8, 3) := by decide +kernel
theorem dX2_hourCost_89 : decode cX2_hourCost 89 = .ok (.iload 5, 2) := by decide +kernel
theorem dX2_hourCost_91 : decode cX2_hourCost 91 = .ok (.ifCond .ge 6, 3) := by decide +kernel
theorem dX2_hourCost_94 : decode cX2_hourCost 94 = .ok (.ldc 97, 2) := by decide +kernel
theorem dX2_hourCost_96 : decode cX2_hourCost 96 = .ok (.ireturn, 1) := by decide +kernel
theorem dX2_hourCost_97 : decode cX2_hourCost 97 = .ok (.iconst 0, 1) := by decide +kernel
theorem dX2_hourCost_98 : decode cX2_hourCost 98 = .ok (.istore 6, 2) := by decide +kernel
theorem dX2_hourCost_100 : decode cX2_hourCost 100 = .ok (.iconst 0, 1) := by decide +kernel
theorem dX2_hourCost_101 : decode cX2_hourCost 101 = .ok (.istore 7, 2) := by decide +kernel
theorem dX2_hourCost_103 : decode cX2_hourCost 103 = .ok (.iload 7, 2) := by decide +kernel
theorem dX2_hourCost_105 : decode cX2_hourCost 105 = .ok (.aload_n 0, 1) := by decide +kernel
theorem dX2_hourCost_106 : decode cX2_hourCost 106 = .ok (.getfield 55, 3) := by decide +kernel
theorem dX2_hourCost_109 : decode cX2_hourCost 109 = .ok (.if_icmp .ge 140, 3) := by decide +kernel
theorem dX2_hourCost_112 : decode cX2_hourCost 112 = .ok (.aload_n 0, 1) := by decide +kernel
theorem dX2_hourCost_113 : decode cX2_hourCost 113 = .ok (.getfield 39, 3) := by decide +kernel
theorem dX2_hourCost_116 : decode cX2_hourCost 116 = .ok (.iload 7, 2) := by decide +kernel
theorem dX2_hourCost_118 : decode cX2_hourCost 118 = .ok (.iaload, 1) := by decide +kernel
theorem dX2_hourCost_119 : decode cX2_hourCost 119 = .ok (.istore 8, 2) := by decide +kernel
theorem dX2_hourCost_121 : decode cX2_hourCost 121 = .ok (.iload_n 2, 1) := by decide +kernel
theorem dX2_hourCost_122 : decode cX2_hourCost 122 = .ok (.iload 8, 2) := by decide +kernel
theorem dX2_hourCost_124 : decode cX2_hourCost 124 = .ok (.ishr, 1) := by decide +kernel
theorem dX2_hourCost_125 : decode cX2_hourCost 125 = .ok (.iconst 1, 1) := by decide +kernel
theorem dX2_hourCost_126 : decode cX2_hourCost 126 = .ok (.iand, 1) := by decide +kernel
theorem dX2_hourCost_127 : decode cX2_hourCost 127 = .ok (.iconst 1, 1) := by decide +kernel
theorem dX2_hourCost_128 : decode cX2_hourCost 128 = .ok (.if_icmp .ne 115, 3) := by decide +kernel
theorem dX2_hourCost_131 : decode cX2_hourCost 131 = .ok (.iload_n 3, 1) := by decide +kernel
theorem dX2_hourCost_132 : decode cX2_hourCost 132 = .ok (.iload 8, 2) := by decide +kernel
theorem dX2_hourCost_134 : decode cX2_hourCost 134 = .ok (.ishr, 1) := by decide +kernel
theorem dX2_hourCost_135 : decode cX2_hourCost 135 = .ok (.iconst 1, 1) := by decide +kernel
theorem dX2_hourCost_136 : decode cX2_hourCost 136 = .ok (.iand, 1) := by decide +kernel
theorem dX2_hourCost_137 : decode cX2_hourCost 137 = .ok (.iconst 1, 1) := by decide +kernel
theorem dX2_hourCost_138 : decode cX2_hourCost 138 = .ok (.if_icmp .ne 7, 3) := by decide +kernel
theorem dX2_hourCost_141 : decode cX2_hourCost 141 = .ok (.iconst 1, 1) := by decide +kernel
theorem dX2_hourCost_142 : decode cX2_hourCost 142 = .ok (.goto 4, 3) := by decide +kernel
theorem dX2_hourCost_145 : decode cX2_hourCost 145 = .ok (.iconst 0, 1) := by decide +kernel
theorem dX2_hourCost_146 : decode cX2_hourCost 146 = .ok (.istore 9, 2) := by decide +kernel
theorem dX2_hourCost_148 : decode cX2_hourCost 148 = .ok (.iload 9, 2) := by decide +kernel
theorem dX2_hourCost_150 : decode cX2_hourCost 150 = .ok (.ifCond .eq 13, 3) := by decide +kernel
theorem dX2_hourCost_153 : decode cX2_hourCost 153 = .ok (.aload_n 0, 1) := by decide +kernel
theorem dX2_hourCost_154 : decode cX2_hourCost 154 = .ok (.getfield 45, 3) := by decide +kernel
theorem dX2_hourCost_157 : decode cX2_hourCost 157 = .ok (.iload 8, 2) := by decide +kernel
theorem dX2_hourCost_159 : decode cX2_hourCost 159 = .ok (.iaload, 1) := by decide +kernel
theorem dX2_hourCost_160 : decode cX2_hourCost 160 = .ok (.goto 10, 3) := by decide +kernel
theorem dX2_hourCost_163 : decode cX2_hourCost 163 = .ok (.aload_n 0, 1) := by decide +kernel
theorem dX2_hourCost_164 : decode cX2_hourCost 164 = .ok (.getfield 21, 3) := by decide +kernel
theorem dX2_hourCost_167 : decode cX2_hourCost 167 = .ok (.iload 8, 2) := by decide +kernel
theorem dX2_hourCost_169 : decode cX2_hourCost 169 = .ok (.iaload, 1) := by decide +kernel
theorem dX2_hourCost_170 : decode cX2_hourCost 170 = .ok (.aload_n 0, 1) := by decide +kernel
theorem dX2_hourCost_171 : decode cX2_hourCost 171 = .ok (.getfield 42, 3) := by decide +kernel
theorem dX2_hourCost_174 : decode cX2_hourCost 174 = .ok (.iload 8, 2) := by decide +kernel
theorem dX2_hourCost_176 : decode cX2_hourCost 176 = .ok (.iaload, 1) := by decide +kernel
theorem dX2_hourCost_177 : decode cX2_hourCost 177 = .ok (.isub, 1) := by decide +kernel
theorem dX2_hourCost_178 : decode cX2_hourCost 178 = .ok (.istore 10, 2) := by decide +kernel
theorem dX2_hourCost_180 : decode cX2_hourCost 180 = .ok (.iload 4, 2) := by decide +kernel
theorem dX2_hourCost_182 : decode cX2_hourCost 182 = .ok (.iload 10, 2) := by decide +kernel
theorem dX2_hourCost_184 : decode cX2_hourCost 184 = .ok (.if_icmp .ge 8, 3) := by decide +kernel
theorem dX2_hourCost_187 : decode cX2_hourCost 187 = .ok (.iload 4, 2) := by decide +kernel
theorem dX2_hourCost_189 : decode cX2_hourCost 189 = .ok (.goto 5, 3) := by decide +kernel
theorem dX2_hourCost_192 : decode cX2_hourCost 192 = .ok (.iload 10, 2) := by decide +kernel
theorem dX2_hourCost_194 : decode cX2_hourCost 194 = .ok (.istore 11, 2) := by decide +kernel
theorem dX2_hourCost_196 : decode cX2_hourCost 196 = .ok (.iload 4, 2) := by decide +kernel
theorem dX2_hourCost_198 : decode cX2_hourCost 198 = .ok (.iload 11, 2) := by decide +kernel
theorem dX2_hourCost_200 : decode cX2_hourCost 200 = .ok (.isub, 1) := by decide +kernel
theorem dX2_hourCost_201 : decode cX2_hourCost 201 = .ok (.istore 4, 2) := by decide +kernel
theorem dX2_hourCost_203 : decode cX2_hourCost 203 = .ok (.iload 6, 2) := by decide +kernel
theorem dX2_hourCost_205 : decode cX2_hourCost 205 = .ok (.aload_n 0, 1) := by decide +kernel
theorem dX2_hourCost_206 : decode cX2_hourCost 206 = .ok (.getfield 42, 3) := by decide +kernel
theorem dX2_hourCost_209 : decode cX2_hourCost 209 = .ok (.iload 8, 2) := by decide +kernel
theorem dX2_hourCost_211 : decode cX2_hourCost 211 = .ok (.iaload, 1) := by decide +kernel
theorem dX2_hourCost_212 : decode cX2_hourCost 212 = .ok (.iload 11, 2) := by decide +kernel
theorem dX2_hourCost_214 : decode cX2_hourCost 214 = .ok (.iadd, 1) := by decide +kernel
theorem dX2_hourCost_215 : decode cX2_hourCost 215 = .ok (.aload_n 0, 1) := by decide +kernel
theorem dX2_hourCost_216 : decode cX2_hourCost 216 = .ok (.getfield 24, 3) := by decide +kernel
theorem dX2_hourCost_219 : decode cX2_hourCost 219 = .ok (.iload 8, 2) := by decide +kernel
theorem dX2_hourCost_221 : decode cX2_hourCost 221 = .ok (.iaload, 1) := by decide +kernel
theorem dX2_hourCost_222 : decode cX2_hourCost 222 = .ok (.imul, 1) := by decide +kernel
theorem dX2_hourCost_223 : decode cX2_hourCost 223 = .ok (.iload 9, 2) := by decide +kernel
theorem dX2_hourCost_225 : decode cX2_hourCost 225 = .ok (.ifCond .eq 13, 3) := by decide +kernel
theorem dX2_hourCost_228 : decode cX2_hourCost 228 = .ok (.aload_n 0, 1) := by decide +kernel
theorem dX2_hourCost_229 : decode cX2_hourCost 229 = .ok (.getfield 48, 3) := by decide +kernel
theorem dX2_hourCost_232 : decode cX2_hourCost 232 = .ok (.iload 8, 2) := by decide +kernel
theorem dX2_hourCost_234 : decode cX2_hourCost 234 = .ok (.iaload, 1) := by decide +kernel
theorem dX2_hourCost_235 : decode cX2_hourCost 235 = .ok (.goto 4, 3) := by decide +kernel
theorem dX2_hourCost_238 : decode cX2_hourCost 238 = .ok (.iconst 0, 1) := by decide +kernel
theorem dX2_hourCost_239 : decode cX2_hourCost 239 = .ok (.iadd, 1) := by decide +kernel
theorem dX2_hourCost_240 : decode cX2_hourCost 240 = .ok (.iadd, 1) := by decide +kernel
theorem dX2_hourCost_241 : decode cX2_hourCost 241 = .ok (.istore 6, 2) := by decide +kernel
theorem dX2_hourCost_243 : decode cX2_hourCost 243 = .ok (.iinc 7 1, 3) := by decide +kernel
theorem dX2_hourCost_246 : decode cX2_hourCost 246 = .ok (.goto (-143), 3) := by decide +kernel
theorem dX2_hourCost_249 : decode cX2_hourCost 249 = .ok (.iload 6, 2) := by decide +kernel
theorem dX2_hourCost_251 : decode cX2_hourCost 251 = .ok (.ireturn, 1) := by decide +kernel
theorem dX2_planCost_0 : decode cX2_planCost 0 = .ok (.aload_n 0, 1) := by decide +kernel
theorem dX2_planCost_1 : decode cX2_planCost 1 = .ok (.invokevirtual 98, 3) := by decide +kernel
theorem dX2_planCost_4 : decode cX2_planCost 4 = .ok (.ifCond .eq 6, 3) := by decide +kernel
theorem dX2_planCost_7 : decode cX2_planCost 7 = .ok (.ldc 97, 2) := by decide +kernel
theorem dX2_planCost_9 : decode cX2_planCost 9 = .ok (.ireturn, 1) := by decide +kernel
theorem dX2_planCost_10 : decode cX2_planCost 10 = .ok (.iconst 0, 1) := by decide +kernel
theorem dX2_planCost_11 : decode cX2_planCost 11 = .ok (.istore_n 1, 1) := by decide +kernel
theorem dX2_planCost_12 : decode cX2_planCost 12 = .ok (.iconst 0, 1) := by decide +kernel
theorem dX2_planCost_13 : decode cX2_planCost 13 = .ok (.istore_n 2, 1) := by decide +kernel
theorem dX2_planCost_14 : decode cX2_planCost 14 = .ok (.iload_n 2, 1) := by decide +kernel
theorem dX2_planCost_15 : decode cX2_planCost 15 = .ok (.aload_n 0, 1) := by decide +kernel
theorem dX2_planCost_16 : decode cX2_planCost 16 = .ok (.getfield 51, 3) := by decide +kernel
theorem dX2_planCost_19 : decode cX2_planCost 19 = .ok (.if_icmp .ge 43, 3) := by decide +kernel
theorem dX2_planCost_22 : decode cX2_planCost 22 = .ok (.aload_n 0, 1) := by decide +kernel
theorem dX2_planCost_23 : decode cX2_planCost 23 = .ok (.aload_n 0, 1) := by decide +kernel
theorem dX2_planCost_24 : decode cX2_planCost 24 = .ok (.getfield 9, 3) := by decide +kernel
theorem dX2_planCost_27 : decode cX2_planCost 27 = .ok (.iload_n 2, 1) := by decide +kernel
theorem dX2_planCost_28 : decode cX2_planCost 28 = .ok (.iaload, 1) := by decide +kernel
theorem dX2_planCost_29 : decode cX2_planCost 29 = .ok (.aload_n 0, 1) := by decide +kernel
theorem dX2_planCost_30 : decode cX2_planCost 30 = .ok (.iload_n 2, 1) := by decide +kernel
theorem dX2_planCost_31 : decode cX2_planCost 31 = .ok (.invokevirtual 101, 3) := by decide +kernel
theorem dX2_planCost_34 : decode cX2_planCost 34 = .ok (.aload_n 0, 1) := by decide +kernel
theorem dX2_planCost_35 : decode cX2_planCost 35 = .ok (.iload_n 2, 1) := by decide +kernel
theorem dX2_planCost_36 : decode cX2_planCost 36 = .ok (.invokevirtual 104, 3) := by decide +kernel
theorem dX2_planCost_39 : decode cX2_planCost 39 = .ok (.invokevirtual 107, 3) := by decide +kernel
theorem dX2_planCost_42 : decode cX2_planCost 42 = .ok (.istore_n 3, 1) := by decide +kernel
theorem dX2_planCost_43 : decode cX2_planCost 43 = .ok (.iload_n 3, 1) := by decide +kernel
theorem dX2_planCost_44 : decode cX2_planCost 44 = .ok (.ldc 97, 2) := by decide +kernel
theorem dX2_planCost_46 : decode cX2_planCost 46 = .ok (.if_icmp .ne 6, 3) := by decide +kernel
theorem dX2_planCost_49 : decode cX2_planCost 49 = .ok (.ldc 97, 2) := by decide +kernel
theorem dX2_planCost_51 : decode cX2_planCost 51 = .ok (.ireturn, 1) := by decide +kernel
theorem dX2_planCost_52 : decode cX2_planCost 52 = .ok (.iload_n 1, 1) := by decide +kernel
theorem dX2_planCost_53 : decode cX2_planCost 53 = .ok (.iload_n 3, 1) := by decide +kernel
theorem dX2_planCost_54 : decode cX2_planCost 54 = .ok (.iadd, 1) := by decide +kernel
theorem dX2_planCost_55 : decode cX2_planCost 55 = .ok (.istore_n 1, 1) := by decide +kernel
theorem dX2_planCost_56 : decode cX2_planCost 56 = .ok (.iinc 2 1, 3) := by decide +kernel
theorem dX2_planCost_59 : decode cX2_planCost 59 = .ok (.goto (-45), 3) := by decide +kernel
theorem dX2_planCost_62 : decode cX2_planCost 62 = .ok (.iload_n 1, 1) := by decide +kernel
theorem dX2_planCost_63 : decode cX2_planCost 63 = .ok (.ireturn, 1) := by decide +kernel
theorem dX2_hoursNotMet_0 : decode cX2_hoursNotMet 0 = .ok (.iconst 0, 1) := by decide +kernel
theorem dX2_hoursNotMet_1 : decode cX2_hoursNotMet 1 = .ok (.istore_n 1, 1) := by decide +kernel
theorem dX2_hoursNotMet_2 : decode cX2_hoursNotMet 2 = .ok (.iconst 0, 1) := by decide +kernel
theorem dX2_hoursNotMet_3 : decode cX2_hoursNotMet 3 = .ok (.istore_n 2, 1) := by decide +kernel
theorem dX2_hoursNotMet_4 : decode cX2_hoursNotMet 4 = .ok (.iload_n 2, 1) := by decide +kernel
theorem dX2_hoursNotMet_5 : decode cX2_hoursNotMet 5 = .ok (.aload_n 0, 1) := by decide +kernel
theorem dX2_hoursNotMet_6 : decode cX2_hoursNotMet 6 = .ok (.getfield 51, 3) := by decide +kernel
theorem dX2_hoursNotMet_9 : decode cX2_hoursNotMet 9 = .ok (.if_icmp .ge 38, 3) := by decide +kernel
theorem dX2_hoursNotMet_12 : decode cX2_hoursNotMet 12 = .ok (.aload_n 0, 1) := by decide +kernel
theorem dX2_hoursNotMet_13 : decode cX2_hoursNotMet 13 = .ok (.aload_n 0, 1) := by decide +kernel
theorem dX2_hoursNotMet_14 : decode cX2_hoursNotMet 14 = .ok (.getfield 9, 3) := by decide +kernel
theorem dX2_hoursNotMet_17 : decode cX2_hoursNotMet 17 = .ok (.iload_n 2, 1) := by decide +kernel
theorem dX2_hoursNotMet_18 : decode cX2_hoursNotMet 18 = .ok (.iaload, 1) := by decide +kernel
theorem dX2_hoursNotMet_19 : decode cX2_hoursNotMet 19 = .ok (.aload_n 0, 1) := by decide +kernel
theorem dX2_hoursNotMet_20 : decode cX2_hoursNotMet 20 = .ok (.iload_n 2, 1) := by decide +kernel
theorem dX2_hoursNotMet_21 : decode cX2_hoursNotMet 21 = .ok (.invokevirtual 101, 3) := by decide +kernel
theorem dX2_hoursNotMet_24 : decode cX2_hoursNotMet 24 = .ok (.aload_n 0, 1) := by decide +kernel
theorem dX2_hoursNotMet_25 : decode cX2_hoursNotMet 25 = .ok (.iload_n 2, 1) := by decide +kernel
theorem dX2_hoursNotMet_26 : decode cX2_hoursNotMet 26 = .ok (.invokevirtual 104, 3) := by decide +kernel
theorem dX2_hoursNotMet_29 : decode cX2_hoursNotMet 29 = .ok (.invokevirtual 111, 3) := by decide +kernel
theorem dX2_hoursNotMet_32 : decode cX2_hoursNotMet 32 = .ok (.ifCond .ne 9, 3) := by decide +kernel
theorem dX2_hoursNotMet_35 : decode cX2_hoursNotMet 35 = .ok (.iload_n 1, 1) := by decide +kernel
theorem dX2_hoursNotMet_36 : decode cX2_hoursNotMet 36 = .ok (.iconst 1, 1) := by decide +kernel
theorem dX2_hoursNotMet_37 : decode cX2_hoursNotMet 37 = .ok (.iload_n 2, 1) := by decide +kernel
theorem dX2_hoursNotMet_38 : decode cX2_hoursNotMet 38 = .ok (.ishl, 1) := by decide +kernel
theorem dX2_hoursNotMet_39 : decode cX2_hoursNotMet 39 = .ok (.ior, 1) := by decide +kernel
theorem dX2_hoursNotMet_40 : decode cX2_hoursNotMet 40 = .ok (.istore_n 1, 1) := by decide +kernel
theorem dX2_hoursNotMet_41 : decode cX2_hoursNotMet 41 = .ok (.iinc 2 1, 3) := by decide +kernel
theorem dX2_hoursNotMet_44 : decode cX2_hoursNotMet 44 = .ok (.goto (-40), 3) := by decide +kernel
theorem dX2_hoursNotMet_47 : decode cX2_hoursNotMet 47 = .ok (.iload_n 1, 1) := by decide +kernel
theorem dX2_hoursNotMet_48 : decode cX2_hoursNotMet 48 = .ok (.ireturn, 1) := by decide +kernel
theorem dX2_unitsNotKeeping_0 : decode cX2_unitsNotKeeping 0 = .ok (.iconst 0, 1) := by decide +kernel
theorem dX2_unitsNotKeeping_1 : decode cX2_unitsNotKeeping 1 = .ok (.istore_n 1, 1) := by decide +kernel
theorem dX2_unitsNotKeeping_2 : decode cX2_unitsNotKeeping 2 = .ok (.iconst 0, 1) := by decide +kernel
theorem dX2_unitsNotKeeping_3 : decode cX2_unitsNotKeeping 3 = .ok (.istore_n 2, 1) := by decide +kernel
theorem dX2_unitsNotKeeping_4 : decode cX2_unitsNotKeeping 4 = .ok (.iload_n 2, 1) := by decide +kernel
theorem dX2_unitsNotKeeping_5 : decode cX2_unitsNotKeeping 5 = .ok (.aload_n 0, 1) := by decide +kernel
theorem dX2_unitsNotKeeping_6 : decode cX2_unitsNotKeeping 6 = .ok (.getfield 55, 3) := by decide +kernel
theorem dX2_unitsNotKeeping_9 : decode cX2_unitsNotKeeping 9 = .ok (.if_icmp .ge 29, 3) := by decide +kernel
theorem dX2_unitsNotKeeping_12 : decode cX2_unitsNotKeeping 12 = .ok (.aload_n 0, 1) := by decide +kernel
theorem dX2_unitsNotKeeping_13 : decode cX2_unitsNotKeeping 13 = .ok (.iload_n 2, 1) := by decide +kernel
theorem dX2_unitsNotKeeping_14 : decode cX2_unitsNotKeeping 14 = .ok (.aload_n 0, 1) := by decide +kernel
theorem dX2_unitsNotKeeping_15 : decode cX2_unitsNotKeeping 15 = .ok (.getfield 36, 3) := by decide +kernel
theorem dX2_unitsNotKeeping_18 : decode cX2_unitsNotKeeping 18 = .ok (.iload_n 2, 1) := by decide +kernel
theorem dX2_unitsNotKeeping_19 : decode cX2_unitsNotKeeping 19 = .ok (.iaload, 1) := by decide +kernel
theorem dX2_unitsNotKeeping_20 : decode cX2_unitsNotKeeping 20 = .ok (.invokevirtual 115, 3) := by decide +kernel
theorem dX2_unitsNotKeeping_23 : decode cX2_unitsNotKeeping 23 = .ok (.ifCond .ne 9, 3) := by decide +kernel
theorem dX2_unitsNotKeeping_26 : decode cX2_unitsNotKeeping 26 = .ok (.iload_n 1, 1) := by decide +kernel
theorem dX2_unitsNotKeeping_27 : decode cX2_unitsNotKeeping 27 = .ok (.iconst 1, 1) := by decide +kernel
theorem dX2_unitsNotKeeping_28 : decode cX2_unitsNotKeeping 28 = .ok (.iload_n 2, 1) := by decide +kernel
theorem dX2_unitsNotKeeping_29 : decode cX2_unitsNotKeeping 29 = .ok (.ishl, 1) := by decide +kernel
theorem dX2_unitsNotKeeping_30 : decode cX2_unitsNotKeeping 30 = .ok (.ior, 1) := by decide +kernel
theorem dX2_unitsNotKeeping_31 : decode cX2_unitsNotKeeping 31 = .ok (.istore_n 1, 1) := by decide +kernel
theorem dX2_unitsNotKeeping_32 : decode cX2_unitsNotKeeping 32 = .ok (.iinc 2 1, 3) := by decide +kernel
theorem dX2_unitsNotKeeping_35 : decode cX2_unitsNotKeeping 35 = .ok (.goto (-31), 3) := by decide +kernel
theorem dX2_unitsNotKeeping_38 : decode cX2_unitsNotKeeping 38 = .ok (.iload_n 1, 1) := by decide +kernel
theorem dX2_unitsNotKeeping_39 : decode cX2_unitsNotKeeping 39 = .ok (.ireturn, 1) := by decide +kernel
theorem dX2_countStarts_0 : decode cX2_countStarts 0 = .ok (.iconst 0, 1) := by decide +kernel
theorem dX2_countStarts_1 : decode cX2_countStarts 1 = .ok (.istore_n 1, 1) := by decide +kernel
theorem dX2_countStarts_2 : decode cX2_countStarts 2 = .ok (.iconst 0, 1) := by decide +kernel
theorem dX2_countStarts_3 : decode cX2_countStarts 3 = .ok (.istore_n 2, 1) := by decide +kernel
theorem dX2_countStarts_4 : decode cX2_countStarts 4 = .ok (.iload_n 2, 1) := by decide +kernel
theorem dX2_countStarts_5 : decode cX2_countStarts 5 = .ok (.aload_n 0, 1) := by decide +kernel
theorem dX2_countStarts_6 : decode cX2_countStarts 6 = .ok (.getfield 55, 3) := by decide +kernel
theorem dX2_countStarts_9 : decode cX2_countStarts 9 = .ok (.if_icmp .ge 24, 3) := by decide +kernel
theorem dX2_countStarts_12 : decode cX2_countStarts 12 = .ok (.iload_n 1, 1) := by decide +kernel
theorem dX2_countStarts_13 : decode cX2_countStarts 13 = .ok (.aload_n 0, 1) := by decide +kernel
theorem dX2_countStarts_14 : decode cX2_countStarts 14 = .ok (.getfield 36, 3) := by decide +kernel
theorem dX2_countStarts_17 : decode cX2_countStarts 17 = .ok (.iload_n 2, 1) := by decide +kernel
theorem dX2_countStarts_18 : decode cX2_countStarts 18 = .ok (.iaload, 1) := by decide +kernel
theorem dX2_countStarts_19 : decode cX2_countStarts 19 = .ok (.invokestatic 81, 3) := by decide +kernel
theorem dX2_countStarts_22 : decode cX2_countStarts 22 = .ok (.invokestatic 119, 3) := by decide +kernel
theorem dX2_countStarts_25 : decode cX2_countStarts 25 = .ok (.iadd, 1) := by decide +kernel
theorem dX2_countStarts_26 : decode cX2_countStarts 26 = .ok (.istore_n 1, 1) := by decide +kernel
theorem dX2_countStarts_27 : decode cX2_countStarts 27 = .ok (.iinc 2 1, 3) := by decide +kernel
theorem dX2_countStarts_30 : decode cX2_countStarts 30 = .ok (.goto (-26), 3) := by decide +kernel
theorem dX2_countStarts_33 : decode cX2_countStarts 33 = .ok (.iload_n 1, 1) := by decide +kernel
theorem dX2_countStarts_34 : decode cX2_countStarts 34 = .ok (.ireturn, 1) := by decide +kernel
theorem dX5_init_0 : decode cX5_init 0 = .ok (.aload_n 0, 1) := by decide +kernel
theorem dX5_init_1 : decode cX5_init 1 = .ok (.invokespecial 3, 3) := by decide +kernel
theorem dX5_init_4 : decode cX5_init 4 = .ok (.aload_n 0, 1) := by decide +kernel
theorem dX5_init_5 : decode cX5_init 5 = .ok (.bipush 81, 2) := by decide +kernel
theorem dX5_init_7 : decode cX5_init 7 = .ok (.newarray .int, 2) := by decide +kernel
theorem dX5_init_9 : decode cX5_init 9 = .ok (.putfield 9, 3) := by decide +kernel
theorem dX5_init_12 : decode cX5_init 12 = .ok (.aload_n 0, 1) := by decide +kernel
theorem dX5_init_13 : decode cX5_init 13 = .ok (.bipush 81, 2) := by decide +kernel
theorem dX5_init_15 : decode cX5_init 15 = .ok (.newarray .int, 2) := by decide +kernel
theorem dX5_init_17 : decode cX5_init 17 = .ok (.putfield 15, 3) := by decide +kernel
theorem dX5_init_20 : decode cX5_init 20 = .ok (.aload_n 0, 1) := by decide +kernel
theorem dX5_init_21 : decode cX5_init 21 = .ok (.bipush 81, 2) := by decide +kernel
theorem dX5_init_23 : decode cX5_init 23 = .ok (.newarray .long, 2) := by decide +kernel
theorem dX5_init_25 : decode cX5_init 25 = .ok (.putfield 18, 3) := by decide +kernel
theorem dX5_init_28 : decode cX5_init 28 = .ok (.aload_n 0, 1) := by decide +kernel
theorem dX5_init_29 : decode cX5_init 29 = .ok (.bipush 81, 2) := by decide +kernel
theorem dX5_init_31 : decode cX5_init 31 = .ok (.newarray .long, 2) := by decide +kernel
theorem dX5_init_33 : decode cX5_init 33 = .ok (.putfield 22, 3) := by decide +kernel
theorem dX5_init_36 : decode cX5_init 36 = .ok (.aload_n 0, 1) := by decide +kernel
theorem dX5_init_37 : decode cX5_init 37 = .ok (.sipush 1296, 3) := by decide +kernel
theorem dX5_init_40 : decode cX5_init 40 = .ok (.newarray .int, 2) := by decide +kernel
theorem dX5_init_42 : decode cX5_init 42 = .ok (.putfield 25, 3) := by decide +kernel
theorem dX5_init_45 : decode cX5_init 45 = .ok (.aload_n 0, 1) := by decide +kernel
theorem dX5_init_46 : decode cX5_init 46 = .ok (.iconst 4, 1) := by decide +kernel
theorem dX5_init_47 : decode cX5_init 47 = .ok (.newarray .int, 2) := by decide +kernel
theorem dX5_init_49 : decode cX5_init 49 = .ok (.putfield 28, 3) := by decide +kernel
theorem dX5_init_52 : decode cX5_init 52 = .ok (.aload_n 0, 1) := by decide +kernel
theorem dX5_init_53 : decode cX5_init 53 = .ok (.iconst 4, 1) := by decide +kernel
theorem dX5_init_54 : decode cX5_init 54 = .ok (.newarray .int, 2) := by decide +kernel
theorem dX5_init_56 : decode cX5_init 56 = .ok (.putfield 31, 3) := by decide +kernel
theorem dX5_init_59 : decode cX5_init 59 = .ok (.aload_n 0, 1) := by decide +kernel
theorem dX5_init_60 : decode cX5_init 60 = .ok (.iconst 4, 1) := by decide +kernel
theorem dX5_init_61 : decode cX5_init 61 = .ok (.bipush 6, 2) := by decide +kernel
theorem dX5_init_63 : decode cX5_init 63 = .ok (.multianewarray 34 2, 4) := by decide +kernel
theorem dX5_init_67 : decode cX5_init 67 = .ok (.putfield 36, 3) := by decide +kernel
theorem dX5_init_70 : decode cX5_init 70 = .ok (.aload_n 0, 1) := by decide +kernel
theorem dX5_init_71 : decode cX5_init 71 = .ok (.iconst 4, 1) := by decide +kernel
theorem dX5_init_72 : decode cX5_init 72 = .ok (.bipush 6, 2) := by decide +kernel
theorem dX5_init_74 : decode cX5_init 74 = .ok (.multianewarray 34 2, 4) := by decide +kernel
theorem dX5_init_78 : decode cX5_init 78 = .ok (.putfield 39, 3) := by decide +kernel
theorem dX5_init_81 : decode cX5_init 81 = .ok (.aload_n 0, 1) := by decide +kernel
theorem dX5_init_82 : decode cX5_init 82 = .ok (.sipush 1296, 3) := by decide +kernel
theorem dX5_init_85 : decode cX5_init 85 = .ok (.newarray .long, 2) := by decide +kernel
theorem dX5_init_87 : decode cX5_init 87 = .ok (.putfield 42, 3) := by decide +kernel
theorem dX5_init_90 : decode cX5_init 90 = .ok (.aload_n 0, 1) := by decide +kernel
theorem dX5_init_91 : decode cX5_init 91 = .ok (.sipush 1296, 3) := by decide +kernel
theorem dX5_init_94 : decode cX5_init 94 = .ok (.newarray .long, 2) := by decide +kernel
theorem dX5_init_96 : decode cX5_init 96 = .ok (.putfield 45, 3) := by decide +kernel
theorem dX5_init_99 : decode cX5_init 99 = .ok (.aload_n 0, 1) := by decide +kernel
theorem dX5_init_100 : decode cX5_init 100 = .ok (.sipush 1296, 3) := by decide +kernel
theorem dX5_init_103 : decode cX5_init 103 = .ok (.newarray .long, 2) := by decide +kernel
theorem dX5_init_105 : decode cX5_init 105 = .ok (.putfield 48, 3) := by decide +kernel
theorem dX5_init_108 : decode cX5_init 108 = .ok (.iconst 0, 1) := by decide +kernel
theorem dX5_init_109 : decode cX5_init 109 = .ok (.istore_n 1, 1) := by decide +kernel
theorem dX5_init_110 : decode cX5_init 110 = .ok (.iload_n 1, 1) := by decide +kernel
theorem dX5_init_111 : decode cX5_init 111 = .ok (.bipush 81, 2) := by decide +kernel
theorem dX5_init_113 : decode cX5_init 113 = .ok (.if_icmp .ge 76, 3) := by decide +kernel
theorem dX5_init_116 : decode cX5_init 116 = .ok (.iload_n 1, 1) := by decide +kernel
theorem dX5_init_117 : decode cX5_init 117 = .ok (.istore_n 2, 1) := by decide +kernel
theorem dX5_init_118 : decode cX5_init 118 = .ok (.iconst 0, 1) := by decide +kernel
theorem dX5_init_119 : decode cX5_init 119 = .ok (.istore_n 3, 1) := by decide +kernel
theorem dX5_init_120 : decode cX5_init 120 = .ok (.iload_n 3, 1) := by decide +kernel
theorem dX5_init_121 : decode cX5_init 121 = .ok (.iconst 4, 1) := by decide +kernel
theorem dX5_init_122 : decode cX5_init 122 = .ok (.if_icmp .ge 61, 3) := by decide +kernel
theorem dX5_init_125 : decode cX5_init 125 = .ok (.iload_n 2, 1) := by decide +kernel
theorem dX5_init_126 : decode cX5_init 126 = .ok (.iconst 3, 1) := by decide +kernel
theorem dX5_init_127 : decode cX5_init 127 = .ok (.irem, 1) := by decide +kernel
theorem dX5_init_128 : decode cX5_init 128 = .ok (.istore 4, 2) := by decide +kernel
theorem dX5_init_130 : decode cX5_init 130 = .ok (.aload_n 0, 1) := by decide +kernel
theorem dX5_init_131 : decode cX5_init 131 = .ok (.getfield 9, 3) := by decide +kernel
theorem dX5_init_134 : decode cX5_init 134 = .ok (.iload_n 1, 1) := by decide +kernel
theorem dX5_init_135 : decode cX5_init 135 = .ok (.dup2, 1) := by decide +kernel
theorem dX5_init_136 : decode cX5_init 136 = .ok (.iaload, 1) := by decide +kernel
theorem dX5_init_137 : decode cX5_init 137 = .ok (.iload 4, 2) := by decide +kernel
theorem dX5_init_139 : decode cX5_init 139 = .ok (.ifCond .ne 7, 3) := by decide +kernel
theorem dX5_init_142 : decode cX5_init 142 = .ok (.iconst 0, 1) := by decide +kernel
theorem dX5_init_143 : decode cX5_init 143 = .ok (.goto 4, 3) := by decide +kernel
theorem dX5_init_146 : decode cX5_init 146 = .ok (.iconst 1, 1) := by decide +kernel
theorem dX5_init_147 : decode cX5_init 147 = .ok (.iload_n 3, 1) := by decide +kernel
theorem dX5_init_148 : decode cX5_init 148 = .ok (.ishl, 1) := by decide +kernel
theorem dX5_init_149 : decode cX5_init 149 = .ok (.ior, 1) := by decide +kernel
theorem dX5_init_150 : decode cX5_init 150 = .ok (.iastore, 1) := by decide +kernel
theorem dX5_init_151 : decode cX5_init 151 = .ok (.aload_n 0, 1) := by decide +kernel
theorem dX5_init_152 : decode cX5_init 152 = .ok (.getfield 15, 3) := by decide +kernel
theorem dX5_init_155 : decode cX5_init 155 = .ok (.iload_n 1, 1) := by decide +kernel
theorem dX5_init_156 : decode cX5_init 156 = .ok (.dup2, 1) := by decide +kernel
theorem dX5_init_157 : decode cX5_init 157 = .ok (.iaload, 1) := by decide +kernel
theorem dX5_init_158 : decode cX5_init 158 = .ok (.iload 4, 2) := by decide +kernel
theorem dX5_init_160 : decode cX5_init 160 = .ok (.iconst 2, 1) := by decide +kernel
theorem dX5_init_161 : decode cX5_init 161 = .ok (.if_icmp .ne 7, 3) := by decide +kernel
theorem dX5_init_164 : decode cX5_init 164 = .ok (.iconst 1, 1) := by decide +kernel
theorem dX5_init_165 : decode cX5_init 165 = .ok (.goto 4, 3) := by decide +kernel
theorem dX5_init_168 : decode cX5_init 168 = .ok (.iconst 0, 1) := by decide +kernel
theorem dX5_init_169 : decode cX5_init 169 = .ok (.iload_n 3, 1) := by decide +kernel
theorem dX5_init_170 : decode cX5_init 170 = .ok (.ishl, 1) := by decide +kernel
theorem dX5_init_171 : decode cX5_init 171 = .ok (.ior, 1) := by decide +kernel
theorem dX5_init_172 : decode cX5_init 172 = .ok (.iastore, 1) := by decide +kernel
theorem dX5_init_173 : decode cX5_init 173 = .ok (.iload_n 2, 1) := by decide +kernel
theorem dX5_init_174 : decode cX5_init 174 = .ok (.iconst 3, 1) := by decide +kernel
theorem dX5_init_175 : decode cX5_init 175 = .ok (.idiv, 1) := by decide +kernel
theorem dX5_init_176 : decode cX5_init 176 = .ok (.istore_n 2, 1) := by decide +kernel
theorem dX5_init_177 : decode cX5_init 177 = .ok (.iinc 3 1, 3) := by decide +kernel
theorem dX5_init_180 : decode cX5_init 180 = .ok (.goto (-60), 3) := by decide +kernel
theorem dX5_init_183 : decode cX5_init 183 = .ok (.iinc 1 1, 3) := by decide +kernel
theorem dX5_init_186 : decode cX5_init 186 = .ok (.goto (-76), 3) := by decide +kernel
theorem dX5_init_189 : decode cX5_init 189 = .ok (.return_, 1) := by decide +kernel
theorem dX5_costOf_0 : decode cX5_costOf 0 = .ok (.lload_n 0, 1) := by decide +kernel
theorem dX5_costOf_1 : decode cX5_costOf 1 = .ok (.lconst 0, 1) := by decide +kernel
theorem dX5_costOf_2 : decode cX5_costOf 2 = .ok (.lcmp, 1) := by decide +kernel
theorem dX5_costOf_3 : decode cX5_costOf 3 = .ok (.ifCond .ge 8, 3) := by decide +kernel
theorem dX5_costOf_6 : decode cX5_costOf 6 = .ok (.ldc 51, 2) := by decide +kernel
theorem dX5_costOf_8 : decode cX5_costOf 8 = .ok (.goto 8, 3) := by decide +kernel
theorem dX5_costOf_11 : decode cX5_costOf 11 = .ok (.lload_n 0, 1) := by decide +kernel
theorem dX5_costOf_12 : decode cX5_costOf 12 = .ok (.bipush 24, 2) := by decide +kernel
theorem dX5_costOf_14 : decode cX5_costOf 14 = .ok (.lshr, 1) := by decide +kernel
theorem dX5_costOf_15 : decode cX5_costOf 15 = .ok (.l2i, 1) := by decide +kernel
theorem dX5_costOf_16 : decode cX5_costOf 16 = .ok (.ireturn, 1) := by decide +kernel
theorem dX5_unitsIn_0 : decode cX5_unitsIn 0 = .ok (.lload_n 0, 1) := by decide +kernel
theorem dX5_unitsIn_1 : decode cX5_unitsIn 1 = .ok (.iload_n 2, 1) := by decide +kernel
theorem dX5_unitsIn_2 : decode cX5_unitsIn 2 = .ok (.invokestatic 52, 3) := by decide +kernel
theorem dX5_unitsIn_5 : decode cX5_unitsIn 5 = .ok (.lshr, 1) := by decide +kernel
theorem dX5_unitsIn_6 : decode cX5_unitsIn 6 = .ok (.l2i, 1) := by decide +kernel
theorem dX5_unitsIn_7 : decode cX5_unitsIn 7 = .ok (.bipush 15, 2) := by decide +kernel
theorem dX5_unitsIn_9 : decode cX5_unitsIn 9 = .ok (.iand, 1) := by decide +kernel
theorem dX5_unitsIn_10 : decode cX5_unitsIn 10 = .ok (.ireturn, 1) := by decide +kernel
theorem dX5_hoursOf_0 : decode cX5_hoursOf 0 = .ok (.iconst 0, 1) := by decide +kernel
theorem dX5_hoursOf_1 : decode cX5_hoursOf 1 = .ok (.istore_n 3, 1) := by decide +kernel
theorem dX5_hoursOf_2 : decode cX5_hoursOf 2 = .ok (.iconst 0, 1) := by decide +kernel
theorem dX5_hoursOf_3 : decode cX5_hoursOf 3 = .ok (.istore 4, 2) := by decide +kernel
theorem dX5_hoursOf_5 : decode cX5_hoursOf 5 = .ok (.iload 4, 2) := by decide +kernel
theorem dX5_hoursOf_7 : decode cX5_hoursOf 7 = .ok (.bipush 6, 2) := by decide +kernel
theorem dX5_hoursOf_9 : decode cX5_hoursOf 9 = .ok (.if_icmp .ge 25, 3) := by decide +kernel
theorem dX5_hoursOf_12 : decode cX5_hoursOf 12 = .ok (.iload_n 3, 1) := by decide +kernel
theorem dX5_hoursOf_13 : decode cX5_hoursOf 13 = .ok (.lload_n 0, 1) := by decide +kernel
theorem dX5_hoursOf_14 : decode cX5_hoursOf 14 = .ok (.iload 4, 2) := by decide +kernel
theorem dX5_hoursOf_16 : decode cX5_hoursOf 16 = .ok (.invokestatic 56, 3) := by decide +kernel
theorem dX5_hoursOf_19 : decode cX5_hoursOf 19 = .ok (.iload_n 2, 1) := by decide +kernel
theorem dX5_hoursOf_20 : decode cX5_hoursOf 20 = .ok (.ishr, 1) := by decide +kernel
theorem dX5_hoursOf_21 : decode cX5_hoursOf 21 = .ok (.iconst 1, 1) := by decide +kernel
theorem dX5_hoursOf_22 : decode cX5_hoursOf 22 = .ok (.iand, 1) := by decide +kernel
theorem dX5_hoursOf_23 : decode cX5_hoursOf 23 = .ok (.iload 4, 2) := by decide +kernel
theorem dX5_hoursOf_25 : decode cX5_hoursOf 25 = .ok (.ishl, 1) := by decide +kernel
theorem dX5_hoursOf_26 : decode cX5_hoursOf 26 = .ok (.ior, 1) := by decide +kernel
theorem dX5_hoursOf_27 : decode cX5_hoursOf 27 = .ok (.istore_n 3, 1) := by decide +kernel
theorem dX5_hoursOf_28 : decode cX5_hoursOf 28 = .ok (.iinc 4 1, 3) := by decide +kernel
theorem dX5_hoursOf_31 : decode cX5_hoursOf 31 = .ok (.goto (-26), 3) := by decide +kernel
theorem dX5_hoursOf_34 : decode cX5_hoursOf 34 = .ok (.iload_n 3, 1) := by decide +kernel
theorem dX5_hoursOf_35 : decode cX5_hoursOf 35 = .ok (.ireturn, 1) := by decide +kernel
theorem dX5_shiftOf_0 : decode cX5_shiftOf 0 = .ok (.iconst 4, 1) := by decide +kernel
theorem dX5_shiftOf_1 : decode cX5_shiftOf 1 = .ok (.iconst 5, 1) := by decide +kernel
theorem dX5_shiftOf_2 : decode cX5_shiftOf 2 = .ok (.iload_n 0, 1) := by decide +kernel
theorem dX5_shiftOf_3 : decode cX5_shiftOf 3 = .ok (.isub, 1) := by decide +kernel
theorem dX5_shiftOf_4 : decode cX5_shiftOf 4 = .ok (.imul, 1) := by decide +kernel
theorem dX5_shiftOf_5 : decode cX5_shiftOf 5 = .ok (.ireturn, 1) := by decide +kernel
theorem dX5_findBest_0 : decode cX5_findBest 0 = .ok (.aload_n 0, 1) := by decide +kernel
theorem dX5_findBest_1 : decode cX5_findBest 1 = .ok (.aload_n 1, 1) := by decide +kernel
theorem dX5_findBest_2 : decode cX5_findBest 2 = .ok (.iload_n 2, 1) := by decide +kernel
theorem dX5_findBest_3 : decode cX5_findBest 3 = .ok (.invokevirtual 60, 3) := by decide +kernel
theorem dX5_findBest_6 : decode cX5_findBest 6 = .ok (.aload_n 0, 1) := by decide +kernel
theorem dX5_findBest_7 : decode cX5_findBest 7 = .ok (.aload_n 1, 1) := by decide +kernel
theorem dX5_findBest_8 : decode cX5_findBest 8 = .ok (.aload_n 1, 1) := by decide +kernel
theorem dX5_findBest_9 : decode cX5_findBest 9 = .ok (.getfield 64, 3) := by decide +kernel
theorem dX5_findBest_12 : decode cX5_findBest 12 = .ok (.invokevirtual 70, 3) := by decide +kernel
theorem dX5_findBest_15 : decode cX5_findBest 15 = .ok (.ldc2_w 73, 3) := by decide +kernel
theorem dX5_findBest_18 : decode cX5_findBest 18 = .ok (.lstore_n 3, 1) := by decide +kernel
theorem dX5_findBest_19 : decode cX5_findBest 19 = .ok (.iconst 0, 1) := by decide +kernel
theorem dX5_findBest_20 : decode cX5_findBest 20 = .ok (.istore 5, 2) := by decide +kernel
theorem dX5_findBest_22 : decode cX5_findBest 22 = .ok (.iload 5, 2) := by decide +kernel
theorem dX5_findBest_24 : decode cX5_findBest 24 = .ok (.aload_n 0, 1) := by decide +kernel
theorem dX5_findBest_25 : decode cX5_findBest 25 = .ok (.getfield 75, 3) := by decide +kernel
theorem dX5_findBest_28 : decode cX5_findBest 28 = .ok (.if_icmp .ge 29, 3) := by decide +kernel
theorem dX5_findBest_31 : decode cX5_findBest 31 = .ok (.aload_n 0, 1) := by decide +kernel
theorem dX5_findBest_32 : decode cX5_findBest 32 = .ok (.getfield 42, 3) := by decide +kernel
theorem dX5_findBest_35 : decode cX5_findBest 35 = .ok (.iload 5, 2) := by decide +kernel
theorem dX5_findBest_37 : decode cX5_findBest 37 = .ok (.laload, 1) := by decide +kernel
theorem dX5_findBest_38 : decode cX5_findBest 38 = .ok (.lload_n 3, 1) := by decide +kernel
theorem dX5_findBest_39 : decode cX5_findBest 39 = .ok (.lcmp, 1) := by decide +kernel
theorem dX5_findBest_40 : decode cX5_findBest 40 = .ok (.ifCond .ge 11, 3) := by decide +kernel
theorem dX5_findBest_43 : decode cX5_findBest 43 = .ok (.aload_n 0, 1) := by decide +kernel
theorem dX5_findBest_44 : decode cX5_findBest 44 = .ok (.getfield 42, 3) := by decide +kernel
theorem dX5_findBest_47 : decode cX5_findBest 47 = .ok (.iload 5, 2) := by decide +kernel
theorem dX5_findBest_49 : decode cX5_findBest 49 = .ok (.laload, 1) := by decide +kernel
theorem dX5_findBest_50 : decode cX5_findBest 50 = .ok (.lstore_n 3, 1) := by decide +kernel
theorem dX5_findBest_51 : decode cX5_findBest 51 = .ok (.iinc 5 1, 3) := by decide +kernel
theorem dX5_findBest_54 : decode cX5_findBest 54 = .ok (.goto (-32), 3) := by decide +kernel
theorem dX5_findBest_57 : decode cX5_findBest 57 = .ok (.lload_n 3, 1) := by decide +kernel
theorem dX5_findBest_58 : decode cX5_findBest 58 = .ok (.ldc2_w 73, 3) := by decide +kernel
theorem dX5_findBest_61 : decode cX5_findBest 61 = .ok (.lcmp, 1) := by decide +kernel
theorem dX5_findBest_62 : decode cX5_findBest 62 = .ok (.ifCond .ge 7, 3) := by decide +kernel
theorem dX5_findBest_65 : decode cX5_findBest 65 = .ok (.lload_n 3, 1) := by decide +kernel
theorem dX5_findBest_66 : decode cX5_findBest 66 = .ok (.goto 6, 3) := by decide +kernel
theorem dX5_findBest_69 : decode cX5_findBest 69 = .ok (.ldc2_w 78, 3) := by decide +kernel
theorem dX5_findBest_72 : decode cX5_findBest 72 = .ok (.lreturn, 1) := by decide +kernel
theorem dX5_lookAround_0 : decode cX5_lookAround 0 = .ok (.aload_n 0, 1) := by decide +kernel
theorem dX5_lookAround_1 : decode cX5_lookAround 1 = .ok (.aload_n 1, 1) := by decide +kernel
theorem dX5_lookAround_2 : decode cX5_lookAround 2 = .ok (.iconst (-1), 1) := by decide +kernel
theorem dX5_lookAround_3 : decode cX5_lookAround 3 = .ok (.invokevirtual 60, 3) := by decide +kernel
theorem dX5_lookAround_6 : decode cX5_lookAround 6 = .ok (.aload_n 0, 1) := by decide +kernel
theorem dX5_lookAround_7 : decode cX5_lookAround 7 = .ok (.aload_n 1, 1) := by decide +kernel
theorem dX5_lookAround_8 : decode cX5_lookAround 8 = .ok (.iload_n 2, 1) := by decide +kernel
theorem dX5_lookAround_9 : decode cX5_lookAround 9 = .ok (.invokevirtual 70, 3) := by decide +kernel
theorem dX5_lookAround_12 : decode cX5_lookAround 12 = .ok (.aload_n 0, 1) := by decide +kernel
theorem dX5_lookAround_13 : decode cX5_lookAround 13 = .ok (.invokevirtual 80, 3) := by decide +kernel
theorem dX5_lookAround_16 : decode cX5_lookAround 16 = .ok (.aload_n 0, 1) := by decide +kernel
theorem dX5_lookAround_17 : decode cX5_lookAround 17 = .ok (.aload_n 1, 1) := by decide +kernel
theorem dX5_lookAround_18 : decode cX5_lookAround 18 = .ok (.iload_n 2, 1) := by decide +kernel
theorem dX5_lookAround_19 : decode cX5_lookAround 19 = .ok (.invokevirtual 83, 3) := by decide +kernel
theorem dX5_lookAround_22 : decode cX5_lookAround 22 = .ok (.aload_n 0, 1) := by decide +kernel
theorem dX5_lookAround_23 : decode cX5_lookAround 23 = .ok (.getfield 22, 3) := by decide +kernel
theorem dX5_lookAround_26 : decode cX5_lookAround 26 = .ok (.ldc2_w 73, 3) := by decide +kernel
theorem dX5_lookAround_29 : decode cX5_lookAround 29 = .ok (.invokestatic 86, 3) := by decide +kernel
theorem dX5_lookAround_32 : decode cX5_lookAround 32 = .ok (.iconst 0, 1) := by decide +kernel
theorem dX5_lookAround_33 : decode cX5_lookAround 33 = .ok (.istore_n 3, 1) := by decide +kernel
theorem dX5_lookAround_34 : decode cX5_lookAround 34 = .ok (.iload_n 3, 1) := by decide +kernel
theorem dX5_lookAround_35 : decode cX5_lookAround 35 = .ok (.aload_n 0, 1) := by decide +kernel
theorem dX5_lookAround_36 : decode cX5_lookAround 36 = .ok (.getfield 75, 3) := by decide +kernel
theorem dX5_lookAround_39 : decode cX5_lookAround 39 = .ok (.if_icmp .ge 47, 3) := by decide +kernel
theorem dX5_lookAround_42 : decode cX5_lookAround 42 = .ok (.aload_n 0, 1) := by decide +kernel
theorem dX5_lookAround_43 : decode cX5_lookAround 43 = .ok (.getfield 25, 3) := by decide +kernel
theorem dX5_lookAround_46 : decode cX5_lookAround 46 = .ok (.iload_n 3, 1) := by decide +kernel
theorem dX5_lookAround_47 : decode cX5_lookAround 47 = .ok (.iaload, 1) := by decide +kernel
theorem dX5_lookAround_48 : decode cX5_lookAround 48 = .ok (.istore 4, 2) := by decide +kernel
theorem dX5_lookAround_50 : decode cX5_lookAround 50 = .ok (.aload_n 0, 1) := by decide +kernel
theorem dX5_lookAround_51 : decode cX5_lookAround 51 = .ok (.getfield 22, 3) := by decide +kernel
theorem dX5_lookAround_54 : decode cX5_lookAround 54 = .ok (.iload 4, 2) := by decide +kernel
theorem dX5_lookAround_56 : decode cX5_lookAround 56 = .ok (.aload_n 0, 1) := by decide +kernel
theorem dX5_lookAround_57 : decode cX5_lookAround 57 = .ok (.getfield 22, 3) := by decide +kernel
theorem dX5_lookAround_60 : decode cX5_lookAround 60 = .ok (.iload 4, 2) := by decide +kernel
theorem dX5_lookAround_62 : decode cX5_lookAround 62 = .ok (.laload, 1) := by decide +kernel
theorem dX5_lookAround_63 : decode cX5_lookAround 63 = .ok (.aload_n 0, 1) := by decide +kernel
theorem dX5_lookAround_64 : decode cX5_lookAround 64 = .ok (.getfield 42, 3) := by decide +kernel
theorem dX5_lookAround_67 : decode cX5_lookAround 67 = .ok (.iload_n 3, 1) := by decide +kernel
theorem dX5_lookAround_68 : decode cX5_lookAround 68 = .ok (.laload, 1) := by decide +kernel
theorem dX5_lookAround_69 : decode cX5_lookAround 69 = .ok (.aload_n 0, 1) := by decide +kernel
theorem dX5_lookAround_70 : decode cX5_lookAround 70 = .ok (.getfield 45, 3) := by decide +kernel
theorem dX5_lookAround_73 : decode cX5_lookAround 73 = .ok (.iload_n 3, 1) := by decide +kernel
theorem dX5_lookAround_74 : decode cX5_lookAround 74 = .ok (.laload, 1) := by decide +kernel
theorem dX5_lookAround_75 : decode cX5_lookAround 75 = .ok (.ladd, 1) := by decide +kernel
theorem dX5_lookAround_76 : decode cX5_lookAround 76 = .ok (.invokestatic 92, 3) := by decide +kernel
theorem dX5_lookAround_79 : decode cX5_lookAround 79 = .ok (.lastore, 1) := by decide +kernel
theorem dX5_lookAround_80 : decode cX5_lookAround 80 = .ok (.iinc 3 1, 3) := by decide +kernel
theorem dX5_lookAround_83 : decode cX5_lookAround 83 = .ok (.goto (-49), 3) := by decide +kernel
theorem dX5_lookAround_86 : decode cX5_lookAround 86 = .ok (.return_, 1) := by decide +kernel
theorem dX5_costAround_0 : decode cX5_costAround 0 = .ok (.ldc 51, 2) := by decide +kernel
theorem dX5_costAround_2 : decode cX5_costAround 2 = .ok (.istore_n 3, 1) := by decide +kernel
theorem dX5_costAround_3 : decode cX5_costAround 3 = .ok (.iconst 0, 1) := by decide +kernel
theorem dX5_costAround_4 : decode cX5_costAround 4 = .ok (.istore 4, 2) := by decide +kernel
theorem dX5_costAround_6 : decode cX5_costAround 6 = .ok (.iload 4, 2) := by decide +kernel
theorem dX5_costAround_8 : decode cX5_costAround 8 = .ok (.aload_n 0, 1) := by decide +kernel
theorem dX5_costAround_9 : decode cX5_costAround 9 = .ok (.getfield 98, 3) := by decide +kernel
theorem dX5_costAround_12 : decode cX5_costAround 12 = .ok (.if_icmp .ge 81, 3) := by decide +kernel
theorem dX5_costAround_15 : decode cX5_costAround 15 = .ok (.aload_n 0, 1) := by decide +kernel
theorem dX5_costAround_16 : decode cX5_costAround 16 = .ok (.getfield 22, 3) := by decide +kernel
theorem dX5_costAround_19 : decode cX5_costAround 19 = .ok (.iload 4, 2) := by decide +kernel
theorem dX5_costAround_21 : decode cX5_costAround 21 = .ok (.laload, 1) := by decide +kernel
theorem dX5_costAround_22 : decode cX5_costAround 22 = .ok (.ldc2_w 73, 3) := by decide +kernel
theorem dX5_costAround_25 : decode cX5_costAround 25 = .ok (.lcmp, 1) := by decide +kernel
theorem dX5_costAround_26 : decode cX5_costAround 26 = .ok (.ifCond .ge 61, 3) := by decide +kernel
theorem dX5_costAround_29 : decode cX5_costAround 29 = .ok (.aload_n 1, 1) := by decide +kernel
theorem dX5_costAround_30 : decode cX5_costAround 30 = .ok (.iload_n 2, 1) := by decide +kernel
theorem dX5_costAround_31 : decode cX5_costAround 31 = .ok (.aload_n 0, 1) := by decide +kernel
theorem dX5_costAround_32 : decode cX5_costAround 32 = .ok (.getfield 9, 3) := by decide +kernel
theorem dX5_costAround_35 : decode cX5_costAround 35 = .ok (.iload 4, 2) := by decide +kernel
theorem dX5_costAround_37 : decode cX5_costAround 37 = .ok (.iaload, 1) := by decide +kernel
theorem dX5_costAround_38 : decode cX5_costAround 38 = .ok (.aload_n 0, 1) := by decide +kernel
theorem dX5_costAround_39 : decode cX5_costAround 39 = .ok (.getfield 15, 3) := by decide +kernel
theorem dX5_costAround_42 : decode cX5_costAround 42 = .ok (.iload 4, 2) := by decide +kernel
theorem dX5_costAround_44 : decode cX5_costAround 44 = .ok (.iaload, 1) := by decide +kernel
theorem dX5_costAround_45 : decode cX5_costAround 45 = .ok (.invokevirtual 101, 3) := by decide +kernel
theorem dX5_costAround_48 : decode cX5_costAround 48 = .ok (.istore 5, 2) := by decide +kernel
theorem dX5_costAround_50 : decode cX5_costAround 50 = .ok (.aload_n 0, 1) := by decide +kernel
theorem dX5_costAround_51 : decode cX5_costAround 51 = .ok (.getfield 22, 3) := by decide +kernel
theorem dX5_costAround_54 : decode cX5_costAround 54 = .ok (.iload 4, 2) := by decide +kernel
theorem dX5_costAround_56 : decode cX5_costAround 56 = .ok (.laload, 1) := by decide +kernel
theorem dX5_costAround_57 : decode cX5_costAround 57 = .ok (.invokestatic 105, 3) := by decide +kernel
theorem dX5_costAround_60 : decode cX5_costAround 60 = .ok (.iload 5, 2) := by decide +kernel
theorem dX5_costAround_62 : decode cX5_costAround 62 = .ok (.iadd, 1) := by decide +kernel
theorem dX5_costAround_63 : decode cX5_costAround 63 = .ok (.istore 6, 2) := by decide +kernel
theorem dX5_costAround_65 : decode cX5_costAround 65 = .ok (.iload 5, 2) := by decide +kernel
theorem dX5_costAround_67 : decode cX5_costAround 67 = .ok (.ldc 51, 2) := by decide +kernel
theorem dX5_costAround_69 : decode cX5_costAround 69 = .ok (.if_icmp .eq 18, 3) := by decide +kernel
theorem dX5_costAround_72 : decode cX5_costAround 72 = .ok (.iload_n 3, 1) := by decide +kernel
theorem dX5_costAround_73 : decode cX5_costAround 73 = .ok (.ldc 51, 2) := by decide +kernel
theorem dX5_costAround_75 : decode cX5_costAround 75 = .ok (.if_icmp .eq 9, 3) := by decide +kernel
theorem dX5_costAround_78 : decode cX5_costAround 78 = .ok (.iload 6, 2) := by decide +kernel
theorem dX5_costAround_80 : decode cX5_costAround 80 = .ok (.iload_n 3, 1) := by decide +kernel
theorem dX5_costAround_81 : decode cX5_costAround 81 = .ok (.if_icmp .ge 6, 3) := by decide +kernel
theorem dX5_costAround_84 : decode cX5_costAround 84 = .ok (.iload 6, 2) := by decide +kernel
theorem dX5_costAround_86 : decode cX5_costAround 86 = .ok (.istore_n 3, 1) := by decide +kernel
theorem dX5_costAround_87 : decode cX5_costAround 87 = .ok (.iinc 4 1, 3) := by decide +kernel
theorem dX5_costAround_90 : decode cX5_costAround 90 = .ok (.goto (-84), 3) := by decide +kernel
theorem dX5_costAround_93 : decode cX5_costAround 93 = .ok (.iload_n 3, 1) := by decide +kernel
theorem dX5_costAround_94 : decode cX5_costAround 94 = .ok (.ireturn, 1) := by decide +kernel
theorem dX5_walk_0 : decode cX5_walk 0 = .ok (.aload_n 0, 1) := by decide +kernel
theorem dX5_walk_1 : decode cX5_walk 1 = .ok (.aload_n 0, 1) := by decide +kernel
theorem dX5_walk_2 : decode cX5_walk 2 = .ok (.getfield 42, 3) := by decide +kernel
theorem dX5_walk_5 : decode cX5_walk 5 = .ok (.ldc2_w 73, 3) := by decide +kernel
theorem dX5_walk_8 : decode cX5_walk 8 = .ok (.invokevirtual 109, 3) := by decide +kernel
theorem dX5_walk_11 : decode cX5_walk 11 = .ok (.aload_n 0, 1) := by decide +kernel
theorem dX5_walk_12 : decode cX5_walk 12 = .ok (.getfield 42, 3) := by decide +kernel
theorem dX5_walk_15 : decode cX5_walk 15 = .ok (.iconst 0, 1) := by decide +kernel
theorem dX5_walk_16 : decode cX5_walk 16 = .ok (.lconst 0, 1) := by decide +kernel
theorem dX5_walk_17 : decode cX5_walk 17 = .ok (.lastore, 1) := by decide +kernel
theorem dX5_walk_18 : decode cX5_walk 18 = .ok (.iconst 0, 1) := by decide +kernel
theorem dX5_walk_19 : decode cX5_walk 19 = .ok (.istore_n 3, 1) := by decide +kernel
theorem dX5_walk_20 : decode cX5_walk 20 = .ok (.iload_n 3, 1) := by decide +kernel
theorem dX5_walk_21 : decode cX5_walk 21 = .ok (.iload_n 2, 1) := by decide +kernel
theorem dX5_walk_22 : decode cX5_walk 22 = .ok (.if_icmp .ge 27, 3) := by decide +kernel
theorem dX5_walk_25 : decode cX5_walk 25 = .ok (.aload_n 0, 1) := by decide +kernel
theorem dX5_walk_26 : decode cX5_walk 26 = .ok (.invokevirtual 80, 3) := by decide +kernel
theorem dX5_walk_29 : decode cX5_walk 29 = .ok (.aload_n 0, 1) := by decide +kernel
theorem dX5_walk_30 : decode cX5_walk 30 = .ok (.aload_n 1, 1) := by decide +kernel
theorem dX5_walk_31 : decode cX5_walk 31 = .ok (.iload_n 3, 1) := by decide +kernel
theorem dX5_walk_32 : decode cX5_walk 32 = .ok (.invokevirtual 112, 3) := by decide +kernel
theorem dX5_walk_35 : decode cX5_walk 35 = .ok (.aload_n 0, 1) := by decide +kernel
theorem dX5_walk_36 : decode cX5_walk 36 = .ok (.aload_n 0, 1) := by decide +kernel
theorem dX5_walk_37 : decode cX5_walk 37 = .ok (.getfield 42, 3) := by decide +kernel
theorem dX5_walk_40 : decode cX5_walk 40 = .ok (.invokevirtual 115, 3) := by decide +kernel
theorem dX5_walk_43 : decode cX5_walk 43 = .ok (.iinc 3 1, 3) := by decide +kernel
theorem dX5_walk_46 : decode cX5_walk 46 = .ok (.goto (-26), 3) := by decide +kernel
theorem dX5_walk_49 : decode cX5_walk 49 = .ok (.return_, 1) := by decide +kernel
theorem dX5_walkBack_0 : decode cX5_walkBack 0 = .ok (.aload_n 0, 1) := by decide +kernel
theorem dX5_walkBack_1 : decode cX5_walkBack 1 = .ok (.aload_n 0, 1) := by decide +kernel
theorem dX5_walkBack_2 : decode cX5_walkBack 2 = .ok (.getfield 45, 3) := by decide +kernel
theorem dX5_walkBack_5 : decode cX5_walkBack 5 = .ok (.lconst 0, 1) := by decide +kernel
theorem dX5_walkBack_6 : decode cX5_walkBack 6 = .ok (.invokevirtual 109, 3) := by decide +kernel
theorem dX5_walkBack_9 : decode cX5_walkBack 9 = .ok (.aload_n 1, 1) := by decide +kernel
theorem dX5_walkBack_10 : decode cX5_walkBack 10 = .ok (.getfield 64, 3) := by decide +kernel
theorem dX5_walkBack_13 : decode cX5_walkBack 13 = .ok (.iconst 1, 1) := by decide +kernel
theorem dX5_walkBack_14 : decode cX5_walkBack 14 = .ok (.isub, 1) := by decide +kernel
theorem dX5_walkBack_15 : decode cX5_walkBack 15 = .ok (.istore_n 3, 1) := by decide +kernel
theorem dX5_walkBack_16 : decode cX5_walkBack 16 = .ok (.iload_n 3, 1) := by decide +kernel
theorem dX5_walkBack_17 : decode cX5_walkBack 17 = .ok (.iload_n 2, 1) := by decide +kernel
theorem dX5_walkBack_18 : decode cX5_walkBack 18 = .ok (.if_icmp .le 27, 3) := by decide +kernel
theorem dX5_walkBack_21 : decode cX5_walkBack 21 = .ok (.aload_n 0, 1) := by decide +kernel
theorem dX5_walkBack_22 : decode cX5_walkBack 22 = .ok (.aload_n 1, 1) := by decide +kernel
theorem dX5_walkBack_23 : decode cX5_walkBack 23 = .ok (.iload_n 3, 1) := by decide +kernel
theorem dX5_walkBack_24 : decode cX5_walkBack 24 = .ok (.invokevirtual 112, 3) := by decide +kernel
theorem dX5_walkBack_27 : decode cX5_walkBack 27 = .ok (.aload_n 0, 1) := by decide +kernel
theorem dX5_walkBack_28 : decode cX5_walkBack 28 = .ok (.aload_n 0, 1) := by decide +kernel
theorem dX5_walkBack_29 : decode cX5_walkBack 29 = .ok (.getfield 45, 3) := by decide +kernel
theorem dX5_walkBack_32 : decode cX5_walkBack 32 = .ok (.invokevirtual 115, 3) := by decide +kernel
theorem dX5_walkBack_35 : decode cX5_walkBack 35 = .ok (.aload_n 0, 1) := by decide +kernel
theorem dX5_walkBack_36 : decode cX5_walkBack 36 = .ok (.invokevirtual 119, 3) := by decide +kernel
theorem dX5_walkBack_39 : decode cX5_walkBack 39 = .ok (.iinc 3 (-1), 3) := by decide +kernel
theorem dX5_walkBack_42 : decode cX5_walkBack 42 = .ok (.goto (-26), 3) := by decide +kernel
theorem dX5_walkBack_45 : decode cX5_walkBack 45 = .ok (.return_, 1) := by decide +kernel
theorem dX5_fillStates_0 : decode cX5_fillStates 0 = .ok (.iconst 0, 1) := by decide +kernel
theorem dX5_fillStates_1 : decode cX5_fillStates 1 = .ok (.istore 4, 2) := by decide +kernel
theorem dX5_fillStates_3 : decode cX5_fillStates 3 = .ok (.iload 4, 2) := by decide +kernel
theorem dX5_fillStates_5 : decode cX5_fillStates 5 = .ok (.aload_n 0, 1) := by decide +kernel
theorem dX5_fillStates_6 : decode cX5_fillStates 6 = .ok (.getfield 75, 3) := by decide +kernel
theorem dX5_fillStates_9 : decode cX5_fillStates 9 = .ok (.if_icmp .ge 14, 3) := by decide +kernel
theorem dX5_fillStates_12 : decode cX5_fillStates 12 = .ok (.aload_n 1, 1) := by decide +kernel
theorem dX5_fillStates_13 : decode cX5_fillStates 13 = .ok (.iload 4, 2) := by decide +kernel
theorem dX5_fillStates_15 : decode cX5_fillStates 15 = .ok (.lload_n 2, 1) := by decide +kernel
theorem dX5_fillStates_16 : decode cX5_fillStates 16 = .ok (.lastore, 1) := by decide +kernel
theorem dX5_fillStates_17 : decode cX5_fillStates 17 = .ok (.iinc 4 1, 3) := by decide +kernel
theorem dX5_fillStates_20 : decode cX5_fillStates 20 = .ok (.goto (-17), 3) := by decide +kernel
theorem dX5_fillStates_23 : decode cX5_fillStates 23 = .ok (.return_, 1) := by decide +kernel
theorem dX5_costCombos_0 : decode cX5_costCombos 0 = .ok (.iconst 0, 1) := by decide +kernel
theorem dX5_costCombos_1 : decode cX5_costCombos 1 = .ok (.istore_n 3, 1) := by decide +kernel
theorem dX5_costCombos_2 : decode cX5_costCombos 2 = .ok (.iload_n 3, 1) := by decide +kernel
theorem dX5_costCombos_3 : decode cX5_costCombos 3 = .ok (.aload_n 0, 1) := by decide +kernel
theorem dX5_costCombos_4 : decode cX5_costCombos 4 = .ok (.getfield 98, 3) := by decide +kernel
theorem dX5_costCombos_7 : decode cX5_costCombos 7 = .ok (.if_icmp .ge 75, 3) := by decide +kernel
theorem dX5_costCombos_10 : decode cX5_costCombos 10 = .ok (.aload_n 1, 1) := by decide +kernel
theorem dX5_costCombos_11 : decode cX5_costCombos 11 = .ok (.aload_n 1, 1) := by decide +kernel
theorem dX5_costCombos_12 : decode cX5_costCombos 12 = .ok (.getfield 122, 3) := by decide +kernel
theorem dX5_costCombos_15 : decode cX5_costCombos 15 = .ok (.iload_n 2, 1) := by decide +kernel
theorem dX5_costCombos_16 : decode cX5_costCombos 16 = .ok (.iaload, 1) := by decide +kernel
theorem dX5_costCombos_17 : decode cX5_costCombos 17 = .ok (.aload_n 0, 1) := by decide +kernel
theorem dX5_costCombos_18 : decode cX5_costCombos 18 = .ok (.getfield 9, 3) := by decide +kernel
theorem dX5_costCombos_21 : decode cX5_costCombos 21 = .ok (.iload_n 3, 1) := by decide +kernel
theorem dX5_costCombos_22 : decode cX5_costCombos 22 = .ok (.iaload, 1) := by decide +kernel
theorem dX5_costCombos_23 : decode cX5_costCombos 23 = .ok (.aload_n 0, 1) := by decide +kernel
theorem dX5_costCombos_24 : decode cX5_costCombos 24 = .ok (.getfield 15, 3) := by decide +kernel
theorem dX5_costCombos_27 : decode cX5_costCombos 27 = .ok (.iload_n 3, 1) := by decide +kernel
theorem dX5_costCombos_28 : decode cX5_costCombos 28 = .ok (.iaload, 1) := by decide +kernel
theorem dX5_costCombos_29 : decode cX5_costCombos 29 = .ok (.invokevirtual 101, 3) := by decide +kernel
theorem dX5_costCombos_32 : decode cX5_costCombos 32 = .ok (.istore 4, 2) := by decide +kernel
theorem dX5_costCombos_34 : decode cX5_costCombos 34 = .ok (.aload_n 0, 1) := by decide +kernel
theorem dX5_costCombos_35 : decode cX5_costCombos 35 = .ok (.getfield 9, 3) := by decide +kernel
theorem dX5_costCombos_38 : decode cX5_costCombos 38 = .ok (.iload_n 3, 1) := by decide +kernel
theorem dX5_costCombos_39 : decode cX5_costCombos 39 = .ok (.iaload, 1) := by decide +kernel
