theorem dX5_costCombos_40 : decode cX5_costCombos 40 = .ok (.i2l, 1) := by decide +kernel
theorem dX5_costCombos_41 : decode cX5_costCombos 41 = .ok (.iload_n 2, 1) := by decide +kernel
theorem dX5_costCombos_42 : decode cX5_costCombos 42 = .ok (.invokestatic 52, 3) := by decide +kernel
theorem dX5_costCombos_45 : decode cX5_costCombos 45 = .ok (.lshl, 1) := by decide +kernel
theorem dX5_costCombos_46 : decode cX5_costCombos 46 = .ok (.lstore 5, 2) := by decide +kernel
theorem dX5_costCombos_48 : decode cX5_costCombos 48 = .ok (.aload_n 0, 1) := by decide +kernel
theorem dX5_costCombos_49 : decode cX5_costCombos 49 = .ok (.getfield 18, 3) := by decide +kernel
theorem dX5_costCombos_52 : decode cX5_costCombos 52 = .ok (.iload_n 3, 1) := by decide +kernel
theorem dX5_costCombos_53 : decode cX5_costCombos 53 = .ok (.iload 4, 2) := by decide +kernel
theorem dX5_costCombos_55 : decode cX5_costCombos 55 = .ok (.ldc 51, 2) := by decide +kernel
theorem dX5_costCombos_57 : decode cX5_costCombos 57 = .ok (.if_icmp .ne 9, 3) := by decide +kernel
theorem dX5_costCombos_60 : decode cX5_costCombos 60 = .ok (.ldc2_w 73, 3) := by decide +kernel
theorem dX5_costCombos_63 : decode cX5_costCombos 63 = .ok (.goto 12, 3) := by decide +kernel
theorem dX5_costCombos_66 : decode cX5_costCombos 66 = .ok (.iload 4, 2) := by decide +kernel
theorem dX5_costCombos_68 : decode cX5_costCombos 68 = .ok (.i2l, 1) := by decide +kernel
theorem dX5_costCombos_69 : decode cX5_costCombos 69 = .ok (.bipush 24, 2) := by decide +kernel
theorem dX5_costCombos_71 : decode cX5_costCombos 71 = .ok (.lshl, 1) := by decide +kernel
theorem dX5_costCombos_72 : decode cX5_costCombos 72 = .ok (.lload 5, 2) := by decide +kernel
theorem dX5_costCombos_74 : decode cX5_costCombos 74 = .ok (.ladd, 1) := by decide +kernel
theorem dX5_costCombos_75 : decode cX5_costCombos 75 = .ok (.lastore, 1) := by decide +kernel
theorem dX5_costCombos_76 : decode cX5_costCombos 76 = .ok (.iinc 3 1, 3) := by decide +kernel
theorem dX5_costCombos_79 : decode cX5_costCombos 79 = .ok (.goto (-77), 3) := by decide +kernel
theorem dX5_costCombos_82 : decode cX5_costCombos 82 = .ok (.return_, 1) := by decide +kernel
theorem dX5_addParts_0 : decode cX5_addParts 0 = .ok (.iconst 0, 1) := by decide +kernel
theorem dX5_addParts_1 : decode cX5_addParts 1 = .ok (.istore_n 2, 1) := by decide +kernel
theorem dX5_addParts_2 : decode cX5_addParts 2 = .ok (.iload_n 2, 1) := by decide +kernel
theorem dX5_addParts_3 : decode cX5_addParts 3 = .ok (.aload_n 0, 1) := by decide +kernel
theorem dX5_addParts_4 : decode cX5_addParts 4 = .ok (.getfield 75, 3) := by decide +kernel
theorem dX5_addParts_7 : decode cX5_addParts 7 = .ok (.if_icmp .ge 53, 3) := by decide +kernel
theorem dX5_addParts_10 : decode cX5_addParts 10 = .ok (.aload_n 1, 1) := by decide +kernel
theorem dX5_addParts_11 : decode cX5_addParts 11 = .ok (.iload_n 2, 1) := by decide +kernel
theorem dX5_addParts_12 : decode cX5_addParts 12 = .ok (.laload, 1) := by decide +kernel
theorem dX5_addParts_13 : decode cX5_addParts 13 = .ok (.ldc2_w 73, 3) := by decide +kernel
theorem dX5_addParts_16 : decode cX5_addParts 16 = .ok (.lcmp, 1) := by decide +kernel
theorem dX5_addParts_17 : decode cX5_addParts 17 = .ok (.ifCond .ge 37, 3) := by decide +kernel
theorem dX5_addParts_20 : decode cX5_addParts 20 = .ok (.aload_n 0, 1) := by decide +kernel
theorem dX5_addParts_21 : decode cX5_addParts 21 = .ok (.getfield 18, 3) := by decide +kernel
theorem dX5_addParts_24 : decode cX5_addParts 24 = .ok (.aload_n 0, 1) := by decide +kernel
theorem dX5_addParts_25 : decode cX5_addParts 25 = .ok (.getfield 25, 3) := by decide +kernel
theorem dX5_addParts_28 : decode cX5_addParts 28 = .ok (.iload_n 2, 1) := by decide +kernel
theorem dX5_addParts_29 : decode cX5_addParts 29 = .ok (.iaload, 1) := by decide +kernel
theorem dX5_addParts_30 : decode cX5_addParts 30 = .ok (.laload, 1) := by decide +kernel
theorem dX5_addParts_31 : decode cX5_addParts 31 = .ok (.lstore_n 3, 1) := by decide +kernel
theorem dX5_addParts_32 : decode cX5_addParts 32 = .ok (.aload_n 1, 1) := by decide +kernel
theorem dX5_addParts_33 : decode cX5_addParts 33 = .ok (.iload_n 2, 1) := by decide +kernel
theorem dX5_addParts_34 : decode cX5_addParts 34 = .ok (.lload_n 3, 1) := by decide +kernel
theorem dX5_addParts_35 : decode cX5_addParts 35 = .ok (.ldc2_w 73, 3) := by decide +kernel
theorem dX5_addParts_38 : decode cX5_addParts 38 = .ok (.lcmp, 1) := by decide +kernel
theorem dX5_addParts_39 : decode cX5_addParts 39 = .ok (.ifCond .ge 11, 3) := by decide +kernel
theorem dX5_addParts_42 : decode cX5_addParts 42 = .ok (.aload_n 1, 1) := by decide +kernel
theorem dX5_addParts_43 : decode cX5_addParts 43 = .ok (.iload_n 2, 1) := by decide +kernel
theorem dX5_addParts_44 : decode cX5_addParts 44 = .ok (.laload, 1) := by decide +kernel
theorem dX5_addParts_45 : decode cX5_addParts 45 = .ok (.lload_n 3, 1) := by decide +kernel
theorem dX5_addParts_46 : decode cX5_addParts 46 = .ok (.ladd, 1) := by decide +kernel
theorem dX5_addParts_47 : decode cX5_addParts 47 = .ok (.goto 6, 3) := by decide +kernel
theorem dX5_addParts_50 : decode cX5_addParts 50 = .ok (.ldc2_w 73, 3) := by decide +kernel
theorem dX5_addParts_53 : decode cX5_addParts 53 = .ok (.lastore, 1) := by decide +kernel
theorem dX5_addParts_54 : decode cX5_addParts 54 = .ok (.iinc 2 1, 3) := by decide +kernel
theorem dX5_addParts_57 : decode cX5_addParts 57 = .ok (.goto (-55), 3) := by decide +kernel
theorem dX5_addParts_60 : decode cX5_addParts 60 = .ok (.return_, 1) := by decide +kernel
theorem dX5_turnAll_0 : decode cX5_turnAll 0 = .ok (.iconst 0, 1) := by decide +kernel
theorem dX5_turnAll_1 : decode cX5_turnAll 1 = .ok (.istore_n 1, 1) := by decide +kernel
theorem dX5_turnAll_2 : decode cX5_turnAll 2 = .ok (.iload_n 1, 1) := by decide +kernel
theorem dX5_turnAll_3 : decode cX5_turnAll 3 = .ok (.aload_n 0, 1) := by decide +kernel
theorem dX5_turnAll_4 : decode cX5_turnAll 4 = .ok (.getfield 125, 3) := by decide +kernel
theorem dX5_turnAll_7 : decode cX5_turnAll 7 = .ok (.if_icmp .ge 206, 3) := by decide +kernel
theorem dX5_turnAll_10 : decode cX5_turnAll 10 = .ok (.aload_n 0, 1) := by decide +kernel
theorem dX5_turnAll_11 : decode cX5_turnAll 11 = .ok (.getfield 36, 3) := by decide +kernel
theorem dX5_turnAll_14 : decode cX5_turnAll 14 = .ok (.iload_n 1, 1) := by decide +kernel
theorem dX5_turnAll_15 : decode cX5_turnAll 15 = .ok (.aaload, 1) := by decide +kernel
theorem dX5_turnAll_16 : decode cX5_turnAll 16 = .ok (.astore_n 2, 1) := by decide +kernel
theorem dX5_turnAll_17 : decode cX5_turnAll 17 = .ok (.aload_n 0, 1) := by decide +kernel
theorem dX5_turnAll_18 : decode cX5_turnAll 18 = .ok (.getfield 39, 3) := by decide +kernel
theorem dX5_turnAll_21 : decode cX5_turnAll 21 = .ok (.iload_n 1, 1) := by decide +kernel
theorem dX5_turnAll_22 : decode cX5_turnAll 22 = .ok (.aaload, 1) := by decide +kernel
theorem dX5_turnAll_23 : decode cX5_turnAll 23 = .ok (.astore_n 3, 1) := by decide +kernel
theorem dX5_turnAll_24 : decode cX5_turnAll 24 = .ok (.aload_n 0, 1) := by decide +kernel
theorem dX5_turnAll_25 : decode cX5_turnAll 25 = .ok (.getfield 31, 3) := by decide +kernel
theorem dX5_turnAll_28 : decode cX5_turnAll 28 = .ok (.iload_n 1, 1) := by decide +kernel
theorem dX5_turnAll_29 : decode cX5_turnAll 29 = .ok (.iaload, 1) := by decide +kernel
theorem dX5_turnAll_30 : decode cX5_turnAll 30 = .ok (.iconst 1, 1) := by decide +kernel
theorem dX5_turnAll_31 : decode cX5_turnAll 31 = .ok (.invokestatic 128, 3) := by decide +kernel
theorem dX5_turnAll_34 : decode cX5_turnAll 34 = .ok (.istore 4, 2) := by decide +kernel
theorem dX5_turnAll_36 : decode cX5_turnAll 36 = .ok (.aload_n 0, 1) := by decide +kernel
theorem dX5_turnAll_37 : decode cX5_turnAll 37 = .ok (.getfield 28, 3) := by decide +kernel
theorem dX5_turnAll_40 : decode cX5_turnAll 40 = .ok (.iload_n 1, 1) := by decide +kernel
theorem dX5_turnAll_41 : decode cX5_turnAll 41 = .ok (.iaload, 1) := by decide +kernel
theorem dX5_turnAll_42 : decode cX5_turnAll 42 = .ok (.iconst 1, 1) := by decide +kernel
theorem dX5_turnAll_43 : decode cX5_turnAll 43 = .ok (.invokestatic 128, 3) := by decide +kernel
theorem dX5_turnAll_46 : decode cX5_turnAll 46 = .ok (.istore 5, 2) := by decide +kernel
theorem dX5_turnAll_48 : decode cX5_turnAll 48 = .ok (.aload_n 0, 1) := by decide +kernel
theorem dX5_turnAll_49 : decode cX5_turnAll 49 = .ok (.aload_n 0, 1) := by decide +kernel
theorem dX5_turnAll_50 : decode cX5_turnAll 50 = .ok (.getfield 48, 3) := by decide +kernel
theorem dX5_turnAll_53 : decode cX5_turnAll 53 = .ok (.ldc2_w 73, 3) := by decide +kernel
theorem dX5_turnAll_56 : decode cX5_turnAll 56 = .ok (.invokevirtual 109, 3) := by decide +kernel
theorem dX5_turnAll_59 : decode cX5_turnAll 59 = .ok (.iconst 0, 1) := by decide +kernel
theorem dX5_turnAll_60 : decode cX5_turnAll 60 = .ok (.istore 6, 2) := by decide +kernel
theorem dX5_turnAll_62 : decode cX5_turnAll 62 = .ok (.iload 6, 2) := by decide +kernel
theorem dX5_turnAll_64 : decode cX5_turnAll 64 = .ok (.aload_n 0, 1) := by decide +kernel
theorem dX5_turnAll_65 : decode cX5_turnAll 65 = .ok (.getfield 75, 3) := by decide +kernel
theorem dX5_turnAll_68 : decode cX5_turnAll 68 = .ok (.if_icmp .ge 119, 3) := by decide +kernel
theorem dX5_turnAll_71 : decode cX5_turnAll 71 = .ok (.aload_n 0, 1) := by decide +kernel
theorem dX5_turnAll_72 : decode cX5_turnAll 72 = .ok (.getfield 42, 3) := by decide +kernel
theorem dX5_turnAll_75 : decode cX5_turnAll 75 = .ok (.iload 6, 2) := by decide +kernel
theorem dX5_turnAll_77 : decode cX5_turnAll 77 = .ok (.laload, 1) := by decide +kernel
theorem dX5_turnAll_78 : decode cX5_turnAll 78 = .ok (.lstore 7, 2) := by decide +kernel
theorem dX5_turnAll_80 : decode cX5_turnAll 80 = .ok (.lload 7, 2) := by decide +kernel
theorem dX5_turnAll_82 : decode cX5_turnAll 82 = .ok (.ldc2_w 73, 3) := by decide +kernel
theorem dX5_turnAll_85 : decode cX5_turnAll 85 = .ok (.lcmp, 1) := by decide +kernel
theorem dX5_turnAll_86 : decode cX5_turnAll 86 = .ok (.ifCond .ge 95, 3) := by decide +kernel
theorem dX5_turnAll_89 : decode cX5_turnAll 89 = .ok (.iload 6, 2) := by decide +kernel
theorem dX5_turnAll_91 : decode cX5_turnAll 91 = .ok (.iload 4, 2) := by decide +kernel
theorem dX5_turnAll_93 : decode cX5_turnAll 93 = .ok (.idiv, 1) := by decide +kernel
theorem dX5_turnAll_94 : decode cX5_turnAll 94 = .ok (.iload 5, 2) := by decide +kernel
theorem dX5_turnAll_96 : decode cX5_turnAll 96 = .ok (.irem, 1) := by decide +kernel
theorem dX5_turnAll_97 : decode cX5_turnAll 97 = .ok (.istore 9, 2) := by decide +kernel
theorem dX5_turnAll_99 : decode cX5_turnAll 99 = .ok (.aload_n 2, 1) := by decide +kernel
theorem dX5_turnAll_100 : decode cX5_turnAll 100 = .ok (.iload 9, 2) := by decide +kernel
theorem dX5_turnAll_102 : decode cX5_turnAll 102 = .ok (.iaload, 1) := by decide +kernel
theorem dX5_turnAll_103 : decode cX5_turnAll 103 = .ok (.ldc 51, 2) := by decide +kernel
theorem dX5_turnAll_105 : decode cX5_turnAll 105 = .ok (.if_icmp .eq 35, 3) := by decide +kernel
theorem dX5_turnAll_108 : decode cX5_turnAll 108 = .ok (.lload 7, 2) := by decide +kernel
theorem dX5_turnAll_110 : decode cX5_turnAll 110 = .ok (.aload_n 0, 1) := by decide +kernel
theorem dX5_turnAll_111 : decode cX5_turnAll 111 = .ok (.getfield 48, 3) := by decide +kernel
theorem dX5_turnAll_114 : decode cX5_turnAll 114 = .ok (.iload 6, 2) := by decide +kernel
theorem dX5_turnAll_116 : decode cX5_turnAll 116 = .ok (.aload_n 2, 1) := by decide +kernel
theorem dX5_turnAll_117 : decode cX5_turnAll 117 = .ok (.iload 9, 2) := by decide +kernel
theorem dX5_turnAll_119 : decode cX5_turnAll 119 = .ok (.iaload, 1) := by decide +kernel
theorem dX5_turnAll_120 : decode cX5_turnAll 120 = .ok (.iadd, 1) := by decide +kernel
theorem dX5_turnAll_121 : decode cX5_turnAll 121 = .ok (.laload, 1) := by decide +kernel
theorem dX5_turnAll_122 : decode cX5_turnAll 122 = .ok (.lcmp, 1) := by decide +kernel
theorem dX5_turnAll_123 : decode cX5_turnAll 123 = .ok (.ifCond .ge 17, 3) := by decide +kernel
theorem dX5_turnAll_126 : decode cX5_turnAll 126 = .ok (.aload_n 0, 1) := by decide +kernel
theorem dX5_turnAll_127 : decode cX5_turnAll 127 = .ok (.getfield 48, 3) := by decide +kernel
theorem dX5_turnAll_130 : decode cX5_turnAll 130 = .ok (.iload 6, 2) := by decide +kernel
theorem dX5_turnAll_132 : decode cX5_turnAll 132 = .ok (.aload_n 2, 1) := by decide +kernel
theorem dX5_turnAll_133 : decode cX5_turnAll 133 = .ok (.iload 9, 2) := by decide +kernel
theorem dX5_turnAll_135 : decode cX5_turnAll 135 = .ok (.iaload, 1) := by decide +kernel
theorem dX5_turnAll_136 : decode cX5_turnAll 136 = .ok (.iadd, 1) := by decide +kernel
theorem dX5_turnAll_137 : decode cX5_turnAll 137 = .ok (.lload 7, 2) := by decide +kernel
theorem dX5_turnAll_139 : decode cX5_turnAll 139 = .ok (.lastore, 1) := by decide +kernel
theorem dX5_turnAll_140 : decode cX5_turnAll 140 = .ok (.aload_n 3, 1) := by decide +kernel
theorem dX5_turnAll_141 : decode cX5_turnAll 141 = .ok (.iload 9, 2) := by decide +kernel
theorem dX5_turnAll_143 : decode cX5_turnAll 143 = .ok (.iaload, 1) := by decide +kernel
theorem dX5_turnAll_144 : decode cX5_turnAll 144 = .ok (.ldc 51, 2) := by decide +kernel
theorem dX5_turnAll_146 : decode cX5_turnAll 146 = .ok (.if_icmp .eq 35, 3) := by decide +kernel
theorem dX5_turnAll_149 : decode cX5_turnAll 149 = .ok (.lload 7, 2) := by decide +kernel
theorem dX5_turnAll_151 : decode cX5_turnAll 151 = .ok (.aload_n 0, 1) := by decide +kernel
theorem dX5_turnAll_152 : decode cX5_turnAll 152 = .ok (.getfield 48, 3) := by decide +kernel
theorem dX5_turnAll_155 : decode cX5_turnAll 155 = .ok (.iload 6, 2) := by decide +kernel
theorem dX5_turnAll_157 : decode cX5_turnAll 157 = .ok (.aload_n 3, 1) := by decide +kernel
theorem dX5_turnAll_158 : decode cX5_turnAll 158 = .ok (.iload 9, 2) := by decide +kernel
theorem dX5_turnAll_160 : decode cX5_turnAll 160 = .ok (.iaload, 1) := by decide +kernel
theorem dX5_turnAll_161 : decode cX5_turnAll 161 = .ok (.iadd, 1) := by decide +kernel
theorem dX5_turnAll_162 : decode cX5_turnAll 162 = .ok (.laload, 1) := by decide +kernel
theorem dX5_turnAll_163 : decode cX5_turnAll 163 = .ok (.lcmp, 1) := by decide +kernel
theorem dX5_turnAll_164 : decode cX5_turnAll 164 = .ok (.ifCond .ge 17, 3) := by decide +kernel
theorem dX5_turnAll_167 : decode cX5_turnAll 167 = .ok (.aload_n 0, 1) := by decide +kernel
theorem dX5_turnAll_168 : decode cX5_turnAll 168 = .ok (.getfield 48, 3) := by decide +kernel
theorem dX5_turnAll_171 : decode cX5_turnAll 171 = .ok (.iload 6, 2) := by decide +kernel
theorem dX5_turnAll_173 : decode cX5_turnAll 173 = .ok (.aload_n 3, 1) := by decide +kernel
theorem dX5_turnAll_174 : decode cX5_turnAll 174 = .ok (.iload 9, 2) := by decide +kernel
theorem dX5_turnAll_176 : decode cX5_turnAll 176 = .ok (.iaload, 1) := by decide +kernel
theorem dX5_turnAll_177 : decode cX5_turnAll 177 = .ok (.iadd, 1) := by decide +kernel
theorem dX5_turnAll_178 : decode cX5_turnAll 178 = .ok (.lload 7, 2) := by decide +kernel
theorem dX5_turnAll_180 : decode cX5_turnAll 180 = .ok (.lastore, 1) := by decide +kernel
theorem dX5_turnAll_181 : decode cX5_turnAll 181 = .ok (.iinc 6 1, 3) := by decide +kernel
theorem dX5_turnAll_184 : decode cX5_turnAll 184 = .ok (.goto (-122), 3) := by decide +kernel
theorem dX5_turnAll_187 : decode cX5_turnAll 187 = .ok (.aload_n 0, 1) := by decide +kernel
theorem dX5_turnAll_188 : decode cX5_turnAll 188 = .ok (.getfield 42, 3) := by decide +kernel
theorem dX5_turnAll_191 : decode cX5_turnAll 191 = .ok (.astore 6, 2) := by decide +kernel
theorem dX5_turnAll_193 : decode cX5_turnAll 193 = .ok (.aload_n 0, 1) := by decide +kernel
theorem dX5_turnAll_194 : decode cX5_turnAll 194 = .ok (.aload_n 0, 1) := by decide +kernel
theorem dX5_turnAll_195 : decode cX5_turnAll 195 = .ok (.getfield 48, 3) := by decide +kernel
theorem dX5_turnAll_198 : decode cX5_turnAll 198 = .ok (.putfield 42, 3) := by decide +kernel
theorem dX5_turnAll_201 : decode cX5_turnAll 201 = .ok (.aload_n 0, 1) := by decide +kernel
theorem dX5_turnAll_202 : decode cX5_turnAll 202 = .ok (.aload 6, 2) := by decide +kernel
theorem dX5_turnAll_204 : decode cX5_turnAll 204 = .ok (.putfield 48, 3) := by decide +kernel
theorem dX5_turnAll_207 : decode cX5_turnAll 207 = .ok (.iinc 1 1, 3) := by decide +kernel
theorem dX5_turnAll_210 : decode cX5_turnAll 210 = .ok (.goto (-208), 3) := by decide +kernel
theorem dX5_turnAll_213 : decode cX5_turnAll 213 = .ok (.return_, 1) := by decide +kernel
theorem dX5_turnAllBack_0 : decode cX5_turnAllBack 0 = .ok (.iconst 0, 1) := by decide +kernel
theorem dX5_turnAllBack_1 : decode cX5_turnAllBack 1 = .ok (.istore_n 1, 1) := by decide +kernel
theorem dX5_turnAllBack_2 : decode cX5_turnAllBack 2 = .ok (.iload_n 1, 1) := by decide +kernel
theorem dX5_turnAllBack_3 : decode cX5_turnAllBack 3 = .ok (.aload_n 0, 1) := by decide +kernel
theorem dX5_turnAllBack_4 : decode cX5_turnAllBack 4 = .ok (.getfield 125, 3) := by decide +kernel
theorem dX5_turnAllBack_7 : decode cX5_turnAllBack 7 = .ok (.if_icmp .ge 174, 3) := by decide +kernel
theorem dX5_turnAllBack_10 : decode cX5_turnAllBack 10 = .ok (.aload_n 0, 1) := by decide +kernel
theorem dX5_turnAllBack_11 : decode cX5_turnAllBack 11 = .ok (.getfield 36, 3) := by decide +kernel
theorem dX5_turnAllBack_14 : decode cX5_turnAllBack 14 = .ok (.iload_n 1, 1) := by decide +kernel
theorem dX5_turnAllBack_15 : decode cX5_turnAllBack 15 = .ok (.aaload, 1) := by decide +kernel
theorem dX5_turnAllBack_16 : decode cX5_turnAllBack 16 = .ok (.astore_n 2, 1) := by decide +kernel
theorem dX5_turnAllBack_17 : decode cX5_turnAllBack 17 = .ok (.aload_n 0, 1) := by decide +kernel
theorem dX5_turnAllBack_18 : decode cX5_turnAllBack 18 = .ok (.getfield 39, 3) := by decide +kernel
theorem dX5_turnAllBack_21 : decode cX5_turnAllBack 21 = .ok (.iload_n 1, 1) := by decide +kernel
theorem dX5_turnAllBack_22 : decode cX5_turnAllBack 22 = .ok (.aaload, 1) := by decide +kernel
theorem dX5_turnAllBack_23 : decode cX5_turnAllBack 23 = .ok (.astore_n 3, 1) := by decide +kernel
theorem dX5_turnAllBack_24 : decode cX5_turnAllBack 24 = .ok (.aload_n 0, 1) := by decide +kernel
theorem dX5_turnAllBack_25 : decode cX5_turnAllBack 25 = .ok (.getfield 31, 3) := by decide +kernel
theorem dX5_turnAllBack_28 : decode cX5_turnAllBack 28 = .ok (.iload_n 1, 1) := by decide +kernel
theorem dX5_turnAllBack_29 : decode cX5_turnAllBack 29 = .ok (.iaload, 1) := by decide +kernel
theorem dX5_turnAllBack_30 : decode cX5_turnAllBack 30 = .ok (.iconst 1, 1) := by decide +kernel
theorem dX5_turnAllBack_31 : decode cX5_turnAllBack 31 = .ok (.invokestatic 128, 3) := by decide +kernel
theorem dX5_turnAllBack_34 : decode cX5_turnAllBack 34 = .ok (.istore 4, 2) := by decide +kernel
theorem dX5_turnAllBack_36 : decode cX5_turnAllBack 36 = .ok (.aload_n 0, 1) := by decide +kernel
theorem dX5_turnAllBack_37 : decode cX5_turnAllBack 37 = .ok (.getfield 28, 3) := by decide +kernel
theorem dX5_turnAllBack_40 : decode cX5_turnAllBack 40 = .ok (.iload_n 1, 1) := by decide +kernel
theorem dX5_turnAllBack_41 : decode cX5_turnAllBack 41 = .ok (.iaload, 1) := by decide +kernel
theorem dX5_turnAllBack_42 : decode cX5_turnAllBack 42 = .ok (.iconst 1, 1) := by decide +kernel
theorem dX5_turnAllBack_43 : decode cX5_turnAllBack 43 = .ok (.invokestatic 128, 3) := by decide +kernel
theorem dX5_turnAllBack_46 : decode cX5_turnAllBack 46 = .ok (.istore 5, 2) := by decide +kernel
theorem dX5_turnAllBack_48 : decode cX5_turnAllBack 48 = .ok (.iconst 0, 1) := by decide +kernel
theorem dX5_turnAllBack_49 : decode cX5_turnAllBack 49 = .ok (.istore 6, 2) := by decide +kernel
theorem dX5_turnAllBack_51 : decode cX5_turnAllBack 51 = .ok (.iload 6, 2) := by decide +kernel
theorem dX5_turnAllBack_53 : decode cX5_turnAllBack 53 = .ok (.aload_n 0, 1) := by decide +kernel
theorem dX5_turnAllBack_54 : decode cX5_turnAllBack 54 = .ok (.getfield 75, 3) := by decide +kernel
theorem dX5_turnAllBack_57 : decode cX5_turnAllBack 57 = .ok (.if_icmp .ge 98, 3) := by decide +kernel
theorem dX5_turnAllBack_60 : decode cX5_turnAllBack 60 = .ok (.iload 6, 2) := by decide +kernel
theorem dX5_turnAllBack_62 : decode cX5_turnAllBack 62 = .ok (.iload 4, 2) := by decide +kernel
theorem dX5_turnAllBack_64 : decode cX5_turnAllBack 64 = .ok (.idiv, 1) := by decide +kernel
theorem dX5_turnAllBack_65 : decode cX5_turnAllBack 65 = .ok (.iload 5, 2) := by decide +kernel
theorem dX5_turnAllBack_67 : decode cX5_turnAllBack 67 = .ok (.irem, 1) := by decide +kernel
theorem dX5_turnAllBack_68 : decode cX5_turnAllBack 68 = .ok (.istore 7, 2) := by decide +kernel
theorem dX5_turnAllBack_70 : decode cX5_turnAllBack 70 = .ok (.aload_n 2, 1) := by decide +kernel
theorem dX5_turnAllBack_71 : decode cX5_turnAllBack 71 = .ok (.iload 7, 2) := by decide +kernel
theorem dX5_turnAllBack_73 : decode cX5_turnAllBack 73 = .ok (.iaload, 1) := by decide +kernel
theorem dX5_turnAllBack_74 : decode cX5_turnAllBack 74 = .ok (.ldc 51, 2) := by decide +kernel
theorem dX5_turnAllBack_76 : decode cX5_turnAllBack 76 = .ok (.if_icmp .ne 9, 3) := by decide +kernel
theorem dX5_turnAllBack_79 : decode cX5_turnAllBack 79 = .ok (.ldc2_w 73, 3) := by decide +kernel
theorem dX5_turnAllBack_82 : decode cX5_turnAllBack 82 = .ok (.goto 15, 3) := by decide +kernel
theorem dX5_turnAllBack_85 : decode cX5_turnAllBack 85 = .ok (.aload_n 0, 1) := by decide +kernel
theorem dX5_turnAllBack_86 : decode cX5_turnAllBack 86 = .ok (.getfield 45, 3) := by decide +kernel
theorem dX5_turnAllBack_89 : decode cX5_turnAllBack 89 = .ok (.iload 6, 2) := by decide +kernel
theorem dX5_turnAllBack_91 : decode cX5_turnAllBack 91 = .ok (.aload_n 2, 1) := by decide +kernel
theorem dX5_turnAllBack_92 : decode cX5_turnAllBack 92 = .ok (.iload 7, 2) := by decide +kernel
theorem dX5_turnAllBack_94 : decode cX5_turnAllBack 94 = .ok (.iaload, 1) := by decide +kernel
theorem dX5_turnAllBack_95 : decode cX5_turnAllBack 95 = .ok (.iadd, 1) := by decide +kernel
theorem dX5_turnAllBack_96 : decode cX5_turnAllBack 96 = .ok (.laload, 1) := by decide +kernel
theorem dX5_turnAllBack_97 : decode cX5_turnAllBack 97 = .ok (.lstore 8, 2) := by decide +kernel
theorem dX5_turnAllBack_99 : decode cX5_turnAllBack 99 = .ok (.aload_n 3, 1) := by decide +kernel
theorem dX5_turnAllBack_100 : decode cX5_turnAllBack 100 = .ok (.iload 7, 2) := by decide +kernel
theorem dX5_turnAllBack_102 : decode cX5_turnAllBack 102 = .ok (.iaload, 1) := by decide +kernel
theorem dX5_turnAllBack_103 : decode cX5_turnAllBack 103 = .ok (.ldc 51, 2) := by decide +kernel
theorem dX5_turnAllBack_105 : decode cX5_turnAllBack 105 = .ok (.if_icmp .eq 35, 3) := by decide +kernel
theorem dX5_turnAllBack_108 : decode cX5_turnAllBack 108 = .ok (.aload_n 0, 1) := by decide +kernel
theorem dX5_turnAllBack_109 : decode cX5_turnAllBack 109 = .ok (.getfield 45, 3) := by decide +kernel
theorem dX5_turnAllBack_112 : decode cX5_turnAllBack 112 = .ok (.iload 6, 2) := by decide +kernel
theorem dX5_turnAllBack_114 : decode cX5_turnAllBack 114 = .ok (.aload_n 3, 1) := by decide +kernel
theorem dX5_turnAllBack_115 : decode cX5_turnAllBack 115 = .ok (.iload 7, 2) := by decide +kernel
theorem dX5_turnAllBack_117 : decode cX5_turnAllBack 117 = .ok (.iaload, 1) := by decide +kernel
theorem dX5_turnAllBack_118 : decode cX5_turnAllBack 118 = .ok (.iadd, 1) := by decide +kernel
theorem dX5_turnAllBack_119 : decode cX5_turnAllBack 119 = .ok (.laload, 1) := by decide +kernel
theorem dX5_turnAllBack_120 : decode cX5_turnAllBack 120 = .ok (.lload 8, 2) := by decide +kernel
theorem dX5_turnAllBack_122 : decode cX5_turnAllBack 122 = .ok (.lcmp, 1) := by decide +kernel
theorem dX5_turnAllBack_123 : decode cX5_turnAllBack 123 = .ok (.ifCond .ge 17, 3) := by decide +kernel
theorem dX5_turnAllBack_126 : decode cX5_turnAllBack 126 = .ok (.aload_n 0, 1) := by decide +kernel
theorem dX5_turnAllBack_127 : decode cX5_turnAllBack 127 = .ok (.getfield 45, 3) := by decide +kernel
theorem dX5_turnAllBack_130 : decode cX5_turnAllBack 130 = .ok (.iload 6, 2) := by decide +kernel
theorem dX5_turnAllBack_132 : decode cX5_turnAllBack 132 = .ok (.aload_n 3, 1) := by decide +kernel
theorem dX5_turnAllBack_133 : decode cX5_turnAllBack 133 = .ok (.iload 7, 2) := by decide +kernel
theorem dX5_turnAllBack_135 : decode cX5_turnAllBack 135 = .ok (.iaload, 1) := by decide +kernel
theorem dX5_turnAllBack_136 : decode cX5_turnAllBack 136 = .ok (.iadd, 1) := by decide +kernel
theorem dX5_turnAllBack_137 : decode cX5_turnAllBack 137 = .ok (.laload, 1) := by decide +kernel
theorem dX5_turnAllBack_138 : decode cX5_turnAllBack 138 = .ok (.lstore 8, 2) := by decide +kernel
theorem dX5_turnAllBack_140 : decode cX5_turnAllBack 140 = .ok (.aload_n 0, 1) := by decide +kernel
theorem dX5_turnAllBack_141 : decode cX5_turnAllBack 141 = .ok (.getfield 48, 3) := by decide +kernel
theorem dX5_turnAllBack_144 : decode cX5_turnAllBack 144 = .ok (.iload 6, 2) := by decide +kernel
theorem dX5_turnAllBack_146 : decode cX5_turnAllBack 146 = .ok (.lload 8, 2) := by decide +kernel
theorem dX5_turnAllBack_148 : decode cX5_turnAllBack 148 = .ok (.lastore, 1) := by decide +kernel
theorem dX5_turnAllBack_149 : decode cX5_turnAllBack 149 = .ok (.iinc 6 1, 3) := by decide +kernel
theorem dX5_turnAllBack_152 : decode cX5_turnAllBack 152 = .ok (.goto (-101), 3) := by decide +kernel
theorem dX5_turnAllBack_155 : decode cX5_turnAllBack 155 = .ok (.aload_n 0, 1) := by decide +kernel
theorem dX5_turnAllBack_156 : decode cX5_turnAllBack 156 = .ok (.getfield 45, 3) := by decide +kernel
theorem dX5_turnAllBack_159 : decode cX5_turnAllBack 159 = .ok (.astore 6, 2) := by decide +kernel
theorem dX5_turnAllBack_161 : decode cX5_turnAllBack 161 = .ok (.aload_n 0, 1) := by decide +kernel
theorem dX5_turnAllBack_162 : decode cX5_turnAllBack 162 = .ok (.aload_n 0, 1) := by decide +kernel
theorem dX5_turnAllBack_163 : decode cX5_turnAllBack 163 = .ok (.getfield 48, 3) := by decide +kernel
theorem dX5_turnAllBack_166 : decode cX5_turnAllBack 166 = .ok (.putfield 45, 3) := by decide +kernel
theorem dX5_turnAllBack_169 : decode cX5_turnAllBack 169 = .ok (.aload_n 0, 1) := by decide +kernel
theorem dX5_turnAllBack_170 : decode cX5_turnAllBack 170 = .ok (.aload 6, 2) := by decide +kernel
theorem dX5_turnAllBack_172 : decode cX5_turnAllBack 172 = .ok (.putfield 48, 3) := by decide +kernel
theorem dX5_turnAllBack_175 : decode cX5_turnAllBack 175 = .ok (.iinc 1 1, 3) := by decide +kernel
theorem dX5_turnAllBack_178 : decode cX5_turnAllBack 178 = .ok (.goto (-176), 3) := by decide +kernel
theorem dX5_turnAllBack_181 : decode cX5_turnAllBack 181 = .ok (.return_, 1) := by decide +kernel
theorem dX5_layStates_0 : decode cX5_layStates 0 = .ok (.aload_n 0, 1) := by decide +kernel
theorem dX5_layStates_1 : decode cX5_layStates 1 = .ok (.aload_n 1, 1) := by decide +kernel
theorem dX5_layStates_2 : decode cX5_layStates 2 = .ok (.getfield 132, 3) := by decide +kernel
theorem dX5_layStates_5 : decode cX5_layStates 5 = .ok (.putfield 125, 3) := by decide +kernel
theorem dX5_layStates_8 : decode cX5_layStates 8 = .ok (.aload_n 0, 1) := by decide +kernel
theorem dX5_layStates_9 : decode cX5_layStates 9 = .ok (.iconst 1, 1) := by decide +kernel
theorem dX5_layStates_10 : decode cX5_layStates 10 = .ok (.putfield 75, 3) := by decide +kernel
theorem dX5_layStates_13 : decode cX5_layStates 13 = .ok (.aload_n 0, 1) := by decide +kernel
theorem dX5_layStates_14 : decode cX5_layStates 14 = .ok (.iconst 1, 1) := by decide +kernel
theorem dX5_layStates_15 : decode cX5_layStates 15 = .ok (.putfield 98, 3) := by decide +kernel
theorem dX5_layStates_18 : decode cX5_layStates 18 = .ok (.aload_n 0, 1) := by decide +kernel
theorem dX5_layStates_19 : decode cX5_layStates 19 = .ok (.getfield 25, 3) := by decide +kernel
theorem dX5_layStates_22 : decode cX5_layStates 22 = .ok (.iconst 0, 1) := by decide +kernel
theorem dX5_layStates_23 : decode cX5_layStates 23 = .ok (.iconst 0, 1) := by decide +kernel
theorem dX5_layStates_24 : decode cX5_layStates 24 = .ok (.iastore, 1) := by decide +kernel
theorem dX5_layStates_25 : decode cX5_layStates 25 = .ok (.iconst 0, 1) := by decide +kernel
theorem dX5_layStates_26 : decode cX5_layStates 26 = .ok (.istore_n 3, 1) := by decide +kernel
theorem dX5_layStates_27 : decode cX5_layStates 27 = .ok (.iload_n 3, 1) := by decide +kernel
theorem dX5_layStates_28 : decode cX5_layStates 28 = .ok (.aload_n 0, 1) := by decide +kernel
theorem dX5_layStates_29 : decode cX5_layStates 29 = .ok (.getfield 125, 3) := by decide +kernel
theorem dX5_layStates_32 : decode cX5_layStates 32 = .ok (.if_icmp .ge 94, 3) := by decide +kernel
theorem dX5_layStates_35 : decode cX5_layStates 35 = .ok (.aload_n 0, 1) := by decide +kernel
theorem dX5_layStates_36 : decode cX5_layStates 36 = .ok (.getfield 31, 3) := by decide +kernel
theorem dX5_layStates_39 : decode cX5_layStates 39 = .ok (.iload_n 3, 1) := by decide +kernel
theorem dX5_layStates_40 : decode cX5_layStates 40 = .ok (.aload_n 0, 1) := by decide +kernel
theorem dX5_layStates_41 : decode cX5_layStates 41 = .ok (.getfield 75, 3) := by decide +kernel
theorem dX5_layStates_44 : decode cX5_layStates 44 = .ok (.iastore, 1) := by decide +kernel
theorem dX5_layStates_45 : decode cX5_layStates 45 = .ok (.iload_n 3, 1) := by decide +kernel
theorem dX5_layStates_46 : decode cX5_layStates 46 = .ok (.iload_n 2, 1) := by decide +kernel
theorem dX5_layStates_47 : decode cX5_layStates 47 = .ok (.if_icmp .ne 12, 3) := by decide +kernel
theorem dX5_layStates_50 : decode cX5_layStates 50 = .ok (.aload_n 0, 1) := by decide +kernel
theorem dX5_layStates_51 : decode cX5_layStates 51 = .ok (.iload_n 3, 1) := by decide +kernel
theorem dX5_layStates_52 : decode cX5_layStates 52 = .ok (.iconst 0, 1) := by decide +kernel
theorem dX5_layStates_53 : decode cX5_layStates 53 = .ok (.invokevirtual 133, 3) := by decide +kernel
theorem dX5_layStates_56 : decode cX5_layStates 56 = .ok (.goto 39, 3) := by decide +kernel
theorem dX5_layStates_59 : decode cX5_layStates 59 = .ok (.aload_n 1, 1) := by decide +kernel
theorem dX5_layStates_60 : decode cX5_layStates 60 = .ok (.getfield 137, 3) := by decide +kernel
theorem dX5_layStates_63 : decode cX5_layStates 63 = .ok (.iload_n 3, 1) := by decide +kernel
theorem dX5_layStates_64 : decode cX5_layStates 64 = .ok (.iaload, 1) := by decide +kernel
theorem dX5_layStates_65 : decode cX5_layStates 65 = .ok (.iconst 5, 1) := by decide +kernel
theorem dX5_layStates_66 : decode cX5_layStates 66 = .ok (.if_icmp .ne 12, 3) := by decide +kernel
theorem dX5_layStates_69 : decode cX5_layStates 69 = .ok (.aload_n 0, 1) := by decide +kernel
theorem dX5_layStates_70 : decode cX5_layStates 70 = .ok (.iload_n 3, 1) := by decide +kernel
theorem dX5_layStates_71 : decode cX5_layStates 71 = .ok (.iconst 1, 1) := by decide +kernel
theorem dX5_layStates_72 : decode cX5_layStates 72 = .ok (.invokevirtual 133, 3) := by decide +kernel
theorem dX5_layStates_75 : decode cX5_layStates 75 = .ok (.goto 20, 3) := by decide +kernel
theorem dX5_layStates_78 : decode cX5_layStates 78 = .ok (.aload_n 0, 1) := by decide +kernel
theorem dX5_layStates_79 : decode cX5_layStates 79 = .ok (.iload_n 3, 1) := by decide +kernel
theorem dX5_layStates_80 : decode cX5_layStates 80 = .ok (.aload_n 1, 1) := by decide +kernel
theorem dX5_layStates_81 : decode cX5_layStates 81 = .ok (.getfield 140, 3) := by decide +kernel
theorem dX5_layStates_84 : decode cX5_layStates 84 = .ok (.iload_n 3, 1) := by decide +kernel
theorem dX5_layStates_85 : decode cX5_layStates 85 = .ok (.iaload, 1) := by decide +kernel
theorem dX5_layStates_86 : decode cX5_layStates 86 = .ok (.aload_n 1, 1) := by decide +kernel
theorem dX5_layStates_87 : decode cX5_layStates 87 = .ok (.getfield 143, 3) := by decide +kernel
theorem dX5_layStates_90 : decode cX5_layStates 90 = .ok (.iload_n 3, 1) := by decide +kernel
theorem dX5_layStates_91 : decode cX5_layStates 91 = .ok (.iaload, 1) := by decide +kernel
theorem dX5_layStates_92 : decode cX5_layStates 92 = .ok (.invokevirtual 146, 3) := by decide +kernel
theorem dX5_layStates_95 : decode cX5_layStates 95 = .ok (.aload_n 0, 1) := by decide +kernel
theorem dX5_layStates_96 : decode cX5_layStates 96 = .ok (.dup, 1) := by decide +kernel
theorem dX5_layStates_97 : decode cX5_layStates 97 = .ok (.getfield 75, 3) := by decide +kernel
theorem dX5_layStates_100 : decode cX5_layStates 100 = .ok (.aload_n 0, 1) := by decide +kernel
theorem dX5_layStates_101 : decode cX5_layStates 101 = .ok (.getfield 28, 3) := by decide +kernel
theorem dX5_layStates_104 : decode cX5_layStates 104 = .ok (.iload_n 3, 1) := by decide +kernel
theorem dX5_layStates_105 : decode cX5_layStates 105 = .ok (.iaload, 1) := by decide +kernel
theorem dX5_layStates_106 : decode cX5_layStates 106 = .ok (.imul, 1) := by decide +kernel
theorem dX5_layStates_107 : decode cX5_layStates 107 = .ok (.putfield 75, 3) := by decide +kernel
theorem dX5_layStates_110 : decode cX5_layStates 110 = .ok (.aload_n 0, 1) := by decide +kernel
theorem dX5_layStates_111 : decode cX5_layStates 111 = .ok (.dup, 1) := by decide +kernel
theorem dX5_layStates_112 : decode cX5_layStates 112 = .ok (.getfield 98, 3) := by decide +kernel
theorem dX5_layStates_115 : decode cX5_layStates 115 = .ok (.iconst 3, 1) := by decide +kernel
theorem dX5_layStates_116 : decode cX5_layStates 116 = .ok (.imul, 1) := by decide +kernel
theorem dX5_layStates_117 : decode cX5_layStates 117 = .ok (.putfield 98, 3) := by decide +kernel
theorem dX5_layStates_120 : decode cX5_layStates 120 = .ok (.iinc 3 1, 3) := by decide +kernel
theorem dX5_layStates_123 : decode cX5_layStates 123 = .ok (.goto (-96), 3) := by decide +kernel
theorem dX5_layStates_126 : decode cX5_layStates 126 = .ok (.return_, 1) := by decide +kernel
theorem dX5_layOnlyState_0 : decode cX5_layOnlyState 0 = .ok (.aload_n 0, 1) := by decide +kernel
theorem dX5_layOnlyState_1 : decode cX5_layOnlyState 1 = .ok (.getfield 28, 3) := by decide +kernel
theorem dX5_layOnlyState_4 : decode cX5_layOnlyState 4 = .ok (.iload_n 1, 1) := by decide +kernel
theorem dX5_layOnlyState_5 : decode cX5_layOnlyState 5 = .ok (.iconst 1, 1) := by decide +kernel
theorem dX5_layOnlyState_6 : decode cX5_layOnlyState 6 = .ok (.iastore, 1) := by decide +kernel
theorem dX5_layOnlyState_7 : decode cX5_layOnlyState 7 = .ok (.aload_n 0, 1) := by decide +kernel
theorem dX5_layOnlyState_8 : decode cX5_layOnlyState 8 = .ok (.getfield 36, 3) := by decide +kernel
theorem dX5_layOnlyState_11 : decode cX5_layOnlyState 11 = .ok (.iload_n 1, 1) := by decide +kernel
theorem dX5_layOnlyState_12 : decode cX5_layOnlyState 12 = .ok (.aaload, 1) := by decide +kernel
theorem dX5_layOnlyState_13 : decode cX5_layOnlyState 13 = .ok (.iconst 0, 1) := by decide +kernel
theorem dX5_layOnlyState_14 : decode cX5_layOnlyState 14 = .ok (.iload_n 2, 1) := by decide +kernel
theorem dX5_layOnlyState_15 : decode cX5_layOnlyState 15 = .ok (.ifCond .ne 7, 3) := by decide +kernel
theorem dX5_layOnlyState_18 : decode cX5_layOnlyState 18 = .ok (.iconst 0, 1) := by decide +kernel
theorem dX5_layOnlyState_19 : decode cX5_layOnlyState 19 = .ok (.goto 5, 3) := by decide +kernel
theorem dX5_layOnlyState_22 : decode cX5_layOnlyState 22 = .ok (.ldc 51, 2) := by decide +kernel
theorem dX5_layOnlyState_24 : decode cX5_layOnlyState 24 = .ok (.iastore, 1) := by decide +kernel
theorem dX5_layOnlyState_25 : decode cX5_layOnlyState 25 = .ok (.aload_n 0, 1) := by decide +kernel
theorem dX5_layOnlyState_26 : decode cX5_layOnlyState 26 = .ok (.getfield 39, 3) := by decide +kernel
theorem dX5_layOnlyState_29 : decode cX5_layOnlyState 29 = .ok (.iload_n 1, 1) := by decide +kernel
theorem dX5_layOnlyState_30 : decode cX5_layOnlyState 30 = .ok (.aaload, 1) := by decide +kernel
theorem dX5_layOnlyState_31 : decode cX5_layOnlyState 31 = .ok (.iconst 0, 1) := by decide +kernel
theorem dX5_layOnlyState_32 : decode cX5_layOnlyState 32 = .ok (.iload_n 2, 1) := by decide +kernel
theorem dX5_layOnlyState_33 : decode cX5_layOnlyState 33 = .ok (.ifCond .ne 8, 3) := by decide +kernel
theorem dX5_layOnlyState_36 : decode cX5_layOnlyState 36 = .ok (.ldc 51, 2) := by decide +kernel
theorem dX5_layOnlyState_38 : decode cX5_layOnlyState 38 = .ok (.goto 4, 3) := by decide +kernel
theorem dX5_layOnlyState_41 : decode cX5_layOnlyState 41 = .ok (.iconst 0, 1) := by decide +kernel
theorem dX5_layOnlyState_42 : decode cX5_layOnlyState 42 = .ok (.iastore, 1) := by decide +kernel
theorem dX5_layOnlyState_43 : decode cX5_layOnlyState 43 = .ok (.aload_n 0, 1) := by decide +kernel
theorem dX5_layOnlyState_44 : decode cX5_layOnlyState 44 = .ok (.iconst 0, 1) := by decide +kernel
theorem dX5_layOnlyState_45 : decode cX5_layOnlyState 45 = .ok (.iload_n 2, 1) := by decide +kernel
theorem dX5_layOnlyState_46 : decode cX5_layOnlyState 46 = .ok (.invokevirtual 150, 3) := by decide +kernel
theorem dX5_layOnlyState_49 : decode cX5_layOnlyState 49 = .ok (.return_, 1) := by decide +kernel
theorem dX5_layUnitStates_0 : decode cX5_layUnitStates 0 = .ok (.iload_n 2, 1) := by decide +kernel
theorem dX5_layUnitStates_1 : decode cX5_layUnitStates 1 = .ok (.iconst 2, 1) := by decide +kernel
theorem dX5_layUnitStates_2 : decode cX5_layUnitStates 2 = .ok (.invokestatic 128, 3) := by decide +kernel
theorem dX5_layUnitStates_5 : decode cX5_layUnitStates 5 = .ok (.istore 4, 2) := by decide +kernel
theorem dX5_layUnitStates_7 : decode cX5_layUnitStates 7 = .ok (.aload_n 0, 1) := by decide +kernel
theorem dX5_layUnitStates_8 : decode cX5_layUnitStates 8 = .ok (.getfield 28, 3) := by decide +kernel
theorem dX5_layUnitStates_11 : decode cX5_layUnitStates 11 = .ok (.iload_n 1, 1) := by decide +kernel
theorem dX5_layUnitStates_12 : decode cX5_layUnitStates 12 = .ok (.iload_n 3, 1) := by decide +kernel
theorem dX5_layUnitStates_13 : decode cX5_layUnitStates 13 = .ok (.iload 4, 2) := by decide +kernel
theorem dX5_layUnitStates_15 : decode cX5_layUnitStates 15 = .ok (.iadd, 1) := by decide +kernel
theorem dX5_layUnitStates_16 : decode cX5_layUnitStates 16 = .ok (.iastore, 1) := by decide +kernel
theorem dX5_layUnitStates_17 : decode cX5_layUnitStates 17 = .ok (.iload 4, 2) := by decide +kernel
theorem dX5_layUnitStates_19 : decode cX5_layUnitStates 19 = .ok (.iconst 1, 1) := by decide +kernel
theorem dX5_layUnitStates_20 : decode cX5_layUnitStates 20 = .ok (.isub, 1) := by decide +kernel
theorem dX5_layUnitStates_21 : decode cX5_layUnitStates 21 = .ok (.istore 5, 2) := by decide +kernel
theorem dX5_layUnitStates_23 : decode cX5_layUnitStates 23 = .ok (.iload 5, 2) := by decide +kernel
theorem dX5_layUnitStates_25 : decode cX5_layUnitStates 25 = .ok (.ifCond .lt 92, 3) := by decide +kernel
theorem dX5_layUnitStates_28 : decode cX5_layUnitStates 28 = .ok (.iload_n 3, 1) := by decide +kernel
theorem dX5_layUnitStates_29 : decode cX5_layUnitStates 29 = .ok (.iload 5, 2) := by decide +kernel
theorem dX5_layUnitStates_31 : decode cX5_layUnitStates 31 = .ok (.iadd, 1) := by decide +kernel
theorem dX5_layUnitStates_32 : decode cX5_layUnitStates 32 = .ok (.istore 6, 2) := by decide +kernel
theorem dX5_layUnitStates_34 : decode cX5_layUnitStates 34 = .ok (.aload_n 0, 1) := by decide +kernel
theorem dX5_layUnitStates_35 : decode cX5_layUnitStates 35 = .ok (.getfield 39, 3) := by decide +kernel
theorem dX5_layUnitStates_38 : decode cX5_layUnitStates 38 = .ok (.iload_n 1, 1) := by decide +kernel
theorem dX5_layUnitStates_39 : decode cX5_layUnitStates 39 = .ok (.aaload, 1) := by decide +kernel
theorem dX5_layUnitStates_40 : decode cX5_layUnitStates 40 = .ok (.iload 6, 2) := by decide +kernel
theorem dX5_layUnitStates_42 : decode cX5_layUnitStates 42 = .ok (.iload 5, 2) := by decide +kernel
theorem dX5_layUnitStates_44 : decode cX5_layUnitStates 44 = .ok (.iload 4, 2) := by decide +kernel
theorem dX5_layUnitStates_46 : decode cX5_layUnitStates 46 = .ok (.iconst 1, 1) := by decide +kernel
theorem dX5_layUnitStates_47 : decode cX5_layUnitStates 47 = .ok (.isub, 1) := by decide +kernel
theorem dX5_layUnitStates_48 : decode cX5_layUnitStates 48 = .ok (.if_icmp .ge 7, 3) := by decide +kernel
theorem dX5_layUnitStates_51 : decode cX5_layUnitStates 51 = .ok (.iconst 1, 1) := by decide +kernel
theorem dX5_layUnitStates_52 : decode cX5_layUnitStates 52 = .ok (.goto 4, 3) := by decide +kernel
theorem dX5_layUnitStates_55 : decode cX5_layUnitStates 55 = .ok (.iconst 0, 1) := by decide +kernel
theorem dX5_layUnitStates_56 : decode cX5_layUnitStates 56 = .ok (.aload_n 0, 1) := by decide +kernel
theorem dX5_layUnitStates_57 : decode cX5_layUnitStates 57 = .ok (.getfield 75, 3) := by decide +kernel
theorem dX5_layUnitStates_60 : decode cX5_layUnitStates 60 = .ok (.imul, 1) := by decide +kernel
theorem dX5_layUnitStates_61 : decode cX5_layUnitStates 61 = .ok (.iastore, 1) := by decide +kernel
theorem dX5_layUnitStates_62 : decode cX5_layUnitStates 62 = .ok (.aload_n 0, 1) := by decide +kernel
theorem dX5_layUnitStates_63 : decode cX5_layUnitStates 63 = .ok (.getfield 36, 3) := by decide +kernel
theorem dX5_layUnitStates_66 : decode cX5_layUnitStates 66 = .ok (.iload_n 1, 1) := by decide +kernel
theorem dX5_layUnitStates_67 : decode cX5_layUnitStates 67 = .ok (.aaload, 1) := by decide +kernel
theorem dX5_layUnitStates_68 : decode cX5_layUnitStates 68 = .ok (.iload 6, 2) := by decide +kernel
theorem dX5_layUnitStates_70 : decode cX5_layUnitStates 70 = .ok (.iload 5, 2) := by decide +kernel
theorem dX5_layUnitStates_72 : decode cX5_layUnitStates 72 = .ok (.iconst 1, 1) := by decide +kernel
theorem dX5_layUnitStates_73 : decode cX5_layUnitStates 73 = .ok (.iadd, 1) := by decide +kernel
theorem dX5_layUnitStates_74 : decode cX5_layUnitStates 74 = .ok (.iload_n 2, 1) := by decide +kernel
theorem dX5_layUnitStates_75 : decode cX5_layUnitStates 75 = .ok (.if_icmp .ge 8, 3) := by decide +kernel
theorem dX5_layUnitStates_78 : decode cX5_layUnitStates 78 = .ok (.ldc 51, 2) := by decide +kernel
theorem dX5_layUnitStates_80 : decode cX5_layUnitStates 80 = .ok (.goto 14, 3) := by decide +kernel
theorem dX5_layUnitStates_83 : decode cX5_layUnitStates 83 = .ok (.iload_n 3, 1) := by decide +kernel
theorem dX5_layUnitStates_84 : decode cX5_layUnitStates 84 = .ok (.iconst 1, 1) := by decide +kernel
theorem dX5_layUnitStates_85 : decode cX5_layUnitStates 85 = .ok (.isub, 1) := by decide +kernel
theorem dX5_layUnitStates_86 : decode cX5_layUnitStates 86 = .ok (.iload 6, 2) := by decide +kernel
theorem dX5_layUnitStates_88 : decode cX5_layUnitStates 88 = .ok (.isub, 1) := by decide +kernel
theorem dX5_layUnitStates_89 : decode cX5_layUnitStates 89 = .ok (.aload_n 0, 1) := by decide +kernel
theorem dX5_layUnitStates_90 : decode cX5_layUnitStates 90 = .ok (.getfield 75, 3) := by decide +kernel
theorem dX5_layUnitStates_93 : decode cX5_layUnitStates 93 = .ok (.imul, 1) := by decide +kernel
theorem dX5_layUnitStates_94 : decode cX5_layUnitStates 94 = .ok (.iastore, 1) := by decide +kernel
theorem dX5_layUnitStates_95 : decode cX5_layUnitStates 95 = .ok (.aload_n 0, 1) := by decide +kernel
theorem dX5_layUnitStates_96 : decode cX5_layUnitStates 96 = .ok (.iload 6, 2) := by decide +kernel
theorem dX5_layUnitStates_98 : decode cX5_layUnitStates 98 = .ok (.iload 5, 2) := by decide +kernel
theorem dX5_layUnitStates_100 : decode cX5_layUnitStates 100 = .ok (.ifCond .ne 7, 3) := by decide +kernel
theorem dX5_layUnitStates_103 : decode cX5_layUnitStates 103 = .ok (.iconst 2, 1) := by decide +kernel
theorem dX5_layUnitStates_104 : decode cX5_layUnitStates 104 = .ok (.goto 4, 3) := by decide +kernel
theorem dX5_layUnitStates_107 : decode cX5_layUnitStates 107 = .ok (.iconst 1, 1) := by decide +kernel
theorem dX5_layUnitStates_108 : decode cX5_layUnitStates 108 = .ok (.invokevirtual 150, 3) := by decide +kernel
theorem dX5_layUnitStates_111 : decode cX5_layUnitStates 111 = .ok (.iinc 5 (-1), 3) := by decide +kernel
theorem dX5_layUnitStates_114 : decode cX5_layUnitStates 114 = .ok (.goto (-91), 3) := by decide +kernel
theorem dX5_layUnitStates_117 : decode cX5_layUnitStates 117 = .ok (.iload_n 3, 1) := by decide +kernel
theorem dX5_layUnitStates_118 : decode cX5_layUnitStates 118 = .ok (.iconst 1, 1) := by decide +kernel
theorem dX5_layUnitStates_119 : decode cX5_layUnitStates 119 = .ok (.isub, 1) := by decide +kernel
theorem dX5_layUnitStates_120 : decode cX5_layUnitStates 120 = .ok (.istore 5, 2) := by decide +kernel
theorem dX5_layUnitStates_122 : decode cX5_layUnitStates 122 = .ok (.iload 5, 2) := by decide +kernel
theorem dX5_layUnitStates_124 : decode cX5_layUnitStates 124 = .ok (.ifCond .lt 64, 3) := by decide +kernel
theorem dX5_layUnitStates_127 : decode cX5_layUnitStates 127 = .ok (.aload_n 0, 1) := by decide +kernel
theorem dX5_layUnitStates_128 : decode cX5_layUnitStates 128 = .ok (.getfield 36, 3) := by decide +kernel
theorem dX5_layUnitStates_131 : decode cX5_layUnitStates 131 = .ok (.iload_n 1, 1) := by decide +kernel
theorem dX5_layUnitStates_132 : decode cX5_layUnitStates 132 = .ok (.aaload, 1) := by decide +kernel
theorem dX5_layUnitStates_133 : decode cX5_layUnitStates 133 = .ok (.iload 5, 2) := by decide +kernel
theorem dX5_layUnitStates_135 : decode cX5_layUnitStates 135 = .ok (.iload 5, 2) := by decide +kernel
theorem dX5_layUnitStates_137 : decode cX5_layUnitStates 137 = .ok (.ifCond .le 11, 3) := by decide +kernel
theorem dX5_layUnitStates_140 : decode cX5_layUnitStates 140 = .ok (.aload_n 0, 1) := by decide +kernel
theorem dX5_layUnitStates_141 : decode cX5_layUnitStates 141 = .ok (.getfield 75, 3) := by decide +kernel
theorem dX5_layUnitStates_144 : decode cX5_layUnitStates 144 = .ok (.ineg, 1) := by decide +kernel
theorem dX5_layUnitStates_145 : decode cX5_layUnitStates 145 = .ok (.goto 4, 3) := by decide +kernel
theorem dX5_layUnitStates_148 : decode cX5_layUnitStates 148 = .ok (.iconst 0, 1) := by decide +kernel
theorem dX5_layUnitStates_149 : decode cX5_layUnitStates 149 = .ok (.iastore, 1) := by decide +kernel
theorem dX5_layUnitStates_150 : decode cX5_layUnitStates 150 = .ok (.aload_n 0, 1) := by decide +kernel
theorem dX5_layUnitStates_151 : decode cX5_layUnitStates 151 = .ok (.getfield 39, 3) := by decide +kernel
theorem dX5_layUnitStates_154 : decode cX5_layUnitStates 154 = .ok (.iload_n 1, 1) := by decide +kernel
theorem dX5_layUnitStates_155 : decode cX5_layUnitStates 155 = .ok (.aaload, 1) := by decide +kernel
theorem dX5_layUnitStates_156 : decode cX5_layUnitStates 156 = .ok (.iload 5, 2) := by decide +kernel
theorem dX5_layUnitStates_158 : decode cX5_layUnitStates 158 = .ok (.iload 5, 2) := by decide +kernel
theorem dX5_layUnitStates_160 : decode cX5_layUnitStates 160 = .ok (.ifCond .le 8, 3) := by decide +kernel
theorem dX5_layUnitStates_163 : decode cX5_layUnitStates 163 = .ok (.ldc 51, 2) := by decide +kernel
theorem dX5_layUnitStates_165 : decode cX5_layUnitStates 165 = .ok (.goto 9, 3) := by decide +kernel
theorem dX5_layUnitStates_168 : decode cX5_layUnitStates 168 = .ok (.iload_n 3, 1) := by decide +kernel
theorem dX5_layUnitStates_169 : decode cX5_layUnitStates 169 = .ok (.aload_n 0, 1) := by decide +kernel
theorem dX5_layUnitStates_170 : decode cX5_layUnitStates 170 = .ok (.getfield 75, 3) := by decide +kernel
theorem dX5_layUnitStates_173 : decode cX5_layUnitStates 173 = .ok (.imul, 1) := by decide +kernel
theorem dX5_layUnitStates_174 : decode cX5_layUnitStates 174 = .ok (.iastore, 1) := by decide +kernel
theorem dX5_layUnitStates_175 : decode cX5_layUnitStates 175 = .ok (.aload_n 0, 1) := by decide +kernel
theorem dX5_layUnitStates_176 : decode cX5_layUnitStates 176 = .ok (.iload 5, 2) := by decide +kernel
theorem dX5_layUnitStates_178 : decode cX5_layUnitStates 178 = .ok (.iconst 0, 1) := by decide +kernel
theorem dX5_layUnitStates_179 : decode cX5_layUnitStates 179 = .ok (.invokevirtual 150, 3) := by decide +kernel
theorem dX5_layUnitStates_182 : decode cX5_layUnitStates 182 = .ok (.iinc 5 (-1), 3) := by decide +kernel
theorem dX5_layUnitStates_185 : decode cX5_layUnitStates 185 = .ok (.goto (-63), 3) := by decide +kernel
theorem dX5_layUnitStates_188 : decode cX5_layUnitStates 188 = .ok (.return_, 1) := by decide +kernel
theorem dX5_layCombos_0 : decode cX5_layCombos 0 = .ok (.iconst 0, 1) := by decide +kernel
theorem dX5_layCombos_1 : decode cX5_layCombos 1 = .ok (.istore_n 3, 1) := by decide +kernel
theorem dX5_layCombos_2 : decode cX5_layCombos 2 = .ok (.iload_n 3, 1) := by decide +kernel
theorem dX5_layCombos_3 : decode cX5_layCombos 3 = .ok (.aload_n 0, 1) := by decide +kernel
theorem dX5_layCombos_4 : decode cX5_layCombos 4 = .ok (.getfield 75, 3) := by decide +kernel
theorem dX5_layCombos_7 : decode cX5_layCombos 7 = .ok (.if_icmp .ge 35, 3) := by decide +kernel
theorem dX5_layCombos_10 : decode cX5_layCombos 10 = .ok (.aload_n 0, 1) := by decide +kernel
theorem dX5_layCombos_11 : decode cX5_layCombos 11 = .ok (.getfield 25, 3) := by decide +kernel
theorem dX5_layCombos_14 : decode cX5_layCombos 14 = .ok (.iload_n 1, 1) := by decide +kernel
theorem dX5_layCombos_15 : decode cX5_layCombos 15 = .ok (.aload_n 0, 1) := by decide +kernel
theorem dX5_layCombos_16 : decode cX5_layCombos 16 = .ok (.getfield 75, 3) := by decide +kernel
theorem dX5_layCombos_19 : decode cX5_layCombos 19 = .ok (.imul, 1) := by decide +kernel
theorem dX5_layCombos_20 : decode cX5_layCombos 20 = .ok (.iload_n 3, 1) := by decide +kernel
theorem dX5_layCombos_21 : decode cX5_layCombos 21 = .ok (.iadd, 1) := by decide +kernel
theorem dX5_layCombos_22 : decode cX5_layCombos 22 = .ok (.aload_n 0, 1) := by decide +kernel
theorem dX5_layCombos_23 : decode cX5_layCombos 23 = .ok (.getfield 25, 3) := by decide +kernel
theorem dX5_layCombos_26 : decode cX5_layCombos 26 = .ok (.iload_n 3, 1) := by decide +kernel
theorem dX5_layCombos_27 : decode cX5_layCombos 27 = .ok (.iaload, 1) := by decide +kernel
theorem dX5_layCombos_28 : decode cX5_layCombos 28 = .ok (.iload_n 2, 1) := by decide +kernel
theorem dX5_layCombos_29 : decode cX5_layCombos 29 = .ok (.aload_n 0, 1) := by decide +kernel
theorem dX5_layCombos_30 : decode cX5_layCombos 30 = .ok (.getfield 98, 3) := by decide +kernel
theorem dX5_layCombos_33 : decode cX5_layCombos 33 = .ok (.imul, 1) := by decide +kernel
theorem dX5_layCombos_34 : decode cX5_layCombos 34 = .ok (.iadd, 1) := by decide +kernel
theorem dX5_layCombos_35 : decode cX5_layCombos 35 = .ok (.iastore, 1) := by decide +kernel
theorem dX5_layCombos_36 : decode cX5_layCombos 36 = .ok (.iinc 3 1, 3) := by decide +kernel
theorem dX5_layCombos_39 : decode cX5_layCombos 39 = .ok (.goto (-37), 3) := by decide +kernel
theorem dX5_layCombos_42 : decode cX5_layCombos 42 = .ok (.return_, 1) := by decide +kernel
theorem dX7_init_0 : decode cX7_init 0 = .ok (.aload_n 0, 1) := by decide +kernel
theorem dX7_init_1 : decode cX7_init 1 = .ok (.invokespecial 1, 3) := by decide +kernel
theorem dX7_init_4 : decode cX7_init 4 = .ok (.aload_n 0, 1) := by decide +kernel
theorem dX7_init_5 : decode cX7_init 5 = .ok (.new 7, 3) := by decide +kernel
theorem dX7_init_8 : decode cX7_init 8 = .ok (.dup, 1) := by decide +kernel
theorem dX7_init_9 : decode cX7_init 9 = .ok (.invokespecial 9, 3) := by decide +kernel
theorem dX7_init_12 : decode cX7_init 12 = .ok (.putfield 10, 3) := by decide +kernel
theorem dX7_init_15 : decode cX7_init 15 = .ok (.aload_n 0, 1) := by decide +kernel
theorem dX7_init_16 : decode cX7_init 16 = .ok (.new 16, 3) := by decide +kernel
theorem dX7_init_19 : decode cX7_init 19 = .ok (.dup, 1) := by decide +kernel
theorem dX7_init_20 : decode cX7_init 20 = .ok (.invokespecial 18, 3) := by decide +kernel
theorem dX7_init_23 : decode cX7_init 23 = .ok (.putfield 19, 3) := by decide +kernel
theorem dX7_init_26 : decode cX7_init 26 = .ok (.aload_n 0, 1) := by decide +kernel
theorem dX7_init_27 : decode cX7_init 27 = .ok (.new 23, 3) := by decide +kernel
theorem dX7_init_30 : decode cX7_init 30 = .ok (.dup, 1) := by decide +kernel
theorem dX7_init_31 : decode cX7_init 31 = .ok (.invokespecial 25, 3) := by decide +kernel
theorem dX7_init_34 : decode cX7_init 34 = .ok (.putfield 26, 3) := by decide +kernel
theorem dX7_init_37 : decode cX7_init 37 = .ok (.aload_n 0, 1) := by decide +kernel
theorem dX7_init_38 : decode cX7_init 38 = .ok (.new 23, 3) := by decide +kernel
theorem dX7_init_41 : decode cX7_init 41 = .ok (.dup, 1) := by decide +kernel
theorem dX7_init_42 : decode cX7_init 42 = .ok (.invokespecial 25, 3) := by decide +kernel
theorem dX7_init_45 : decode cX7_init 45 = .ok (.putfield 30, 3) := by decide +kernel
theorem dX7_init_48 : decode cX7_init 48 = .ok (.aload_n 0, 1) := by decide +kernel
theorem dX7_init_49 : decode cX7_init 49 = .ok (.iconst 2, 1) := by decide +kernel
theorem dX7_init_50 : decode cX7_init 50 = .ok (.anewarray 23, 3) := by decide +kernel
theorem dX7_init_53 : decode cX7_init 53 = .ok (.putfield 33, 3) := by decide +kernel
theorem dX7_init_56 : decode cX7_init 56 = .ok (.iconst 0, 1) := by decide +kernel
theorem dX7_init_57 : decode cX7_init 57 = .ok (.istore_n 1, 1) := by decide +kernel
theorem dX7_init_58 : decode cX7_init 58 = .ok (.iload_n 1, 1) := by decide +kernel
theorem dX7_init_59 : decode cX7_init 59 = .ok (.iconst 2, 1) := by decide +kernel
theorem dX7_init_60 : decode cX7_init 60 = .ok (.if_icmp .ge 22, 3) := by decide +kernel
theorem dX7_init_63 : decode cX7_init 63 = .ok (.aload_n 0, 1) := by decide +kernel
theorem dX7_init_64 : decode cX7_init 64 = .ok (.getfield 33, 3) := by decide +kernel
theorem dX7_init_67 : decode cX7_init 67 = .ok (.iload_n 1, 1) := by decide +kernel
theorem dX7_init_68 : decode cX7_init 68 = .ok (.new 23, 3) := by decide +kernel
theorem dX7_init_71 : decode cX7_init 71 = .ok (.dup, 1) := by decide +kernel
theorem dX7_init_72 : decode cX7_init 72 = .ok (.invokespecial 25, 3) := by decide +kernel
theorem dX7_init_75 : decode cX7_init 75 = .ok (.aastore, 1) := by decide +kernel
theorem dX7_init_76 : decode cX7_init 76 = .ok (.iinc 1 1, 3) := by decide +kernel
theorem dX7_init_79 : decode cX7_init 79 = .ok (.goto (-21), 3) := by decide +kernel
theorem dX7_init_82 : decode cX7_init 82 = .ok (.aload_n 0, 1) := by decide +kernel
theorem dX7_init_83 : decode cX7_init 83 = .ok (.new 37, 3) := by decide +kernel
theorem dX7_init_86 : decode cX7_init 86 = .ok (.dup, 1) := by decide +kernel
theorem dX7_init_87 : decode cX7_init 87 = .ok (.invokespecial 39, 3) := by decide +kernel
theorem dX7_init_90 : decode cX7_init 90 = .ok (.putfield 40, 3) := by decide +kernel
theorem dX7_init_93 : decode cX7_init 93 = .ok (.aload_n 0, 1) := by decide +kernel
theorem dX7_init_94 : decode cX7_init 94 = .ok (.new 44, 3) := by decide +kernel
theorem dX7_init_97 : decode cX7_init 97 = .ok (.dup, 1) := by decide +kernel
theorem dX7_init_98 : decode cX7_init 98 = .ok (.invokespecial 46, 3) := by decide +kernel
theorem dX7_init_101 : decode cX7_init 101 = .ok (.putfield 47, 3) := by decide +kernel
theorem dX7_init_104 : decode cX7_init 104 = .ok (.aload_n 0, 1) := by decide +kernel
theorem dX7_init_105 : decode cX7_init 105 = .ok (.new 51, 3) := by decide +kernel
theorem dX7_init_108 : decode cX7_init 108 = .ok (.dup, 1) := by decide +kernel
theorem dX7_init_109 : decode cX7_init 109 = .ok (.invokespecial 53, 3) := by decide +kernel
theorem dX7_init_112 : decode cX7_init 112 = .ok (.putfield 54, 3) := by decide +kernel
theorem dX7_init_115 : decode cX7_init 115 = .ok (.aload_n 0, 1) := by decide +kernel
theorem dX7_init_116 : decode cX7_init 116 = .ok (.new 58, 3) := by decide +kernel
theorem dX7_init_119 : decode cX7_init 119 = .ok (.dup, 1) := by decide +kernel
theorem dX7_init_120 : decode cX7_init 120 = .ok (.invokespecial 60, 3) := by decide +kernel
theorem dX7_init_123 : decode cX7_init 123 = .ok (.putfield 61, 3) := by decide +kernel
theorem dX7_init_126 : decode cX7_init 126 = .ok (.return_, 1) := by decide +kernel
theorem dX7_row_0 : decode cX7_row 0 = .ok (.aload_n 0, 1) := by decide +kernel
theorem dX7_row_1 : decode cX7_row 1 = .ok (.iload_n 1, 1) := by decide +kernel
theorem dX7_row_2 : decode cX7_row 2 = .ok (.invokevirtual 65, 3) := by decide +kernel
theorem dX7_row_5 : decode cX7_row 5 = .ok (.ifCond .ne 18, 3) := by decide +kernel
theorem dX7_row_8 : decode cX7_row 8 = .ok (.iload_n 2, 1) := by decide +kernel
theorem dX7_row_9 : decode cX7_row 9 = .ok (.ifCond .lt 14, 3) := by decide +kernel
theorem dX7_row_12 : decode cX7_row 12 = .ok (.iload_n 2, 1) := by decide +kernel
theorem dX7_row_13 : decode cX7_row 13 = .ok (.iconst 2, 1) := by decide +kernel
theorem dX7_row_14 : decode cX7_row 14 = .ok (.if_icmp .gt 9, 3) := by decide +kernel
theorem dX7_row_17 : decode cX7_row 17 = .ok (.iload_n 3, 1) := by decide +kernel
theorem dX7_row_18 : decode cX7_row 18 = .ok (.bipush 40, 2) := by decide +kernel
theorem dX7_row_20 : decode cX7_row 20 = .ok (.if_icmp .le 6, 3) := by decide +kernel
theorem dX7_row_23 : decode cX7_row 23 = .ok (.ldc 69, 2) := by decide +kernel
theorem dX7_row_25 : decode cX7_row 25 = .ok (.ireturn, 1) := by decide +kernel
theorem dX7_row_26 : decode cX7_row 26 = .ok (.iload_n 3, 1) := by decide +kernel
theorem dX7_row_27 : decode cX7_row 27 = .ok (.ifCond .ge 9, 3) := by decide +kernel
theorem dX7_row_30 : decode cX7_row 30 = .ok (.aload_n 0, 1) := by decide +kernel
theorem dX7_row_31 : decode cX7_row 31 = .ok (.iconst 4, 1) := by decide +kernel
theorem dX7_row_32 : decode cX7_row 32 = .ok (.invokevirtual 70, 3) := by decide +kernel
theorem dX7_row_35 : decode cX7_row 35 = .ok (.ireturn, 1) := by decide +kernel
theorem dX7_row_36 : decode cX7_row 36 = .ok (.aload_n 0, 1) := by decide +kernel
theorem dX7_row_37 : decode cX7_row 37 = .ok (.getfield 10, 3) := by decide +kernel
theorem dX7_row_40 : decode cX7_row 40 = .ok (.iload_n 1, 1) := by decide +kernel
theorem dX7_row_41 : decode cX7_row 41 = .ok (.iload_n 2, 1) := by decide +kernel
theorem dX7_row_42 : decode cX7_row 42 = .ok (.iload_n 3, 1) := by decide +kernel
theorem dX7_row_43 : decode cX7_row 43 = .ok (.invokevirtual 74, 3) := by decide +kernel
theorem dX7_row_46 : decode cX7_row 46 = .ok (.aload_n 0, 1) := by decide +kernel
theorem dX7_row_47 : decode cX7_row 47 = .ok (.iload_n 3, 1) := by decide +kernel
theorem dX7_row_48 : decode cX7_row 48 = .ok (.invokevirtual 78, 3) := by decide +kernel
theorem dX7_row_51 : decode cX7_row 51 = .ok (.ireturn, 1) := by decide +kernel
theorem dX7_set_0 : decode cX7_set 0 = .ok (.aload_n 0, 1) := by decide +kernel
theorem dX7_set_1 : decode cX7_set 1 = .ok (.iload_n 1, 1) := by decide +kernel
theorem dX7_set_2 : decode cX7_set 2 = .ok (.invokevirtual 65, 3) := by decide +kernel
theorem dX7_set_5 : decode cX7_set 5 = .ok (.ifCond .eq 6, 3) := by decide +kernel
theorem dX7_set_8 : decode cX7_set 8 = .ok (.ldc 69, 2) := by decide +kernel
theorem dX7_set_10 : decode cX7_set 10 = .ok (.ireturn, 1) := by decide +kernel
theorem dX7_set_11 : decode cX7_set 11 = .ok (.aload_n 0, 1) := by decide +kernel
theorem dX7_set_12 : decode cX7_set 12 = .ok (.getfield 10, 3) := by decide +kernel
theorem dX7_set_15 : decode cX7_set 15 = .ok (.iload_n 1, 1) := by decide +kernel
theorem dX7_set_16 : decode cX7_set 16 = .ok (.invokevirtual 81, 3) := by decide +kernel
theorem dX7_set_19 : decode cX7_set 19 = .ok (.ifCond .eq 9, 3) := by decide +kernel
theorem dX7_set_22 : decode cX7_set 22 = .ok (.aload_n 0, 1) := by decide +kernel
theorem dX7_set_23 : decode cX7_set 23 = .ok (.iconst 1, 1) := by decide +kernel
theorem dX7_set_24 : decode cX7_set 24 = .ok (.invokevirtual 70, 3) := by decide +kernel
theorem dX7_set_27 : decode cX7_set 27 = .ok (.ireturn, 1) := by decide +kernel
theorem dX7_set_28 : decode cX7_set 28 = .ok (.aload_n 0, 1) := by decide +kernel
theorem dX7_set_29 : decode cX7_set 29 = .ok (.getfield 10, 3) := by decide +kernel
theorem dX7_set_32 : decode cX7_set 32 = .ok (.iload_n 1, 1) := by decide +kernel
theorem dX7_set_33 : decode cX7_set 33 = .ok (.iload_n 2, 1) := by decide +kernel
theorem dX7_set_34 : decode cX7_set 34 = .ok (.iconst 1, 1) := by decide +kernel
theorem dX7_set_35 : decode cX7_set 35 = .ok (.invokevirtual 84, 3) := by decide +kernel
theorem dX7_set_38 : decode cX7_set 38 = .ok (.ifCond .eq 9, 3) := by decide +kernel
theorem dX7_set_41 : decode cX7_set 41 = .ok (.aload_n 0, 1) := by decide +kernel
theorem dX7_set_42 : decode cX7_set 42 = .ok (.iconst 2, 1) := by decide +kernel
theorem dX7_set_43 : decode cX7_set 43 = .ok (.invokevirtual 70, 3) := by decide +kernel
theorem dX7_set_46 : decode cX7_set 46 = .ok (.ireturn, 1) := by decide +kernel
theorem dX7_set_47 : decode cX7_set 47 = .ok (.aload_n 0, 1) := by decide +kernel
theorem dX7_set_48 : decode cX7_set 48 = .ok (.aload_n 0, 1) := by decide +kernel
theorem dX7_set_49 : decode cX7_set 49 = .ok (.getfield 10, 3) := by decide +kernel
theorem dX7_set_52 : decode cX7_set 52 = .ok (.iload_n 1, 1) := by decide +kernel
theorem dX7_set_53 : decode cX7_set 53 = .ok (.iload_n 2, 1) := by decide +kernel
theorem dX7_set_54 : decode cX7_set 54 = .ok (.iload_n 3, 1) := by decide +kernel
theorem dX7_set_55 : decode cX7_set 55 = .ok (.invokevirtual 88, 3) := by decide +kernel
theorem dX7_set_58 : decode cX7_set 58 = .ok (.invokevirtual 78, 3) := by decide +kernel
theorem dX7_set_61 : decode cX7_set 61 = .ok (.ireturn, 1) := by decide +kernel
theorem dX7_copy_0 : decode cX7_copy 0 = .ok (.aload_n 0, 1) := by decide +kernel
theorem dX7_copy_1 : decode cX7_copy 1 = .ok (.iload_n 1, 1) := by decide +kernel
theorem dX7_copy_2 : decode cX7_copy 2 = .ok (.invokevirtual 65, 3) := by decide +kernel
theorem dX7_copy_5 : decode cX7_copy 5 = .ok (.ifCond .ne 11, 3) := by decide +kernel
theorem dX7_copy_8 : decode cX7_copy 8 = .ok (.aload_n 0, 1) := by decide +kernel
theorem dX7_copy_9 : decode cX7_copy 9 = .ok (.iload_n 3, 1) := by decide +kernel
theorem dX7_copy_10 : decode cX7_copy 10 = .ok (.invokevirtual 65, 3) := by decide +kernel
theorem dX7_copy_13 : decode cX7_copy 13 = .ok (.ifCond .eq 6, 3) := by decide +kernel
theorem dX7_copy_16 : decode cX7_copy 16 = .ok (.ldc 69, 2) := by decide +kernel
theorem dX7_copy_18 : decode cX7_copy 18 = .ok (.ireturn, 1) := by decide +kernel
theorem dX7_copy_19 : decode cX7_copy 19 = .ok (.aload_n 0, 1) := by decide +kernel
theorem dX7_copy_20 : decode cX7_copy 20 = .ok (.getfield 10, 3) := by decide +kernel
theorem dX7_copy_23 : decode cX7_copy 23 = .ok (.iload_n 1, 1) := by decide +kernel
theorem dX7_copy_24 : decode cX7_copy 24 = .ok (.invokevirtual 81, 3) := by decide +kernel
theorem dX7_copy_27 : decode cX7_copy 27 = .ok (.ifCond .ne 14, 3) := by decide +kernel
theorem dX7_copy_30 : decode cX7_copy 30 = .ok (.aload_n 0, 1) := by decide +kernel
theorem dX7_copy_31 : decode cX7_copy 31 = .ok (.getfield 10, 3) := by decide +kernel
theorem dX7_copy_34 : decode cX7_copy 34 = .ok (.iload_n 3, 1) := by decide +kernel
theorem dX7_copy_35 : decode cX7_copy 35 = .ok (.invokevirtual 81, 3) := by decide +kernel
theorem dX7_copy_38 : decode cX7_copy 38 = .ok (.ifCond .eq 9, 3) := by decide +kernel
theorem dX7_copy_41 : decode cX7_copy 41 = .ok (.aload_n 0, 1) := by decide +kernel
theorem dX7_copy_42 : decode cX7_copy 42 = .ok (.iconst 1, 1) := by decide +kernel
theorem dX7_copy_43 : decode cX7_copy 43 = .ok (.invokevirtual 70, 3) := by decide +kernel
theorem dX7_copy_46 : decode cX7_copy 46 = .ok (.ireturn, 1) := by decide +kernel
theorem dX7_copy_47 : decode cX7_copy 47 = .ok (.aload_n 0, 1) := by decide +kernel
theorem dX7_copy_48 : decode cX7_copy 48 = .ok (.getfield 10, 3) := by decide +kernel
theorem dX7_copy_51 : decode cX7_copy 51 = .ok (.getfield 92, 3) := by decide +kernel
theorem dX7_copy_54 : decode cX7_copy 54 = .ok (.iload_n 1, 1) := by decide +kernel
theorem dX7_copy_55 : decode cX7_copy 55 = .ok (.iaload, 1) := by decide +kernel
theorem dX7_copy_56 : decode cX7_copy 56 = .ok (.aload_n 0, 1) := by decide +kernel
theorem dX7_copy_57 : decode cX7_copy 57 = .ok (.getfield 10, 3) := by decide +kernel
theorem dX7_copy_60 : decode cX7_copy 60 = .ok (.getfield 92, 3) := by decide +kernel
theorem dX7_copy_63 : decode cX7_copy 63 = .ok (.iload_n 3, 1) := by decide +kernel
theorem dX7_copy_64 : decode cX7_copy 64 = .ok (.iaload, 1) := by decide +kernel
theorem dX7_copy_65 : decode cX7_copy 65 = .ok (.if_icmp .eq 9, 3) := by decide +kernel
theorem dX7_copy_68 : decode cX7_copy 68 = .ok (.aload_n 0, 1) := by decide +kernel
theorem dX7_copy_69 : decode cX7_copy 69 = .ok (.iconst 5, 1) := by decide +kernel
theorem dX7_copy_70 : decode cX7_copy 70 = .ok (.invokevirtual 70, 3) := by decide +kernel
theorem dX7_copy_73 : decode cX7_copy 73 = .ok (.ireturn, 1) := by decide +kernel
theorem dX7_copy_74 : decode cX7_copy 74 = .ok (.aload_n 0, 1) := by decide +kernel
theorem dX7_copy_75 : decode cX7_copy 75 = .ok (.getfield 10, 3) := by decide +kernel
theorem dX7_copy_78 : decode cX7_copy 78 = .ok (.iload_n 1, 1) := by decide +kernel
theorem dX7_copy_79 : decode cX7_copy 79 = .ok (.iload_n 2, 1) := by decide +kernel
theorem dX7_copy_80 : decode cX7_copy 80 = .ok (.iload 5, 2) := by decide +kernel
theorem dX7_copy_82 : decode cX7_copy 82 = .ok (.invokevirtual 84, 3) := by decide +kernel
theorem dX7_copy_85 : decode cX7_copy 85 = .ok (.ifCond .ne 18, 3) := by decide +kernel
theorem dX7_copy_88 : decode cX7_copy 88 = .ok (.aload_n 0, 1) := by decide +kernel
theorem dX7_copy_89 : decode cX7_copy 89 = .ok (.getfield 10, 3) := by decide +kernel
theorem dX7_copy_92 : decode cX7_copy 92 = .ok (.iload_n 3, 1) := by decide +kernel
theorem dX7_copy_93 : decode cX7_copy 93 = .ok (.iload 4, 2) := by decide +kernel
theorem dX7_copy_95 : decode cX7_copy 95 = .ok (.iload 5, 2) := by decide +kernel
theorem dX7_copy_97 : decode cX7_copy 97 = .ok (.invokevirtual 84, 3) := by decide +kernel
theorem dX7_copy_100 : decode cX7_copy 100 = .ok (.ifCond .eq 9, 3) := by decide +kernel
theorem dX7_copy_103 : decode cX7_copy 103 = .ok (.aload_n 0, 1) := by decide +kernel
theorem dX7_copy_104 : decode cX7_copy 104 = .ok (.iconst 2, 1) := by decide +kernel
theorem dX7_copy_105 : decode cX7_copy 105 = .ok (.invokevirtual 70, 3) := by decide +kernel
theorem dX7_copy_108 : decode cX7_copy 108 = .ok (.ireturn, 1) := by decide +kernel
theorem dX7_copy_109 : decode cX7_copy 109 = .ok (.aload_n 0, 1) := by decide +kernel
theorem dX7_copy_110 : decode cX7_copy 110 = .ok (.getfield 10, 3) := by decide +kernel
theorem dX7_copy_113 : decode cX7_copy 113 = .ok (.getfield 96, 3) := by decide +kernel
theorem dX7_copy_116 : decode cX7_copy 116 = .ok (.iload_n 1, 1) := by decide +kernel
theorem dX7_copy_117 : decode cX7_copy 117 = .ok (.aaload, 1) := by decide +kernel
theorem dX7_copy_118 : decode cX7_copy 118 = .ok (.iload_n 2, 1) := by decide +kernel
theorem dX7_copy_119 : decode cX7_copy 119 = .ok (.aload_n 0, 1) := by decide +kernel
theorem dX7_copy_120 : decode cX7_copy 120 = .ok (.getfield 10, 3) := by decide +kernel
theorem dX7_copy_123 : decode cX7_copy 123 = .ok (.getfield 96, 3) := by decide +kernel
theorem dX7_copy_126 : decode cX7_copy 126 = .ok (.iload_n 3, 1) := by decide +kernel
theorem dX7_copy_127 : decode cX7_copy 127 = .ok (.aaload, 1) := by decide +kernel
theorem dX7_copy_128 : decode cX7_copy 128 = .ok (.iload 4, 2) := by decide +kernel
theorem dX7_copy_130 : decode cX7_copy 130 = .ok (.iload 5, 2) := by decide +kernel
theorem dX7_copy_132 : decode cX7_copy 132 = .ok (.invokestatic 100, 3) := by decide +kernel
theorem dX7_copy_135 : decode cX7_copy 135 = .ok (.aload_n 0, 1) := by decide +kernel
theorem dX7_copy_136 : decode cX7_copy 136 = .ok (.iload 5, 2) := by decide +kernel
theorem dX7_copy_138 : decode cX7_copy 138 = .ok (.invokevirtual 78, 3) := by decide +kernel
theorem dX7_copy_141 : decode cX7_copy 141 = .ok (.ireturn, 1) := by decide +kernel
theorem dX7_drop_0 : decode cX7_drop 0 = .ok (.aload_n 0, 1) := by decide +kernel
theorem dX7_drop_1 : decode cX7_drop 1 = .ok (.iload_n 1, 1) := by decide +kernel
theorem dX7_drop_2 : decode cX7_drop 2 = .ok (.invokevirtual 65, 3) := by decide +kernel
theorem dX7_drop_5 : decode cX7_drop 5 = .ok (.ifCond .eq 6, 3) := by decide +kernel
theorem dX7_drop_8 : decode cX7_drop 8 = .ok (.ldc 69, 2) := by decide +kernel
theorem dX7_drop_10 : decode cX7_drop 10 = .ok (.ireturn, 1) := by decide +kernel
theorem dX7_drop_11 : decode cX7_drop 11 = .ok (.aload_n 0, 1) := by decide +kernel
theorem dX7_drop_12 : decode cX7_drop 12 = .ok (.getfield 10, 3) := by decide +kernel
theorem dX7_drop_15 : decode cX7_drop 15 = .ok (.iload_n 1, 1) := by decide +kernel
theorem dX7_drop_16 : decode cX7_drop 16 = .ok (.invokevirtual 81, 3) := by decide +kernel
theorem dX7_drop_19 : decode cX7_drop 19 = .ok (.ifCond .eq 9, 3) := by decide +kernel
theorem dX7_drop_22 : decode cX7_drop 22 = .ok (.aload_n 0, 1) := by decide +kernel
theorem dX7_drop_23 : decode cX7_drop 23 = .ok (.iconst 1, 1) := by decide +kernel
theorem dX7_drop_24 : decode cX7_drop 24 = .ok (.invokevirtual 70, 3) := by decide +kernel
theorem dX7_drop_27 : decode cX7_drop 27 = .ok (.ireturn, 1) := by decide +kernel
theorem dX7_drop_28 : decode cX7_drop 28 = .ok (.aload_n 0, 1) := by decide +kernel
theorem dX7_drop_29 : decode cX7_drop 29 = .ok (.aload_n 0, 1) := by decide +kernel
theorem dX7_drop_30 : decode cX7_drop 30 = .ok (.getfield 10, 3) := by decide +kernel
theorem dX7_drop_33 : decode cX7_drop 33 = .ok (.iload_n 1, 1) := by decide +kernel
theorem dX7_drop_34 : decode cX7_drop 34 = .ok (.invokevirtual 106, 3) := by decide +kernel
theorem dX7_drop_37 : decode cX7_drop 37 = .ok (.invokevirtual 78, 3) := by decide +kernel
theorem dX7_drop_40 : decode cX7_drop 40 = .ok (.ireturn, 1) := by decide +kernel
theorem dX7_feed_0 : decode cX7_feed 0 = .ok (.iload_n 1, 1) := by decide +kernel
theorem dX7_feed_1 : decode cX7_feed 1 = .ok (.ifCond .lt 10, 3) := by decide +kernel
theorem dX7_feed_4 : decode cX7_feed 4 = .ok (.iload_n 1, 1) := by decide +kernel
theorem dX7_feed_5 : decode cX7_feed 5 = .ok (.sipush 255, 3) := by decide +kernel
theorem dX7_feed_8 : decode cX7_feed 8 = .ok (.if_icmp .le 6, 3) := by decide +kernel
theorem dX7_feed_11 : decode cX7_feed 11 = .ok (.ldc 69, 2) := by decide +kernel
theorem dX7_feed_13 : decode cX7_feed 13 = .ok (.ireturn, 1) := by decide +kernel
theorem dX7_feed_14 : decode cX7_feed 14 = .ok (.aload_n 0, 1) := by decide +kernel
theorem dX7_feed_15 : decode cX7_feed 15 = .ok (.getfield 19, 3) := by decide +kernel
theorem dX7_feed_18 : decode cX7_feed 18 = .ok (.invokevirtual 109, 3) := by decide +kernel
theorem dX7_feed_21 : decode cX7_feed 21 = .ok (.ifCond .eq 6, 3) := by decide +kernel
theorem dX7_feed_24 : decode cX7_feed 24 = .ok (.ldc 113, 2) := by decide +kernel
theorem dX7_feed_26 : decode cX7_feed 26 = .ok (.ireturn, 1) := by decide +kernel
theorem dX7_feed_27 : decode cX7_feed 27 = .ok (.aload_n 0, 1) := by decide +kernel
theorem dX7_feed_28 : decode cX7_feed 28 = .ok (.getfield 19, 3) := by decide +kernel
theorem dX7_feed_31 : decode cX7_feed 31 = .ok (.iload_n 1, 1) := by decide +kernel
theorem dX7_feed_32 : decode cX7_feed 32 = .ok (.invokevirtual 114, 3) := by decide +kernel
theorem dX7_feed_35 : decode cX7_feed 35 = .ok (.ireturn, 1) := by decide +kernel
theorem dX7_day_0 : decode cX7_day 0 = .ok (.aload_n 0, 1) := by decide +kernel
theorem dX7_day_1 : decode cX7_day 1 = .ok (.getfield 19, 3) := by decide +kernel
theorem dX7_day_4 : decode cX7_day 4 = .ok (.aload_n 0, 1) := by decide +kernel
theorem dX7_day_5 : decode cX7_day 5 = .ok (.getfield 30, 3) := by decide +kernel
theorem dX7_day_8 : decode cX7_day 8 = .ok (.invokevirtual 117, 3) := by decide +kernel
theorem dX7_day_11 : decode cX7_day 11 = .ok (.aload_n 0, 1) := by decide +kernel
theorem dX7_day_12 : decode cX7_day 12 = .ok (.getfield 19, 3) := by decide +kernel
theorem dX7_day_15 : decode cX7_day 15 = .ok (.iconst 0, 1) := by decide +kernel
theorem dX7_day_16 : decode cX7_day 16 = .ok (.putfield 121, 3) := by decide +kernel
theorem dX7_day_19 : decode cX7_day 19 = .ok (.aload_n 0, 1) := by decide +kernel
theorem dX7_day_20 : decode cX7_day 20 = .ok (.getfield 19, 3) := by decide +kernel
theorem dX7_day_23 : decode cX7_day 23 = .ok (.getfield 125, 3) := by decide +kernel
theorem dX7_day_26 : decode cX7_day 26 = .ok (.ifCond .eq 25, 3) := by decide +kernel
theorem dX7_day_29 : decode cX7_day 29 = .ok (.aload_n 0, 1) := by decide +kernel
theorem dX7_day_30 : decode cX7_day 30 = .ok (.aload_n 0, 1) := by decide +kernel
theorem dX7_day_31 : decode cX7_day 31 = .ok (.getfield 19, 3) := by decide +kernel
theorem dX7_day_34 : decode cX7_day 34 = .ok (.getfield 125, 3) := by decide +kernel
theorem dX7_day_37 : decode cX7_day 37 = .ok (.putfield 128, 3) := by decide +kernel
theorem dX7_day_40 : decode cX7_day 40 = .ok (.ldc 131, 2) := by decide +kernel
theorem dX7_day_42 : decode cX7_day 42 = .ok (.aload_n 0, 1) := by decide +kernel
theorem dX7_day_43 : decode cX7_day 43 = .ok (.getfield 19, 3) := by decide +kernel
theorem dX7_day_46 : decode cX7_day 46 = .ok (.getfield 132, 3) := by decide +kernel
theorem dX7_day_49 : decode cX7_day 49 = .ok (.isub, 1) := by decide +kernel
theorem dX7_day_50 : decode cX7_day 50 = .ok (.ireturn, 1) := by decide +kernel
theorem dX7_day_51 : decode cX7_day 51 = .ok (.aload_n 0, 1) := by decide +kernel
theorem dX7_day_52 : decode cX7_day 52 = .ok (.getfield 26, 3) := by decide +kernel
theorem dX7_day_55 : decode cX7_day 55 = .ok (.aload_n 0, 1) := by decide +kernel
theorem dX7_day_56 : decode cX7_day 56 = .ok (.getfield 30, 3) := by decide +kernel
theorem dX7_day_59 : decode cX7_day 59 = .ok (.invokevirtual 135, 3) := by decide +kernel
theorem dX7_day_62 : decode cX7_day 62 = .ok (.aload_n 0, 1) := by decide +kernel
theorem dX7_day_63 : decode cX7_day 63 = .ok (.getfield 40, 3) := by decide +kernel
theorem dX7_day_66 : decode cX7_day 66 = .ok (.invokevirtual 138, 3) := by decide +kernel
theorem dX7_day_69 : decode cX7_day 69 = .ok (.aload_n 0, 1) := by decide +kernel
theorem dX7_day_70 : decode cX7_day 70 = .ok (.iconst 0, 1) := by decide +kernel
theorem dX7_day_71 : decode cX7_day 71 = .ok (.putfield 141, 3) := by decide +kernel
theorem dX7_day_74 : decode cX7_day 74 = .ok (.aload_n 0, 1) := by decide +kernel
theorem dX7_day_75 : decode cX7_day 75 = .ok (.getfield 26, 3) := by decide +kernel
theorem dX7_day_78 : decode cX7_day 78 = .ok (.getfield 145, 3) := by decide +kernel
theorem dX7_day_81 : decode cX7_day 81 = .ok (.ireturn, 1) := by decide +kernel
theorem dX7_fault_0 : decode cX7_fault 0 = .ok (.aload_n 0, 1) := by decide +kernel
theorem dX7_fault_1 : decode cX7_fault 1 = .ok (.getfield 128, 3) := by decide +kernel
theorem dX7_fault_4 : decode cX7_fault 4 = .ok (.ireturn, 1) := by decide +kernel
theorem dX7_run_0 : decode cX7_run 0 = .ok (.aload_n 0, 1) := by decide +kernel
theorem dX7_run_1 : decode cX7_run 1 = .ok (.iload_n 1, 1) := by decide +kernel
theorem dX7_run_2 : decode cX7_run 2 = .ok (.invokevirtual 148, 3) := by decide +kernel
theorem dX7_run_5 : decode cX7_run 5 = .ok (.ifCond .ne 18, 3) := by decide +kernel
theorem dX7_run_8 : decode cX7_run 8 = .ok (.iload_n 2, 1) := by decide +kernel
theorem dX7_run_9 : decode cX7_run 9 = .ok (.ifCond .lt 14, 3) := by decide +kernel
theorem dX7_run_12 : decode cX7_run 12 = .ok (.iload_n 2, 1) := by decide +kernel
theorem dX7_run_13 : decode cX7_run 13 = .ok (.aload_n 0, 1) := by decide +kernel
theorem dX7_run_14 : decode cX7_run 14 = .ok (.getfield 26, 3) := by decide +kernel
theorem dX7_run_17 : decode cX7_run 17 = .ok (.invokevirtual 151, 3) := by decide +kernel
theorem dX7_run_20 : decode cX7_run 20 = .ok (.if_icmp .le 6, 3) := by decide +kernel
theorem dX7_run_23 : decode cX7_run 23 = .ok (.ldc 69, 2) := by decide +kernel
theorem dX7_run_25 : decode cX7_run 25 = .ok (.ireturn, 1) := by decide +kernel
theorem dX7_run_26 : decode cX7_run 26 = .ok (.aload_n 0, 1) := by decide +kernel
theorem dX7_run_27 : decode cX7_run 27 = .ok (.getfield 26, 3) := by decide +kernel
theorem dX7_run_30 : decode cX7_run 30 = .ok (.getfield 155, 3) := by decide +kernel
theorem dX7_run_33 : decode cX7_run 33 = .ok (.iload_n 1, 1) := by decide +kernel
theorem dX7_run_34 : decode cX7_run 34 = .ok (.iaload, 1) := by decide +kernel
theorem dX7_run_35 : decode cX7_run 35 = .ok (.istore_n 3, 1) := by decide +kernel
theorem dX7_run_36 : decode cX7_run 36 = .ok (.iload_n 3, 1) := by decide +kernel
theorem dX7_run_37 : decode cX7_run 37 = .ok (.iload_n 2, 1) := by decide +kernel
theorem dX7_run_38 : decode cX7_run 38 = .ok (.if_icmp .ne 6, 3) := by decide +kernel
theorem dX7_run_41 : decode cX7_run 41 = .ok (.ldc 158, 2) := by decide +kernel
theorem dX7_run_43 : decode cX7_run 43 = .ok (.ireturn, 1) := by decide +kernel
theorem dX7_run_44 : decode cX7_run 44 = .ok (.aload_n 0, 1) := by decide +kernel
theorem dX7_run_45 : decode cX7_run 45 = .ok (.invokevirtual 159, 3) := by decide +kernel
theorem dX7_run_48 : decode cX7_run 48 = .ok (.aload_n 0, 1) := by decide +kernel
theorem dX7_run_49 : decode cX7_run 49 = .ok (.getfield 26, 3) := by decide +kernel
theorem dX7_run_52 : decode cX7_run 52 = .ok (.getfield 155, 3) := by decide +kernel
theorem dX7_run_55 : decode cX7_run 55 = .ok (.iload_n 1, 1) := by decide +kernel
theorem dX7_run_56 : decode cX7_run 56 = .ok (.iload_n 2, 1) := by decide +kernel
theorem dX7_run_57 : decode cX7_run 57 = .ok (.iastore, 1) := by decide +kernel
theorem dX7_run_58 : decode cX7_run 58 = .ok (.iload_n 3, 1) := by decide +kernel
theorem dX7_run_59 : decode cX7_run 59 = .ok (.ireturn, 1) := by decide +kernel
theorem dX7_layBest_0 : decode cX7_layBest 0 = .ok (.aload_n 0, 1) := by decide +kernel
theorem dX7_layBest_1 : decode cX7_layBest 1 = .ok (.invokevirtual 162, 3) := by decide +kernel
theorem dX7_layBest_4 : decode cX7_layBest 4 = .ok (.ifCond .eq 6, 3) := by decide +kernel
theorem dX7_layBest_7 : decode cX7_layBest 7 = .ok (.ldc 158, 2) := by decide +kernel
theorem dX7_layBest_9 : decode cX7_layBest 9 = .ok (.ireturn, 1) := by decide +kernel
theorem dX7_layBest_10 : decode cX7_layBest 10 = .ok (.aload_n 0, 1) := by decide +kernel
theorem dX7_layBest_11 : decode cX7_layBest 11 = .ok (.invokevirtual 165, 3) := by decide +kernel
theorem dX7_layBest_14 : decode cX7_layBest 14 = .ok (.lstore_n 1, 1) := by decide +kernel
theorem dX7_layBest_15 : decode cX7_layBest 15 = .ok (.lload_n 1, 1) := by decide +kernel
theorem dX7_layBest_16 : decode cX7_layBest 16 = .ok (.lconst 0, 1) := by decide +kernel
theorem dX7_layBest_17 : decode cX7_layBest 17 = .ok (.lcmp, 1) := by decide +kernel
theorem dX7_layBest_18 : decode cX7_layBest 18 = .ok (.ifCond .ge 6, 3) := by decide +kernel
theorem dX7_layBest_21 : decode cX7_layBest 21 = .ok (.ldc 169, 2) := by decide +kernel
theorem dX7_layBest_23 : decode cX7_layBest 23 = .ok (.ireturn, 1) := by decide +kernel
theorem dX7_layBest_24 : decode cX7_layBest 24 = .ok (.aload_n 0, 1) := by decide +kernel
theorem dX7_layBest_25 : decode cX7_layBest 25 = .ok (.invokevirtual 159, 3) := by decide +kernel
theorem dX7_layBest_28 : decode cX7_layBest 28 = .ok (.iconst 0, 1) := by decide +kernel
theorem dX7_layBest_29 : decode cX7_layBest 29 = .ok (.istore_n 3, 1) := by decide +kernel
theorem dX7_layBest_30 : decode cX7_layBest 30 = .ok (.iload_n 3, 1) := by decide +kernel
theorem dX7_layBest_31 : decode cX7_layBest 31 = .ok (.aload_n 0, 1) := by decide +kernel
theorem dX7_layBest_32 : decode cX7_layBest 32 = .ok (.getfield 26, 3) := by decide +kernel
theorem dX7_layBest_35 : decode cX7_layBest 35 = .ok (.getfield 145, 3) := by decide +kernel
theorem dX7_layBest_38 : decode cX7_layBest 38 = .ok (.if_icmp .ge 23, 3) := by decide +kernel
theorem dX7_layBest_41 : decode cX7_layBest 41 = .ok (.aload_n 0, 1) := by decide +kernel
theorem dX7_layBest_42 : decode cX7_layBest 42 = .ok (.getfield 26, 3) := by decide +kernel
theorem dX7_layBest_45 : decode cX7_layBest 45 = .ok (.getfield 155, 3) := by decide +kernel
theorem dX7_layBest_48 : decode cX7_layBest 48 = .ok (.iload_n 3, 1) := by decide +kernel
theorem dX7_layBest_49 : decode cX7_layBest 49 = .ok (.lload_n 1, 1) := by decide +kernel
theorem dX7_layBest_50 : decode cX7_layBest 50 = .ok (.iload_n 3, 1) := by decide +kernel
theorem dX7_layBest_51 : decode cX7_layBest 51 = .ok (.invokestatic 170, 3) := by decide +kernel
theorem dX7_layBest_54 : decode cX7_layBest 54 = .ok (.iastore, 1) := by decide +kernel
theorem dX7_layBest_55 : decode cX7_layBest 55 = .ok (.iinc 3 1, 3) := by decide +kernel
theorem dX7_layBest_58 : decode cX7_layBest 58 = .ok (.goto (-28), 3) := by decide +kernel
theorem dX7_layBest_61 : decode cX7_layBest 61 = .ok (.lload_n 1, 1) := by decide +kernel
theorem dX7_layBest_62 : decode cX7_layBest 62 = .ok (.invokestatic 174, 3) := by decide +kernel
theorem dX7_layBest_65 : decode cX7_layBest 65 = .ok (.ireturn, 1) := by decide +kernel
theorem dX7_demand_0 : decode cX7_demand 0 = .ok (.aload_n 0, 1) := by decide +kernel
theorem dX7_demand_1 : decode cX7_demand 1 = .ok (.iload_n 1, 1) := by decide +kernel
theorem dX7_demand_2 : decode cX7_demand 2 = .ok (.invokevirtual 178, 3) := by decide +kernel
theorem dX7_demand_5 : decode cX7_demand 5 = .ok (.ifCond .ne 13, 3) := by decide +kernel
theorem dX7_demand_8 : decode cX7_demand 8 = .ok (.iload_n 2, 1) := by decide +kernel
theorem dX7_demand_9 : decode cX7_demand 9 = .ok (.ifCond .lt 9, 3) := by decide +kernel
theorem dX7_demand_12 : decode cX7_demand 12 = .ok (.iload_n 2, 1) := by decide +kernel
theorem dX7_demand_13 : decode cX7_demand 13 = .ok (.bipush 60, 2) := by decide +kernel
theorem dX7_demand_15 : decode cX7_demand 15 = .ok (.if_icmp .le 6, 3) := by decide +kernel
theorem dX7_demand_18 : decode cX7_demand 18 = .ok (.ldc 69, 2) := by decide +kernel
theorem dX7_demand_20 : decode cX7_demand 20 = .ok (.ireturn, 1) := by decide +kernel
theorem dX7_demand_21 : decode cX7_demand 21 = .ok (.aload_n 0, 1) := by decide +kernel
theorem dX7_demand_22 : decode cX7_demand 22 = .ok (.invokevirtual 159, 3) := by decide +kernel
theorem dX7_demand_25 : decode cX7_demand 25 = .ok (.aload_n 0, 1) := by decide +kernel
theorem dX7_demand_26 : decode cX7_demand 26 = .ok (.getfield 26, 3) := by decide +kernel
theorem dX7_demand_29 : decode cX7_demand 29 = .ok (.getfield 181, 3) := by decide +kernel
theorem dX7_demand_32 : decode cX7_demand 32 = .ok (.iload_n 1, 1) := by decide +kernel
theorem dX7_demand_33 : decode cX7_demand 33 = .ok (.iaload, 1) := by decide +kernel
theorem dX7_demand_34 : decode cX7_demand 34 = .ok (.istore_n 3, 1) := by decide +kernel
theorem dX7_demand_35 : decode cX7_demand 35 = .ok (.aload_n 0, 1) := by decide +kernel
theorem dX7_demand_36 : decode cX7_demand 36 = .ok (.getfield 26, 3) := by decide +kernel
theorem dX7_demand_39 : decode cX7_demand 39 = .ok (.getfield 181, 3) := by decide +kernel
theorem dX7_demand_42 : decode cX7_demand 42 = .ok (.iload_n 1, 1) := by decide +kernel
theorem dX7_demand_43 : decode cX7_demand 43 = .ok (.iload_n 2, 1) := by decide +kernel
theorem dX7_demand_44 : decode cX7_demand 44 = .ok (.iastore, 1) := by decide +kernel
theorem dX7_demand_45 : decode cX7_demand 45 = .ok (.iload_n 3, 1) := by decide +kernel
theorem dX7_demand_46 : decode cX7_demand 46 = .ok (.ireturn, 1) := by decide +kernel
theorem dX7_reserve_0 : decode cX7_reserve 0 = .ok (.aload_n 0, 1) := by decide +kernel
theorem dX7_reserve_1 : decode cX7_reserve 1 = .ok (.invokevirtual 162, 3) := by decide +kernel
theorem dX7_reserve_4 : decode cX7_reserve 4 = .ok (.ifCond .eq 6, 3) := by decide +kernel
theorem dX7_reserve_7 : decode cX7_reserve 7 = .ok (.ldc 158, 2) := by decide +kernel
theorem dX7_reserve_9 : decode cX7_reserve 9 = .ok (.ireturn, 1) := by decide +kernel
theorem dX7_reserve_10 : decode cX7_reserve 10 = .ok (.iload_n 1, 1) := by decide +kernel
theorem dX7_reserve_11 : decode cX7_reserve 11 = .ok (.ifCond .lt 9, 3) := by decide +kernel
theorem dX7_reserve_14 : decode cX7_reserve 14 = .ok (.iload_n 1, 1) := by decide +kernel
theorem dX7_reserve_15 : decode cX7_reserve 15 = .ok (.bipush 20, 2) := by decide +kernel
theorem dX7_reserve_17 : decode cX7_reserve 17 = .ok (.if_icmp .le 6, 3) := by decide +kernel
theorem dX7_reserve_20 : decode cX7_reserve 20 = .ok (.ldc 69, 2) := by decide +kernel
theorem dX7_reserve_22 : decode cX7_reserve 22 = .ok (.ireturn, 1) := by decide +kernel
theorem dX7_reserve_23 : decode cX7_reserve 23 = .ok (.aload_n 0, 1) := by decide +kernel
theorem dX7_reserve_24 : decode cX7_reserve 24 = .ok (.invokevirtual 159, 3) := by decide +kernel
theorem dX7_reserve_27 : decode cX7_reserve 27 = .ok (.aload_n 0, 1) := by decide +kernel
theorem dX7_reserve_28 : decode cX7_reserve 28 = .ok (.getfield 26, 3) := by decide +kernel
theorem dX7_reserve_31 : decode cX7_reserve 31 = .ok (.getfield 184, 3) := by decide +kernel
theorem dX7_reserve_34 : decode cX7_reserve 34 = .ok (.istore_n 2, 1) := by decide +kernel
theorem dX7_reserve_35 : decode cX7_reserve 35 = .ok (.aload_n 0, 1) := by decide +kernel
theorem dX7_reserve_36 : decode cX7_reserve 36 = .ok (.getfield 26, 3) := by decide +kernel
theorem dX7_reserve_39 : decode cX7_reserve 39 = .ok (.iload_n 1, 1) := by decide +kernel
theorem dX7_reserve_40 : decode cX7_reserve 40 = .ok (.putfield 184, 3) := by decide +kernel
theorem dX7_reserve_43 : decode cX7_reserve 43 = .ok (.iload_n 2, 1) := by decide +kernel
theorem dX7_reserve_44 : decode cX7_reserve 44 = .ok (.ireturn, 1) := by decide +kernel
theorem dX7_price_0 : decode cX7_price 0 = .ok (.aload_n 0, 1) := by decide +kernel
theorem dX7_price_1 : decode cX7_price 1 = .ok (.iload_n 1, 1) := by decide +kernel
theorem dX7_price_2 : decode cX7_price 2 = .ok (.invokevirtual 148, 3) := by decide +kernel
theorem dX7_price_5 : decode cX7_price 5 = .ok (.ifCond .ne 14, 3) := by decide +kernel
theorem dX7_price_8 : decode cX7_price 8 = .ok (.iload_n 2, 1) := by decide +kernel
theorem dX7_price_9 : decode cX7_price 9 = .ok (.iconst 1, 1) := by decide +kernel
theorem dX7_price_10 : decode cX7_price 10 = .ok (.if_icmp .lt 9, 3) := by decide +kernel
theorem dX7_price_13 : decode cX7_price 13 = .ok (.iload_n 2, 1) := by decide +kernel
theorem dX7_price_14 : decode cX7_price 14 = .ok (.bipush 9, 2) := by decide +kernel
theorem dX7_price_16 : decode cX7_price 16 = .ok (.if_icmp .le 6, 3) := by decide +kernel
theorem dX7_price_19 : decode cX7_price 19 = .ok (.ldc 69, 2) := by decide +kernel
theorem dX7_price_21 : decode cX7_price 21 = .ok (.ireturn, 1) := by decide +kernel
theorem dX7_price_22 : decode cX7_price 22 = .ok (.aload_n 0, 1) := by decide +kernel
theorem dX7_price_23 : decode cX7_price 23 = .ok (.invokevirtual 159, 3) := by decide +kernel
theorem dX7_price_26 : decode cX7_price 26 = .ok (.aload_n 0, 1) := by decide +kernel
theorem dX7_price_27 : decode cX7_price 27 = .ok (.getfield 26, 3) := by decide +kernel
theorem dX7_price_30 : decode cX7_price 30 = .ok (.getfield 187, 3) := by decide +kernel
theorem dX7_price_33 : decode cX7_price 33 = .ok (.iload_n 1, 1) := by decide +kernel
theorem dX7_price_34 : decode cX7_price 34 = .ok (.iaload, 1) := by decide +kernel
theorem dX7_price_35 : decode cX7_price 35 = .ok (.istore_n 3, 1) := by decide +kernel
theorem dX7_price_36 : decode cX7_price 36 = .ok (.aload_n 0, 1) := by decide +kernel
theorem dX7_price_37 : decode cX7_price 37 = .ok (.getfield 26, 3) := by decide +kernel
theorem dX7_price_40 : decode cX7_price 40 = .ok (.iload_n 1, 1) := by decide +kernel
theorem dX7_price_41 : decode cX7_price 41 = .ok (.iload_n 2, 1) := by decide +kernel
theorem dX7_price_42 : decode cX7_price 42 = .ok (.invokevirtual 190, 3) := by decide +kernel
theorem dX7_price_45 : decode cX7_price 45 = .ok (.iload_n 3, 1) := by decide +kernel
theorem dX7_price_46 : decode cX7_price 46 = .ok (.ireturn, 1) := by decide +kernel
theorem dX7_become_0 : decode cX7_become 0 = .ok (.aload_n 0, 1) := by decide +kernel
theorem dX7_become_1 : decode cX7_become 1 = .ok (.iload_n 1, 1) := by decide +kernel
theorem dX7_become_2 : decode cX7_become 2 = .ok (.invokevirtual 148, 3) := by decide +kernel
theorem dX7_become_5 : decode cX7_become 5 = .ok (.ifCond .ne 13, 3) := by decide +kernel
theorem dX7_become_8 : decode cX7_become 8 = .ok (.iload_n 2, 1) := by decide +kernel
theorem dX7_become_9 : decode cX7_become 9 = .ok (.iconst 1, 1) := by decide +kernel
theorem dX7_become_10 : decode cX7_become 10 = .ok (.if_icmp .lt 8, 3) := by decide +kernel
theorem dX7_become_13 : decode cX7_become 13 = .ok (.iload_n 2, 1) := by decide +kernel
theorem dX7_become_14 : decode cX7_become 14 = .ok (.iconst 5, 1) := by decide +kernel
theorem dX7_become_15 : decode cX7_become 15 = .ok (.if_icmp .le 6, 3) := by decide +kernel
theorem dX7_become_18 : decode cX7_become 18 = .ok (.ldc 69, 2) := by decide +kernel
theorem dX7_become_20 : decode cX7_become 20 = .ok (.ireturn, 1) := by decide +kernel
theorem dX7_become_21 : decode cX7_become 21 = .ok (.aload_n 0, 1) := by decide +kernel
theorem dX7_become_22 : decode cX7_become 22 = .ok (.getfield 26, 3) := by decide +kernel
theorem dX7_become_25 : decode cX7_become 25 = .ok (.getfield 194, 3) := by decide +kernel
theorem dX7_become_28 : decode cX7_become 28 = .ok (.iload_n 1, 1) := by decide +kernel
theorem dX7_become_29 : decode cX7_become 29 = .ok (.iaload, 1) := by decide +kernel
theorem dX7_become_30 : decode cX7_become 30 = .ok (.istore_n 3, 1) := by decide +kernel
theorem dX7_become_31 : decode cX7_become 31 = .ok (.iload_n 3, 1) := by decide +kernel
theorem dX7_become_32 : decode cX7_become 32 = .ok (.iload_n 2, 1) := by decide +kernel
theorem dX7_become_33 : decode cX7_become 33 = .ok (.if_icmp .ne 6, 3) := by decide +kernel
theorem dX7_become_36 : decode cX7_become 36 = .ok (.ldc 158, 2) := by decide +kernel
theorem dX7_become_38 : decode cX7_become 38 = .ok (.ireturn, 1) := by decide +kernel
theorem dX7_become_39 : decode cX7_become 39 = .ok (.aload_n 0, 1) := by decide +kernel
theorem dX7_become_40 : decode cX7_become 40 = .ok (.invokevirtual 159, 3) := by decide +kernel
theorem dX7_become_43 : decode cX7_become 43 = .ok (.aload_n 0, 1) := by decide +kernel
theorem dX7_become_44 : decode cX7_become 44 = .ok (.getfield 26, 3) := by decide +kernel
theorem dX7_become_47 : decode cX7_become 47 = .ok (.iload_n 1, 1) := by decide +kernel
theorem dX7_become_48 : decode cX7_become 48 = .ok (.iload_n 2, 1) := by decide +kernel
theorem dX7_become_49 : decode cX7_become 49 = .ok (.invokevirtual 197, 3) := by decide +kernel
theorem dX7_become_52 : decode cX7_become 52 = .ok (.iload_n 3, 1) := by decide +kernel
theorem dX7_become_53 : decode cX7_become 53 = .ok (.ireturn, 1) := by decide +kernel
theorem dX7_undo_0 : decode cX7_undo 0 = .ok (.aload_n 0, 1) := by decide +kernel
theorem dX7_undo_1 : decode cX7_undo 1 = .ok (.getfield 40, 3) := by decide +kernel
theorem dX7_undo_4 : decode cX7_undo 4 = .ok (.getfield 200, 3) := by decide +kernel
theorem dX7_undo_7 : decode cX7_undo 7 = .ok (.ifCond .ne 6, 3) := by decide +kernel
theorem dX7_undo_10 : decode cX7_undo 10 = .ok (.ldc 158, 2) := by decide +kernel
theorem dX7_undo_12 : decode cX7_undo 12 = .ok (.ireturn, 1) := by decide +kernel
theorem dX7_undo_13 : decode cX7_undo 13 = .ok (.aload_n 0, 1) := by decide +kernel
theorem dX7_undo_14 : decode cX7_undo 14 = .ok (.getfield 40, 3) := by decide +kernel
theorem dX7_undo_17 : decode cX7_undo 17 = .ok (.aload_n 0, 1) := by decide +kernel
theorem dX7_undo_18 : decode cX7_undo 18 = .ok (.getfield 26, 3) := by decide +kernel
theorem dX7_undo_21 : decode cX7_undo 21 = .ok (.invokevirtual 203, 3) := by decide +kernel
theorem dX7_undo_24 : decode cX7_undo 24 = .ok (.aload_n 0, 1) := by decide +kernel
theorem dX7_undo_25 : decode cX7_undo 25 = .ok (.iconst 0, 1) := by decide +kernel
theorem dX7_undo_26 : decode cX7_undo 26 = .ok (.putfield 141, 3) := by decide +kernel
theorem dX7_undo_29 : decode cX7_undo 29 = .ok (.aload_n 0, 1) := by decide +kernel
theorem dX7_undo_30 : decode cX7_undo 30 = .ok (.getfield 40, 3) := by decide +kernel
theorem dX7_undo_33 : decode cX7_undo 33 = .ok (.getfield 200, 3) := by decide +kernel
theorem dX7_undo_36 : decode cX7_undo 36 = .ok (.ireturn, 1) := by decide +kernel
theorem dX7_unit_0 : decode cX7_unit 0 = .ok (.aload_n 0, 1) := by decide +kernel
theorem dX7_unit_1 : decode cX7_unit 1 = .ok (.iload_n 1, 1) := by decide +kernel
theorem dX7_unit_2 : decode cX7_unit 2 = .ok (.invokevirtual 148, 3) := by decide +kernel
theorem dX7_unit_5 : decode cX7_unit 5 = .ok (.ifCond .eq 6, 3) := by decide +kernel
theorem dX7_unit_8 : decode cX7_unit 8 = .ok (.ldc 69, 2) := by decide +kernel
theorem dX7_unit_10 : decode cX7_unit 10 = .ok (.ireturn, 1) := by decide +kernel
theorem dX7_unit_11 : decode cX7_unit 11 = .ok (.iload_n 2, 1) := by decide +kernel
theorem dX7_unit_12 : decode cX7_unit 12 = .ok (.tableswitch 161 0 8 #[52, 62, 72, 82, 92, 102, 112, 122, 135], 52) := by decide +kernel
theorem dX7_unit_64 : decode cX7_unit 64 = .ok (.aload_n 0, 1) := by decide +kernel
theorem dX7_unit_65 : decode cX7_unit 65 = .ok (.getfield 26, 3) := by decide +kernel
theorem dX7_unit_68 : decode cX7_unit 68 = .ok (.getfield 206, 3) := by decide +kernel
theorem dX7_unit_71 : decode cX7_unit 71 = .ok (.iload_n 1, 1) := by decide +kernel
theorem dX7_unit_72 : decode cX7_unit 72 = .ok (.iaload, 1) := by decide +kernel
theorem dX7_unit_73 : decode cX7_unit 73 = .ok (.ireturn, 1) := by decide +kernel
theorem dX7_unit_74 : decode cX7_unit 74 = .ok (.aload_n 0, 1) := by decide +kernel
theorem dX7_unit_75 : decode cX7_unit 75 = .ok (.getfield 26, 3) := by decide +kernel
theorem dX7_unit_78 : decode cX7_unit 78 = .ok (.getfield 209, 3) := by decide +kernel
theorem dX7_unit_81 : decode cX7_unit 81 = .ok (.iload_n 1, 1) := by decide +kernel
theorem dX7_unit_82 : decode cX7_unit 82 = .ok (.iaload, 1) := by decide +kernel
theorem dX7_unit_83 : decode cX7_unit 83 = .ok (.ireturn, 1) := by decide +kernel
theorem dX7_unit_84 : decode cX7_unit 84 = .ok (.aload_n 0, 1) := by decide +kernel
theorem dX7_unit_85 : decode cX7_unit 85 = .ok (.getfield 26, 3) := by decide +kernel
theorem dX7_unit_88 : decode cX7_unit 88 = .ok (.getfield 187, 3) := by decide +kernel
theorem dX7_unit_91 : decode cX7_unit 91 = .ok (.iload_n 1, 1) := by decide +kernel
theorem dX7_unit_92 : decode cX7_unit 92 = .ok (.iaload, 1) := by decide +kernel
theorem dX7_unit_93 : decode cX7_unit 93 = .ok (.ireturn, 1) := by decide +kernel
theorem dX7_unit_94 : decode cX7_unit 94 = .ok (.aload_n 0, 1) := by decide +kernel
theorem dX7_unit_95 : decode cX7_unit 95 = .ok (.getfield 26, 3) := by decide +kernel
theorem dX7_unit_98 : decode cX7_unit 98 = .ok (.getfield 212, 3) := by decide +kernel
theorem dX7_unit_101 : decode cX7_unit 101 = .ok (.iload_n 1, 1) := by decide +kernel
theorem dX7_unit_102 : decode cX7_unit 102 = .ok (.iaload, 1) := by decide +kernel
theorem dX7_unit_103 : decode cX7_unit 103 = .ok (.ireturn, 1) := by decide +kernel
theorem dX7_unit_104 : decode cX7_unit 104 = .ok (.aload_n 0, 1) := by decide +kernel
theorem dX7_unit_105 : decode cX7_unit 105 = .ok (.getfield 26, 3) := by decide +kernel
theorem dX7_unit_108 : decode cX7_unit 108 = .ok (.getfield 215, 3) := by decide +kernel
theorem dX7_unit_111 : decode cX7_unit 111 = .ok (.iload_n 1, 1) := by decide +kernel
theorem dX7_unit_112 : decode cX7_unit 112 = .ok (.iaload, 1) := by decide +kernel
theorem dX7_unit_113 : decode cX7_unit 113 = .ok (.ireturn, 1) := by decide +kernel
theorem dX7_unit_114 : decode cX7_unit 114 = .ok (.aload_n 0, 1) := by decide +kernel
theorem dX7_unit_115 : decode cX7_unit 115 = .ok (.getfield 26, 3) := by decide +kernel
theorem dX7_unit_118 : decode cX7_unit 118 = .ok (.getfield 218, 3) := by decide +kernel
theorem dX7_unit_121 : decode cX7_unit 121 = .ok (.iload_n 1, 1) := by decide +kernel
theorem dX7_unit_122 : decode cX7_unit 122 = .ok (.iaload, 1) := by decide +kernel
theorem dX7_unit_123 : decode cX7_unit 123 = .ok (.ireturn, 1) := by decide +kernel
theorem dX7_unit_124 : decode cX7_unit 124 = .ok (.aload_n 0, 1) := by decide +kernel
theorem dX7_unit_125 : decode cX7_unit 125 = .ok (.getfield 26, 3) := by decide +kernel
theorem dX7_unit_128 : decode cX7_unit 128 = .ok (.getfield 155, 3) := by decide +kernel
theorem dX7_unit_131 : decode cX7_unit 131 = .ok (.iload_n 1, 1) := by decide +kernel
theorem dX7_unit_132 : decode cX7_unit 132 = .ok (.iaload, 1) := by decide +kernel
theorem dX7_unit_133 : decode cX7_unit 133 = .ok (.ireturn, 1) := by decide +kernel
theorem dX7_unit_134 : decode cX7_unit 134 = .ok (.aload_n 0, 1) := by decide +kernel
theorem dX7_unit_135 : decode cX7_unit 135 = .ok (.getfield 26, 3) := by decide +kernel
theorem dX7_unit_138 : decode cX7_unit 138 = .ok (.getfield 155, 3) := by decide +kernel
theorem dX7_unit_141 : decode cX7_unit 141 = .ok (.iload_n 1, 1) := by decide +kernel
theorem dX7_unit_142 : decode cX7_unit 142 = .ok (.iaload, 1) := by decide +kernel
theorem dX7_unit_143 : decode cX7_unit 143 = .ok (.invokestatic 221, 3) := by decide +kernel
theorem dX7_unit_146 : decode cX7_unit 146 = .ok (.ireturn, 1) := by decide +kernel
theorem dX7_unit_147 : decode cX7_unit 147 = .ok (.aload_n 0, 1) := by decide +kernel
theorem dX7_unit_148 : decode cX7_unit 148 = .ok (.getfield 26, 3) := by decide +kernel
theorem dX7_unit_151 : decode cX7_unit 151 = .ok (.iload_n 1, 1) := by decide +kernel
theorem dX7_unit_152 : decode cX7_unit 152 = .ok (.aload_n 0, 1) := by decide +kernel
theorem dX7_unit_153 : decode cX7_unit 153 = .ok (.getfield 26, 3) := by decide +kernel
theorem dX7_unit_156 : decode cX7_unit 156 = .ok (.getfield 155, 3) := by decide +kernel
theorem dX7_unit_159 : decode cX7_unit 159 = .ok (.iload_n 1, 1) := by decide +kernel
theorem dX7_unit_160 : decode cX7_unit 160 = .ok (.iaload, 1) := by decide +kernel
theorem dX7_unit_161 : decode cX7_unit 161 = .ok (.invokevirtual 224, 3) := by decide +kernel
theorem dX7_unit_164 : decode cX7_unit 164 = .ok (.ifCond .eq 7, 3) := by decide +kernel
theorem dX7_unit_167 : decode cX7_unit 167 = .ok (.iconst 1, 1) := by decide +kernel
theorem dX7_unit_168 : decode cX7_unit 168 = .ok (.goto 4, 3) := by decide +kernel
theorem dX7_unit_171 : decode cX7_unit 171 = .ok (.iconst 0, 1) := by decide +kernel
theorem dX7_unit_172 : decode cX7_unit 172 = .ok (.ireturn, 1) := by decide +kernel
theorem dX7_unit_173 : decode cX7_unit 173 = .ok (.ldc 69, 2) := by decide +kernel
theorem dX7_unit_175 : decode cX7_unit 175 = .ok (.ireturn, 1) := by decide +kernel
theorem dX7_hour_0 : decode cX7_hour 0 = .ok (.aload_n 0, 1) := by decide +kernel
theorem dX7_hour_1 : decode cX7_hour 1 = .ok (.iload_n 1, 1) := by decide +kernel
theorem dX7_hour_2 : decode cX7_hour 2 = .ok (.invokevirtual 178, 3) := by decide +kernel
theorem dX7_hour_5 : decode cX7_hour 5 = .ok (.ifCond .eq 6, 3) := by decide +kernel
theorem dX7_hour_8 : decode cX7_hour 8 = .ok (.ldc 69, 2) := by decide +kernel
theorem dX7_hour_10 : decode cX7_hour 10 = .ok (.ireturn, 1) := by decide +kernel
theorem dX7_hour_11 : decode cX7_hour 11 = .ok (.aload_n 0, 1) := by decide +kernel
theorem dX7_hour_12 : decode cX7_hour 12 = .ok (.getfield 26, 3) := by decide +kernel
theorem dX7_hour_15 : decode cX7_hour 15 = .ok (.iload_n 1, 1) := by decide +kernel
theorem dX7_hour_16 : decode cX7_hour 16 = .ok (.invokevirtual 228, 3) := by decide +kernel
theorem dX7_hour_19 : decode cX7_hour 19 = .ok (.istore_n 3, 1) := by decide +kernel
theorem dX7_hour_20 : decode cX7_hour 20 = .ok (.aload_n 0, 1) := by decide +kernel
theorem dX7_hour_21 : decode cX7_hour 21 = .ok (.getfield 26, 3) := by decide +kernel
theorem dX7_hour_24 : decode cX7_hour 24 = .ok (.iload_n 1, 1) := by decide +kernel
theorem dX7_hour_25 : decode cX7_hour 25 = .ok (.invokevirtual 231, 3) := by decide +kernel
theorem dX7_hour_28 : decode cX7_hour 28 = .ok (.istore 4, 2) := by decide +kernel
theorem dX7_hour_30 : decode cX7_hour 30 = .ok (.iload_n 2, 1) := by decide +kernel
theorem dX7_hour_31 : decode cX7_hour 31 = .ok (.tableswitch 93 0 4 #[33, 43, 45, 54, 65], 33) := by decide +kernel
theorem dX7_hour_64 : decode cX7_hour 64 = .ok (.aload_n 0, 1) := by decide +kernel
theorem dX7_hour_65 : decode cX7_hour 65 = .ok (.getfield 26, 3) := by decide +kernel
theorem dX7_hour_68 : decode cX7_hour 68 = .ok (.getfield 181, 3) := by decide +kernel
theorem dX7_hour_71 : decode cX7_hour 71 = .ok (.iload_n 1, 1) := by decide +kernel
theorem dX7_hour_72 : decode cX7_hour 72 = .ok (.iaload, 1) := by decide +kernel
theorem dX7_hour_73 : decode cX7_hour 73 = .ok (.ireturn, 1) := by decide +kernel
theorem dX7_hour_74 : decode cX7_hour 74 = .ok (.iload_n 3, 1) := by decide +kernel
theorem dX7_hour_75 : decode cX7_hour 75 = .ok (.ireturn, 1) := by decide +kernel
theorem dX7_hour_76 : decode cX7_hour 76 = .ok (.aload_n 0, 1) := by decide +kernel
theorem dX7_hour_77 : decode cX7_hour 77 = .ok (.getfield 26, 3) := by decide +kernel
theorem dX7_hour_80 : decode cX7_hour 80 = .ok (.iload_n 3, 1) := by decide +kernel
theorem dX7_hour_81 : decode cX7_hour 81 = .ok (.invokevirtual 234, 3) := by decide +kernel
theorem dX7_hour_84 : decode cX7_hour 84 = .ok (.ireturn, 1) := by decide +kernel
theorem dX7_hour_85 : decode cX7_hour 85 = .ok (.aload_n 0, 1) := by decide +kernel
theorem dX7_hour_86 : decode cX7_hour 86 = .ok (.getfield 26, 3) := by decide +kernel
theorem dX7_hour_89 : decode cX7_hour 89 = .ok (.iload_n 3, 1) := by decide +kernel
theorem dX7_hour_90 : decode cX7_hour 90 = .ok (.iload 4, 2) := by decide +kernel
theorem dX7_hour_92 : decode cX7_hour 92 = .ok (.invokevirtual 237, 3) := by decide +kernel
theorem dX7_hour_95 : decode cX7_hour 95 = .ok (.ireturn, 1) := by decide +kernel
theorem dX7_hour_96 : decode cX7_hour 96 = .ok (.aload_n 0, 1) := by decide +kernel
theorem dX7_hour_97 : decode cX7_hour 97 = .ok (.getfield 26, 3) := by decide +kernel
theorem dX7_hour_100 : decode cX7_hour 100 = .ok (.aload_n 0, 1) := by decide +kernel
theorem dX7_hour_101 : decode cX7_hour 101 = .ok (.getfield 26, 3) := by decide +kernel
theorem dX7_hour_104 : decode cX7_hour 104 = .ok (.getfield 181, 3) := by decide +kernel
theorem dX7_hour_107 : decode cX7_hour 107 = .ok (.iload_n 1, 1) := by decide +kernel
theorem dX7_hour_108 : decode cX7_hour 108 = .ok (.iaload, 1) := by decide +kernel
theorem dX7_hour_109 : decode cX7_hour 109 = .ok (.iload_n 3, 1) := by decide +kernel
theorem dX7_hour_110 : decode cX7_hour 110 = .ok (.iload 4, 2) := by decide +kernel
theorem dX7_hour_112 : decode cX7_hour 112 = .ok (.invokevirtual 241, 3) := by decide +kernel
theorem dX7_hour_115 : decode cX7_hour 115 = .ok (.ifCond .eq 7, 3) := by decide +kernel
theorem dX7_hour_118 : decode cX7_hour 118 = .ok (.iconst 1, 1) := by decide +kernel
theorem dX7_hour_119 : decode cX7_hour 119 = .ok (.goto 4, 3) := by decide +kernel
theorem dX7_hour_122 : decode cX7_hour 122 = .ok (.iconst 0, 1) := by decide +kernel
theorem dX7_hour_123 : decode cX7_hour 123 = .ok (.ireturn, 1) := by decide +kernel
theorem dX7_hour_124 : decode cX7_hour 124 = .ok (.ldc 69, 2) := by decide +kernel
theorem dX7_hour_126 : decode cX7_hour 126 = .ok (.ireturn, 1) := by decide +kernel
theorem dX7_gives_0 : decode cX7_gives 0 = .ok (.aload_n 0, 1) := by decide +kernel
theorem dX7_gives_1 : decode cX7_gives 1 = .ok (.iload_n 1, 1) := by decide +kernel
theorem dX7_gives_2 : decode cX7_gives 2 = .ok (.invokevirtual 148, 3) := by decide +kernel
theorem dX7_gives_5 : decode cX7_gives 5 = .ok (.ifCond .ne 11, 3) := by decide +kernel
theorem dX7_gives_8 : decode cX7_gives 8 = .ok (.aload_n 0, 1) := by decide +kernel
theorem dX7_gives_9 : decode cX7_gives 9 = .ok (.iload_n 2, 1) := by decide +kernel
theorem dX7_gives_10 : decode cX7_gives 10 = .ok (.invokevirtual 178, 3) := by decide +kernel
theorem dX7_gives_13 : decode cX7_gives 13 = .ok (.ifCond .eq 6, 3) := by decide +kernel
theorem dX7_gives_16 : decode cX7_gives 16 = .ok (.ldc 69, 2) := by decide +kernel
theorem dX7_gives_18 : decode cX7_gives 18 = .ok (.ireturn, 1) := by decide +kernel
theorem dX7_gives_19 : decode cX7_gives 19 = .ok (.aload_n 0, 1) := by decide +kernel
theorem dX7_gives_20 : decode cX7_gives 20 = .ok (.getfield 26, 3) := by decide +kernel
theorem dX7_gives_23 : decode cX7_gives 23 = .ok (.iload_n 2, 1) := by decide +kernel
theorem dX7_gives_24 : decode cX7_gives 24 = .ok (.invokevirtual 228, 3) := by decide +kernel
theorem dX7_gives_27 : decode cX7_gives 27 = .ok (.istore_n 3, 1) := by decide +kernel
theorem dX7_gives_28 : decode cX7_gives 28 = .ok (.aload_n 0, 1) := by decide +kernel
theorem dX7_gives_29 : decode cX7_gives 29 = .ok (.getfield 26, 3) := by decide +kernel
theorem dX7_gives_32 : decode cX7_gives 32 = .ok (.iload_n 2, 1) := by decide +kernel
theorem dX7_gives_33 : decode cX7_gives 33 = .ok (.invokevirtual 231, 3) := by decide +kernel
theorem dX7_gives_36 : decode cX7_gives 36 = .ok (.istore 4, 2) := by decide +kernel
theorem dX7_gives_38 : decode cX7_gives 38 = .ok (.aload_n 0, 1) := by decide +kernel
theorem dX7_gives_39 : decode cX7_gives 39 = .ok (.getfield 26, 3) := by decide +kernel
theorem dX7_gives_42 : decode cX7_gives 42 = .ok (.aload_n 0, 1) := by decide +kernel
theorem dX7_gives_43 : decode cX7_gives 43 = .ok (.getfield 26, 3) := by decide +kernel
theorem dX7_gives_46 : decode cX7_gives 46 = .ok (.getfield 181, 3) := by decide +kernel
theorem dX7_gives_49 : decode cX7_gives 49 = .ok (.iload_n 2, 1) := by decide +kernel
theorem dX7_gives_50 : decode cX7_gives 50 = .ok (.iaload, 1) := by decide +kernel
theorem dX7_gives_51 : decode cX7_gives 51 = .ok (.iload_n 3, 1) := by decide +kernel
theorem dX7_gives_52 : decode cX7_gives 52 = .ok (.iload 4, 2) := by decide +kernel
theorem dX7_gives_54 : decode cX7_gives 54 = .ok (.invokevirtual 241, 3) := by decide +kernel
theorem dX7_gives_57 : decode cX7_gives 57 = .ok (.ifCond .ne 6, 3) := by decide +kernel
theorem dX7_gives_60 : decode cX7_gives 60 = .ok (.ldc 169, 2) := by decide +kernel
theorem dX7_gives_62 : decode cX7_gives 62 = .ok (.ireturn, 1) := by decide +kernel
theorem dX7_gives_63 : decode cX7_gives 63 = .ok (.aload_n 0, 1) := by decide +kernel
theorem dX7_gives_64 : decode cX7_gives 64 = .ok (.getfield 26, 3) := by decide +kernel
theorem dX7_gives_67 : decode cX7_gives 67 = .ok (.iload_n 1, 1) := by decide +kernel
theorem dX7_gives_68 : decode cX7_gives 68 = .ok (.aload_n 0, 1) := by decide +kernel
theorem dX7_gives_69 : decode cX7_gives 69 = .ok (.getfield 26, 3) := by decide +kernel
theorem dX7_gives_72 : decode cX7_gives 72 = .ok (.getfield 181, 3) := by decide +kernel
theorem dX7_gives_75 : decode cX7_gives 75 = .ok (.iload_n 2, 1) := by decide +kernel
theorem dX7_gives_76 : decode cX7_gives 76 = .ok (.iaload, 1) := by decide +kernel
theorem dX7_gives_77 : decode cX7_gives 77 = .ok (.iload_n 3, 1) := by decide +kernel
theorem dX7_gives_78 : decode cX7_gives 78 = .ok (.iload 4, 2) := by decide +kernel
theorem dX7_gives_80 : decode cX7_gives 80 = .ok (.invokevirtual 244, 3) := by decide +kernel
theorem dX7_gives_83 : decode cX7_gives 83 = .ok (.ireturn, 1) := by decide +kernel
theorem dX7_plan_0 : decode cX7_plan 0 = .ok (.aload_n 0, 1) := by decide +kernel
theorem dX7_plan_1 : decode cX7_plan 1 = .ok (.invokevirtual 162, 3) := by decide +kernel
theorem dX7_plan_4 : decode cX7_plan 4 = .ok (.ifCond .eq 6, 3) := by decide +kernel
theorem dX7_plan_7 : decode cX7_plan 7 = .ok (.ldc 158, 2) := by decide +kernel
theorem dX7_plan_9 : decode cX7_plan 9 = .ok (.ireturn, 1) := by decide +kernel
theorem dX7_plan_10 : decode cX7_plan 10 = .ok (.iload_n 1, 1) := by decide +kernel
theorem dX7_plan_11 : decode cX7_plan 11 = .ok (.tableswitch 73 0 4 #[33, 41, 49, 57, 65], 33) := by decide +kernel
theorem dX7_plan_44 : decode cX7_plan 44 = .ok (.aload_n 0, 1) := by decide +kernel
theorem dX7_plan_45 : decode cX7_plan 45 = .ok (.getfield 26, 3) := by decide +kernel
theorem dX7_plan_48 : decode cX7_plan 48 = .ok (.invokevirtual 248, 3) := by decide +kernel
theorem dX7_plan_51 : decode cX7_plan 51 = .ok (.ireturn, 1) := by decide +kernel
theorem dX7_plan_52 : decode cX7_plan 52 = .ok (.aload_n 0, 1) := by decide +kernel
theorem dX7_plan_53 : decode cX7_plan 53 = .ok (.getfield 26, 3) := by decide +kernel
theorem dX7_plan_56 : decode cX7_plan 56 = .ok (.invokevirtual 251, 3) := by decide +kernel
theorem dX7_plan_59 : decode cX7_plan 59 = .ok (.ireturn, 1) := by decide +kernel
theorem dX7_plan_60 : decode cX7_plan 60 = .ok (.aload_n 0, 1) := by decide +kernel
theorem dX7_plan_61 : decode cX7_plan 61 = .ok (.getfield 26, 3) := by decide +kernel
theorem dX7_plan_64 : decode cX7_plan 64 = .ok (.invokevirtual 254, 3) := by decide +kernel
theorem dX7_plan_67 : decode cX7_plan 67 = .ok (.ireturn, 1) := by decide +kernel
theorem dX7_plan_68 : decode cX7_plan 68 = .ok (.aload_n 0, 1) := by decide +kernel
