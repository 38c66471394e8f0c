theorem dX8_sets_143 : decode cX8_sets 143 = .ok (.istore 4, 2) := by decide +kernel
theorem dX8_sets_145 : decode cX8_sets 145 = .ok (.iload 5, 2) := by decide +kernel
theorem dX8_sets_147 : decode cX8_sets 147 = .ok (.iload 6, 2) := by decide +kernel
theorem dX8_sets_149 : decode cX8_sets 149 = .ok (.ior, 1) := by decide +kernel
theorem dX8_sets_150 : decode cX8_sets 150 = .ok (.istore 5, 2) := by decide +kernel
theorem dX8_sets_152 : decode cX8_sets 152 = .ok (.iinc 3 1, 3) := by decide +kernel
theorem dX8_sets_155 : decode cX8_sets 155 = .ok (.iinc 6 1, 3) := by decide +kernel
theorem dX8_sets_158 : decode cX8_sets 158 = .ok (.goto (-97), 3) := by decide +kernel
theorem dX8_sets_161 : decode cX8_sets 161 = .ok (.iload_n 2, 1) := by decide +kernel
theorem dX8_sets_162 : decode cX8_sets 162 = .ok (.ifCond .ne 7, 3) := by decide +kernel
theorem dX8_sets_165 : decode cX8_sets 165 = .ok (.iload_n 3, 1) := by decide +kernel
theorem dX8_sets_166 : decode cX8_sets 166 = .ok (.goto 15, 3) := by decide +kernel
theorem dX8_sets_169 : decode cX8_sets 169 = .ok (.iload_n 2, 1) := by decide +kernel
theorem dX8_sets_170 : decode cX8_sets 170 = .ok (.iconst 1, 1) := by decide +kernel
theorem dX8_sets_171 : decode cX8_sets 171 = .ok (.if_icmp .ne 8, 3) := by decide +kernel
theorem dX8_sets_174 : decode cX8_sets 174 = .ok (.iload 4, 2) := by decide +kernel
theorem dX8_sets_176 : decode cX8_sets 176 = .ok (.goto 5, 3) := by decide +kernel
theorem dX8_sets_179 : decode cX8_sets 179 = .ok (.iload 5, 2) := by decide +kernel
theorem dX8_sets_181 : decode cX8_sets 181 = .ok (.ireturn, 1) := by decide +kernel
theorem dX8_afterTurns_0 : decode cX8_afterTurns 0 = .ok (.aload_n 0, 1) := by decide +kernel
theorem dX8_afterTurns_1 : decode cX8_afterTurns 1 = .ok (.getfield 19, 3) := by decide +kernel
theorem dX8_afterTurns_4 : decode cX8_afterTurns 4 = .ok (.iconst 0, 1) := by decide +kernel
theorem dX8_afterTurns_5 : decode cX8_afterTurns 5 = .ok (.iaload, 1) := by decide +kernel
theorem dX8_afterTurns_6 : decode cX8_afterTurns 6 = .ok (.iconst 1, 1) := by decide +kernel
theorem dX8_afterTurns_7 : decode cX8_afterTurns 7 = .ok (.isub, 1) := by decide +kernel
theorem dX8_afterTurns_8 : decode cX8_afterTurns 8 = .ok (.istore 6, 2) := by decide +kernel
theorem dX8_afterTurns_10 : decode cX8_afterTurns 10 = .ok (.iload 5, 2) := by decide +kernel
theorem dX8_afterTurns_12 : decode cX8_afterTurns 12 = .ok (.istore 7, 2) := by decide +kernel
theorem dX8_afterTurns_14 : decode cX8_afterTurns 14 = .ok (.aload_n 0, 1) := by decide +kernel
theorem dX8_afterTurns_15 : decode cX8_afterTurns 15 = .ok (.invokevirtual 229, 3) := by decide +kernel
theorem dX8_afterTurns_18 : decode cX8_afterTurns 18 = .ok (.iconst 0, 1) := by decide +kernel
theorem dX8_afterTurns_19 : decode cX8_afterTurns 19 = .ok (.istore 8, 2) := by decide +kernel
theorem dX8_afterTurns_21 : decode cX8_afterTurns 21 = .ok (.iload 8, 2) := by decide +kernel
theorem dX8_afterTurns_23 : decode cX8_afterTurns 23 = .ok (.iload_n 3, 1) := by decide +kernel
theorem dX8_afterTurns_24 : decode cX8_afterTurns 24 = .ok (.if_icmp .ge 59, 3) := by decide +kernel
theorem dX8_afterTurns_27 : decode cX8_afterTurns 27 = .ok (.iload 7, 2) := by decide +kernel
theorem dX8_afterTurns_29 : decode cX8_afterTurns 29 = .ok (.iconst 3, 1) := by decide +kernel
theorem dX8_afterTurns_30 : decode cX8_afterTurns 30 = .ok (.irem, 1) := by decide +kernel
theorem dX8_afterTurns_31 : decode cX8_afterTurns 31 = .ok (.istore 9, 2) := by decide +kernel
theorem dX8_afterTurns_33 : decode cX8_afterTurns 33 = .ok (.iload 7, 2) := by decide +kernel
theorem dX8_afterTurns_35 : decode cX8_afterTurns 35 = .ok (.iconst 3, 1) := by decide +kernel
theorem dX8_afterTurns_36 : decode cX8_afterTurns 36 = .ok (.idiv, 1) := by decide +kernel
theorem dX8_afterTurns_37 : decode cX8_afterTurns 37 = .ok (.istore 7, 2) := by decide +kernel
theorem dX8_afterTurns_39 : decode cX8_afterTurns 39 = .ok (.iload 9, 2) := by decide +kernel
theorem dX8_afterTurns_41 : decode cX8_afterTurns 41 = .ok (.iconst 2, 1) := by decide +kernel
theorem dX8_afterTurns_42 : decode cX8_afterTurns 42 = .ok (.if_icmp .ge 35, 3) := by decide +kernel
theorem dX8_afterTurns_45 : decode cX8_afterTurns 45 = .ok (.aload_n 0, 1) := by decide +kernel
theorem dX8_afterTurns_46 : decode cX8_afterTurns 46 = .ok (.getfield 25, 3) := by decide +kernel
theorem dX8_afterTurns_49 : decode cX8_afterTurns 49 = .ok (.iload 8, 2) := by decide +kernel
theorem dX8_afterTurns_51 : decode cX8_afterTurns 51 = .ok (.iconst 2, 1) := by decide +kernel
theorem dX8_afterTurns_52 : decode cX8_afterTurns 52 = .ok (.irem, 1) := by decide +kernel
theorem dX8_afterTurns_53 : decode cX8_afterTurns 53 = .ok (.ifCond .ne 7, 3) := by decide +kernel
theorem dX8_afterTurns_56 : decode cX8_afterTurns 56 = .ok (.iload_n 1, 1) := by decide +kernel
theorem dX8_afterTurns_57 : decode cX8_afterTurns 57 = .ok (.goto 4, 3) := by decide +kernel
theorem dX8_afterTurns_60 : decode cX8_afterTurns 60 = .ok (.iload_n 2, 1) := by decide +kernel
theorem dX8_afterTurns_61 : decode cX8_afterTurns 61 = .ok (.iload 9, 2) := by decide +kernel
theorem dX8_afterTurns_63 : decode cX8_afterTurns 63 = .ok (.ifCond .ne 7, 3) := by decide +kernel
theorem dX8_afterTurns_66 : decode cX8_afterTurns 66 = .ok (.iconst 0, 1) := by decide +kernel
theorem dX8_afterTurns_67 : decode cX8_afterTurns 67 = .ok (.goto 5, 3) := by decide +kernel
theorem dX8_afterTurns_70 : decode cX8_afterTurns 70 = .ok (.iload 6, 2) := by decide +kernel
theorem dX8_afterTurns_72 : decode cX8_afterTurns 72 = .ok (.iload 4, 2) := by decide +kernel
theorem dX8_afterTurns_74 : decode cX8_afterTurns 74 = .ok (.invokestatic 144, 3) := by decide +kernel
theorem dX8_afterTurns_77 : decode cX8_afterTurns 77 = .ok (.iinc 8 1, 3) := by decide +kernel
theorem dX8_afterTurns_80 : decode cX8_afterTurns 80 = .ok (.goto (-59), 3) := by decide +kernel
theorem dX8_afterTurns_83 : decode cX8_afterTurns 83 = .ok (.aload_n 0, 1) := by decide +kernel
theorem dX8_afterTurns_84 : decode cX8_afterTurns 84 = .ok (.aload_n 0, 1) := by decide +kernel
theorem dX8_afterTurns_85 : decode cX8_afterTurns 85 = .ok (.getfield 25, 3) := by decide +kernel
theorem dX8_afterTurns_88 : decode cX8_afterTurns 88 = .ok (.invokevirtual 232, 3) := by decide +kernel
theorem dX8_afterTurns_91 : decode cX8_afterTurns 91 = .ok (.aload_n 0, 1) := by decide +kernel
theorem dX8_afterTurns_92 : decode cX8_afterTurns 92 = .ok (.getfield 46, 3) := by decide +kernel
theorem dX8_afterTurns_95 : decode cX8_afterTurns 95 = .ok (.iconst 0, 1) := by decide +kernel
theorem dX8_afterTurns_96 : decode cX8_afterTurns 96 = .ok (.iaload, 1) := by decide +kernel
theorem dX8_afterTurns_97 : decode cX8_afterTurns 97 = .ok (.aload_n 0, 1) := by decide +kernel
theorem dX8_afterTurns_98 : decode cX8_afterTurns 98 = .ok (.getfield 46, 3) := by decide +kernel
theorem dX8_afterTurns_101 : decode cX8_afterTurns 101 = .ok (.iload 6, 2) := by decide +kernel
theorem dX8_afterTurns_103 : decode cX8_afterTurns 103 = .ok (.iaload, 1) := by decide +kernel
theorem dX8_afterTurns_104 : decode cX8_afterTurns 104 = .ok (.isub, 1) := by decide +kernel
theorem dX8_afterTurns_105 : decode cX8_afterTurns 105 = .ok (.ireturn, 1) := by decide +kernel
theorem dX8_byTurns_0 : decode cX8_byTurns 0 = .ok (.aload_n 0, 1) := by decide +kernel
theorem dX8_byTurns_1 : decode cX8_byTurns 1 = .ok (.iconst 0, 1) := by decide +kernel
theorem dX8_byTurns_2 : decode cX8_byTurns 2 = .ok (.putfield 62, 3) := by decide +kernel
theorem dX8_byTurns_5 : decode cX8_byTurns 5 = .ok (.aload_n 0, 1) := by decide +kernel
theorem dX8_byTurns_6 : decode cX8_byTurns 6 = .ok (.invokevirtual 174, 3) := by decide +kernel
theorem dX8_byTurns_9 : decode cX8_byTurns 9 = .ok (.ifCond .ne 6, 3) := by decide +kernel
theorem dX8_byTurns_12 : decode cX8_byTurns 12 = .ok (.ldc 253, 2) := by decide +kernel
theorem dX8_byTurns_14 : decode cX8_byTurns 14 = .ok (.ireturn, 1) := by decide +kernel
theorem dX8_byTurns_15 : decode cX8_byTurns 15 = .ok (.aload_n 0, 1) := by decide +kernel
theorem dX8_byTurns_16 : decode cX8_byTurns 16 = .ok (.iload_n 1, 1) := by decide +kernel
theorem dX8_byTurns_17 : decode cX8_byTurns 17 = .ok (.invokevirtual 235, 3) := by decide +kernel
theorem dX8_byTurns_20 : decode cX8_byTurns 20 = .ok (.ifCond .eq 41, 3) := by decide +kernel
theorem dX8_byTurns_23 : decode cX8_byTurns 23 = .ok (.aload_n 0, 1) := by decide +kernel
theorem dX8_byTurns_24 : decode cX8_byTurns 24 = .ok (.iload_n 2, 1) := by decide +kernel
theorem dX8_byTurns_25 : decode cX8_byTurns 25 = .ok (.invokevirtual 235, 3) := by decide +kernel
theorem dX8_byTurns_28 : decode cX8_byTurns 28 = .ok (.ifCond .eq 33, 3) := by decide +kernel
theorem dX8_byTurns_31 : decode cX8_byTurns 31 = .ok (.iload_n 1, 1) := by decide +kernel
theorem dX8_byTurns_32 : decode cX8_byTurns 32 = .ok (.iload_n 2, 1) := by decide +kernel
theorem dX8_byTurns_33 : decode cX8_byTurns 33 = .ok (.if_icmp .eq 28, 3) := by decide +kernel
theorem dX8_byTurns_36 : decode cX8_byTurns 36 = .ok (.iload_n 3, 1) := by decide +kernel
theorem dX8_byTurns_37 : decode cX8_byTurns 37 = .ok (.i2l, 1) := by decide +kernel
theorem dX8_byTurns_38 : decode cX8_byTurns 38 = .ok (.lconst 0, 1) := by decide +kernel
theorem dX8_byTurns_39 : decode cX8_byTurns 39 = .ok (.ldc2_w 277, 3) := by decide +kernel
theorem dX8_byTurns_42 : decode cX8_byTurns 42 = .ok (.invokestatic 72, 3) := by decide +kernel
theorem dX8_byTurns_45 : decode cX8_byTurns 45 = .ok (.ifCond .eq 16, 3) := by decide +kernel
theorem dX8_byTurns_48 : decode cX8_byTurns 48 = .ok (.iload 4, 2) := by decide +kernel
theorem dX8_byTurns_50 : decode cX8_byTurns 50 = .ok (.i2l, 1) := by decide +kernel
theorem dX8_byTurns_51 : decode cX8_byTurns 51 = .ok (.lconst 1, 1) := by decide +kernel
theorem dX8_byTurns_52 : decode cX8_byTurns 52 = .ok (.ldc2_w 279, 3) := by decide +kernel
theorem dX8_byTurns_55 : decode cX8_byTurns 55 = .ok (.invokestatic 72, 3) := by decide +kernel
theorem dX8_byTurns_58 : decode cX8_byTurns 58 = .ok (.ifCond .ne 6, 3) := by decide +kernel
theorem dX8_byTurns_61 : decode cX8_byTurns 61 = .ok (.ldc 82, 2) := by decide +kernel
theorem dX8_byTurns_63 : decode cX8_byTurns 63 = .ok (.ireturn, 1) := by decide +kernel
theorem dX8_byTurns_64 : decode cX8_byTurns 64 = .ok (.aload_n 0, 1) := by decide +kernel
theorem dX8_byTurns_65 : decode cX8_byTurns 65 = .ok (.getfield 19, 3) := by decide +kernel
theorem dX8_byTurns_68 : decode cX8_byTurns 68 = .ok (.iconst 3, 1) := by decide +kernel
theorem dX8_byTurns_69 : decode cX8_byTurns 69 = .ok (.iaload, 1) := by decide +kernel
theorem dX8_byTurns_70 : decode cX8_byTurns 70 = .ok (.bipush 16, 2) := by decide +kernel
theorem dX8_byTurns_72 : decode cX8_byTurns 72 = .ok (.if_icmp .le 6, 3) := by decide +kernel
theorem dX8_byTurns_75 : decode cX8_byTurns 75 = .ok (.ldc 92, 2) := by decide +kernel
theorem dX8_byTurns_77 : decode cX8_byTurns 77 = .ok (.ireturn, 1) := by decide +kernel
theorem dX8_byTurns_78 : decode cX8_byTurns 78 = .ok (.iload_n 3, 1) := by decide +kernel
theorem dX8_byTurns_79 : decode cX8_byTurns 79 = .ok (.ifCond .ne 7, 3) := by decide +kernel
theorem dX8_byTurns_82 : decode cX8_byTurns 82 = .ok (.iconst 1, 1) := by decide +kernel
theorem dX8_byTurns_83 : decode cX8_byTurns 83 = .ok (.goto 34, 3) := by decide +kernel
theorem dX8_byTurns_86 : decode cX8_byTurns 86 = .ok (.iload_n 3, 1) := by decide +kernel
theorem dX8_byTurns_87 : decode cX8_byTurns 87 = .ok (.iconst 1, 1) := by decide +kernel
theorem dX8_byTurns_88 : decode cX8_byTurns 88 = .ok (.if_icmp .ne 7, 3) := by decide +kernel
theorem dX8_byTurns_91 : decode cX8_byTurns 91 = .ok (.iconst 3, 1) := by decide +kernel
theorem dX8_byTurns_92 : decode cX8_byTurns 92 = .ok (.goto 25, 3) := by decide +kernel
theorem dX8_byTurns_95 : decode cX8_byTurns 95 = .ok (.iload_n 3, 1) := by decide +kernel
theorem dX8_byTurns_96 : decode cX8_byTurns 96 = .ok (.iconst 2, 1) := by decide +kernel
theorem dX8_byTurns_97 : decode cX8_byTurns 97 = .ok (.if_icmp .ne 8, 3) := by decide +kernel
theorem dX8_byTurns_100 : decode cX8_byTurns 100 = .ok (.bipush 9, 2) := by decide +kernel
theorem dX8_byTurns_102 : decode cX8_byTurns 102 = .ok (.goto 15, 3) := by decide +kernel
theorem dX8_byTurns_105 : decode cX8_byTurns 105 = .ok (.iload_n 3, 1) := by decide +kernel
theorem dX8_byTurns_106 : decode cX8_byTurns 106 = .ok (.iconst 3, 1) := by decide +kernel
theorem dX8_byTurns_107 : decode cX8_byTurns 107 = .ok (.if_icmp .ne 8, 3) := by decide +kernel
theorem dX8_byTurns_110 : decode cX8_byTurns 110 = .ok (.bipush 27, 2) := by decide +kernel
theorem dX8_byTurns_112 : decode cX8_byTurns 112 = .ok (.goto 5, 3) := by decide +kernel
theorem dX8_byTurns_115 : decode cX8_byTurns 115 = .ok (.bipush 81, 2) := by decide +kernel
theorem dX8_byTurns_117 : decode cX8_byTurns 117 = .ok (.istore 5, 2) := by decide +kernel
theorem dX8_byTurns_119 : decode cX8_byTurns 119 = .ok (.iconst 0, 1) := by decide +kernel
theorem dX8_byTurns_120 : decode cX8_byTurns 120 = .ok (.istore 6, 2) := by decide +kernel
theorem dX8_byTurns_122 : decode cX8_byTurns 122 = .ok (.iload 6, 2) := by decide +kernel
theorem dX8_byTurns_124 : decode cX8_byTurns 124 = .ok (.iload 5, 2) := by decide +kernel
theorem dX8_byTurns_126 : decode cX8_byTurns 126 = .ok (.if_icmp .ge 27, 3) := by decide +kernel
theorem dX8_byTurns_129 : decode cX8_byTurns 129 = .ok (.aload_n 0, 1) := by decide +kernel
theorem dX8_byTurns_130 : decode cX8_byTurns 130 = .ok (.getfield 49, 3) := by decide +kernel
theorem dX8_byTurns_133 : decode cX8_byTurns 133 = .ok (.iload 6, 2) := by decide +kernel
theorem dX8_byTurns_135 : decode cX8_byTurns 135 = .ok (.aload_n 0, 1) := by decide +kernel
theorem dX8_byTurns_136 : decode cX8_byTurns 136 = .ok (.iload_n 1, 1) := by decide +kernel
theorem dX8_byTurns_137 : decode cX8_byTurns 137 = .ok (.iload_n 2, 1) := by decide +kernel
theorem dX8_byTurns_138 : decode cX8_byTurns 138 = .ok (.iload_n 3, 1) := by decide +kernel
theorem dX8_byTurns_139 : decode cX8_byTurns 139 = .ok (.iload 4, 2) := by decide +kernel
theorem dX8_byTurns_141 : decode cX8_byTurns 141 = .ok (.iload 6, 2) := by decide +kernel
theorem dX8_byTurns_143 : decode cX8_byTurns 143 = .ok (.invokevirtual 281, 3) := by decide +kernel
theorem dX8_byTurns_146 : decode cX8_byTurns 146 = .ok (.iastore, 1) := by decide +kernel
theorem dX8_byTurns_147 : decode cX8_byTurns 147 = .ok (.iinc 6 1, 3) := by decide +kernel
theorem dX8_byTurns_150 : decode cX8_byTurns 150 = .ok (.goto (-28), 3) := by decide +kernel
theorem dX8_byTurns_153 : decode cX8_byTurns 153 = .ok (.iload_n 3, 1) := by decide +kernel
theorem dX8_byTurns_154 : decode cX8_byTurns 154 = .ok (.iconst 1, 1) := by decide +kernel
theorem dX8_byTurns_155 : decode cX8_byTurns 155 = .ok (.isub, 1) := by decide +kernel
theorem dX8_byTurns_156 : decode cX8_byTurns 156 = .ok (.istore 6, 2) := by decide +kernel
theorem dX8_byTurns_158 : decode cX8_byTurns 158 = .ok (.iload 6, 2) := by decide +kernel
theorem dX8_byTurns_160 : decode cX8_byTurns 160 = .ok (.ifCond .lt 129, 3) := by decide +kernel
theorem dX8_byTurns_163 : decode cX8_byTurns 163 = .ok (.iload 5, 2) := by decide +kernel
theorem dX8_byTurns_165 : decode cX8_byTurns 165 = .ok (.iconst 3, 1) := by decide +kernel
theorem dX8_byTurns_166 : decode cX8_byTurns 166 = .ok (.idiv, 1) := by decide +kernel
theorem dX8_byTurns_167 : decode cX8_byTurns 167 = .ok (.istore 5, 2) := by decide +kernel
theorem dX8_byTurns_169 : decode cX8_byTurns 169 = .ok (.iconst 0, 1) := by decide +kernel
theorem dX8_byTurns_170 : decode cX8_byTurns 170 = .ok (.istore 7, 2) := by decide +kernel
theorem dX8_byTurns_172 : decode cX8_byTurns 172 = .ok (.iload 7, 2) := by decide +kernel
theorem dX8_byTurns_174 : decode cX8_byTurns 174 = .ok (.iload 5, 2) := by decide +kernel
theorem dX8_byTurns_176 : decode cX8_byTurns 176 = .ok (.if_icmp .ge 107, 3) := by decide +kernel
theorem dX8_byTurns_179 : decode cX8_byTurns 179 = .ok (.aload_n 0, 1) := by decide +kernel
theorem dX8_byTurns_180 : decode cX8_byTurns 180 = .ok (.getfield 49, 3) := by decide +kernel
theorem dX8_byTurns_183 : decode cX8_byTurns 183 = .ok (.iload 7, 2) := by decide +kernel
theorem dX8_byTurns_185 : decode cX8_byTurns 185 = .ok (.iaload, 1) := by decide +kernel
theorem dX8_byTurns_186 : decode cX8_byTurns 186 = .ok (.istore 8, 2) := by decide +kernel
theorem dX8_byTurns_188 : decode cX8_byTurns 188 = .ok (.iconst 1, 1) := by decide +kernel
theorem dX8_byTurns_189 : decode cX8_byTurns 189 = .ok (.istore 9, 2) := by decide +kernel
theorem dX8_byTurns_191 : decode cX8_byTurns 191 = .ok (.iload 9, 2) := by decide +kernel
theorem dX8_byTurns_193 : decode cX8_byTurns 193 = .ok (.iconst 3, 1) := by decide +kernel
theorem dX8_byTurns_194 : decode cX8_byTurns 194 = .ok (.if_icmp .ge 74, 3) := by decide +kernel
theorem dX8_byTurns_197 : decode cX8_byTurns 197 = .ok (.aload_n 0, 1) := by decide +kernel
theorem dX8_byTurns_198 : decode cX8_byTurns 198 = .ok (.getfield 49, 3) := by decide +kernel
theorem dX8_byTurns_201 : decode cX8_byTurns 201 = .ok (.iload 7, 2) := by decide +kernel
theorem dX8_byTurns_203 : decode cX8_byTurns 203 = .ok (.iload 5, 2) := by decide +kernel
theorem dX8_byTurns_205 : decode cX8_byTurns 205 = .ok (.iload 9, 2) := by decide +kernel
theorem dX8_byTurns_207 : decode cX8_byTurns 207 = .ok (.imul, 1) := by decide +kernel
theorem dX8_byTurns_208 : decode cX8_byTurns 208 = .ok (.iadd, 1) := by decide +kernel
theorem dX8_byTurns_209 : decode cX8_byTurns 209 = .ok (.iaload, 1) := by decide +kernel
theorem dX8_byTurns_210 : decode cX8_byTurns 210 = .ok (.istore 10, 2) := by decide +kernel
theorem dX8_byTurns_212 : decode cX8_byTurns 212 = .ok (.iload 6, 2) := by decide +kernel
theorem dX8_byTurns_214 : decode cX8_byTurns 214 = .ok (.iconst 2, 1) := by decide +kernel
theorem dX8_byTurns_215 : decode cX8_byTurns 215 = .ok (.irem, 1) := by decide +kernel
theorem dX8_byTurns_216 : decode cX8_byTurns 216 = .ok (.ifCond .ne 18, 3) := by decide +kernel
theorem dX8_byTurns_219 : decode cX8_byTurns 219 = .ok (.iload 10, 2) := by decide +kernel
theorem dX8_byTurns_221 : decode cX8_byTurns 221 = .ok (.iload 8, 2) := by decide +kernel
theorem dX8_byTurns_223 : decode cX8_byTurns 223 = .ok (.if_icmp .le 7, 3) := by decide +kernel
theorem dX8_byTurns_226 : decode cX8_byTurns 226 = .ok (.iconst 1, 1) := by decide +kernel
theorem dX8_byTurns_227 : decode cX8_byTurns 227 = .ok (.goto 19, 3) := by decide +kernel
theorem dX8_byTurns_230 : decode cX8_byTurns 230 = .ok (.iconst 0, 1) := by decide +kernel
theorem dX8_byTurns_231 : decode cX8_byTurns 231 = .ok (.goto 15, 3) := by decide +kernel
theorem dX8_byTurns_234 : decode cX8_byTurns 234 = .ok (.iload 10, 2) := by decide +kernel
theorem dX8_byTurns_236 : decode cX8_byTurns 236 = .ok (.iload 8, 2) := by decide +kernel
theorem dX8_byTurns_238 : decode cX8_byTurns 238 = .ok (.if_icmp .ge 7, 3) := by decide +kernel
theorem dX8_byTurns_241 : decode cX8_byTurns 241 = .ok (.iconst 1, 1) := by decide +kernel
theorem dX8_byTurns_242 : decode cX8_byTurns 242 = .ok (.goto 4, 3) := by decide +kernel
theorem dX8_byTurns_245 : decode cX8_byTurns 245 = .ok (.iconst 0, 1) := by decide +kernel
theorem dX8_byTurns_246 : decode cX8_byTurns 246 = .ok (.istore 11, 2) := by decide +kernel
theorem dX8_byTurns_248 : decode cX8_byTurns 248 = .ok (.iload 11, 2) := by decide +kernel
theorem dX8_byTurns_250 : decode cX8_byTurns 250 = .ok (.ifCond .eq 8, 3) := by decide +kernel
theorem dX8_byTurns_253 : decode cX8_byTurns 253 = .ok (.iload 10, 2) := by decide +kernel
theorem dX8_byTurns_255 : decode cX8_byTurns 255 = .ok (.goto 5, 3) := by decide +kernel
theorem dX8_byTurns_258 : decode cX8_byTurns 258 = .ok (.iload 8, 2) := by decide +kernel
theorem dX8_byTurns_260 : decode cX8_byTurns 260 = .ok (.istore 8, 2) := by decide +kernel
theorem dX8_byTurns_262 : decode cX8_byTurns 262 = .ok (.iinc 9 1, 3) := by decide +kernel
theorem dX8_byTurns_265 : decode cX8_byTurns 265 = .ok (.goto (-74), 3) := by decide +kernel
theorem dX8_byTurns_268 : decode cX8_byTurns 268 = .ok (.aload_n 0, 1) := by decide +kernel
theorem dX8_byTurns_269 : decode cX8_byTurns 269 = .ok (.getfield 49, 3) := by decide +kernel
theorem dX8_byTurns_272 : decode cX8_byTurns 272 = .ok (.iload 7, 2) := by decide +kernel
theorem dX8_byTurns_274 : decode cX8_byTurns 274 = .ok (.iload 8, 2) := by decide +kernel
theorem dX8_byTurns_276 : decode cX8_byTurns 276 = .ok (.iastore, 1) := by decide +kernel
theorem dX8_byTurns_277 : decode cX8_byTurns 277 = .ok (.iinc 7 1, 3) := by decide +kernel
theorem dX8_byTurns_280 : decode cX8_byTurns 280 = .ok (.goto (-108), 3) := by decide +kernel
theorem dX8_byTurns_283 : decode cX8_byTurns 283 = .ok (.iinc 6 (-1), 3) := by decide +kernel
theorem dX8_byTurns_286 : decode cX8_byTurns 286 = .ok (.goto (-128), 3) := by decide +kernel
theorem dX8_byTurns_289 : decode cX8_byTurns 289 = .ok (.aload_n 0, 1) := by decide +kernel
theorem dX8_byTurns_290 : decode cX8_byTurns 290 = .ok (.getfield 49, 3) := by decide +kernel
theorem dX8_byTurns_293 : decode cX8_byTurns 293 = .ok (.iconst 0, 1) := by decide +kernel
theorem dX8_byTurns_294 : decode cX8_byTurns 294 = .ok (.iaload, 1) := by decide +kernel
theorem dX8_byTurns_295 : decode cX8_byTurns 295 = .ok (.ireturn, 1) := by decide +kernel
theorem dX8_rowFound_0 : decode cX8_rowFound 0 = .ok (.aload_n 0, 1) := by decide +kernel
theorem dX8_rowFound_1 : decode cX8_rowFound 1 = .ok (.getfield 7, 3) := by decide +kernel
theorem dX8_rowFound_4 : decode cX8_rowFound 4 = .ok (.iload_n 1, 1) := by decide +kernel
theorem dX8_rowFound_5 : decode cX8_rowFound 5 = .ok (.iaload, 1) := by decide +kernel
theorem dX8_rowFound_6 : decode cX8_rowFound 6 = .ok (.ifCond .ge 9, 3) := by decide +kernel
theorem dX8_rowFound_9 : decode cX8_rowFound 9 = .ok (.aload_n 0, 1) := by decide +kernel
theorem dX8_rowFound_10 : decode cX8_rowFound 10 = .ok (.iconst 1, 1) := by decide +kernel
theorem dX8_rowFound_11 : decode cX8_rowFound 11 = .ok (.invokevirtual 83, 3) := by decide +kernel
theorem dX8_rowFound_14 : decode cX8_rowFound 14 = .ok (.ireturn, 1) := by decide +kernel
theorem dX8_rowFound_15 : decode cX8_rowFound 15 = .ok (.iload_n 2, 1) := by decide +kernel
theorem dX8_rowFound_16 : decode cX8_rowFound 16 = .ok (.ifCond .lt 19, 3) := by decide +kernel
theorem dX8_rowFound_19 : decode cX8_rowFound 19 = .ok (.iload_n 2, 1) := by decide +kernel
theorem dX8_rowFound_20 : decode cX8_rowFound 20 = .ok (.i2l, 1) := by decide +kernel
theorem dX8_rowFound_21 : decode cX8_rowFound 21 = .ok (.iload_n 3, 1) := by decide +kernel
theorem dX8_rowFound_22 : decode cX8_rowFound 22 = .ok (.i2l, 1) := by decide +kernel
theorem dX8_rowFound_23 : decode cX8_rowFound 23 = .ok (.ladd, 1) := by decide +kernel
theorem dX8_rowFound_24 : decode cX8_rowFound 24 = .ok (.aload_n 0, 1) := by decide +kernel
theorem dX8_rowFound_25 : decode cX8_rowFound 25 = .ok (.getfield 13, 3) := by decide +kernel
theorem dX8_rowFound_28 : decode cX8_rowFound 28 = .ok (.iload_n 1, 1) := by decide +kernel
theorem dX8_rowFound_29 : decode cX8_rowFound 29 = .ok (.iaload, 1) := by decide +kernel
theorem dX8_rowFound_30 : decode cX8_rowFound 30 = .ok (.i2l, 1) := by decide +kernel
theorem dX8_rowFound_31 : decode cX8_rowFound 31 = .ok (.lcmp, 1) := by decide +kernel
theorem dX8_rowFound_32 : decode cX8_rowFound 32 = .ok (.ifCond .le 9, 3) := by decide +kernel
theorem dX8_rowFound_35 : decode cX8_rowFound 35 = .ok (.aload_n 0, 1) := by decide +kernel
theorem dX8_rowFound_36 : decode cX8_rowFound 36 = .ok (.iconst 2, 1) := by decide +kernel
theorem dX8_rowFound_37 : decode cX8_rowFound 37 = .ok (.invokevirtual 83, 3) := by decide +kernel
theorem dX8_rowFound_40 : decode cX8_rowFound 40 = .ok (.ireturn, 1) := by decide +kernel
theorem dX8_rowFound_41 : decode cX8_rowFound 41 = .ok (.aload_n 0, 1) := by decide +kernel
theorem dX8_rowFound_42 : decode cX8_rowFound 42 = .ok (.iconst 0, 1) := by decide +kernel
theorem dX8_rowFound_43 : decode cX8_rowFound 43 = .ok (.putfield 66, 3) := by decide +kernel
theorem dX8_rowFound_46 : decode cX8_rowFound 46 = .ok (.iconst 0, 1) := by decide +kernel
theorem dX8_rowFound_47 : decode cX8_rowFound 47 = .ok (.ireturn, 1) := by decide +kernel
theorem dX8_isPaidSo_0 : decode cX8_isPaidSo 0 = .ok (.iconst 1, 1) := by decide +kernel
theorem dX8_isPaidSo_1 : decode cX8_isPaidSo 1 = .ok (.istore_n 2, 1) := by decide +kernel
theorem dX8_isPaidSo_2 : decode cX8_isPaidSo 2 = .ok (.iconst 0, 1) := by decide +kernel
theorem dX8_isPaidSo_3 : decode cX8_isPaidSo 3 = .ok (.istore_n 3, 1) := by decide +kernel
theorem dX8_isPaidSo_4 : decode cX8_isPaidSo 4 = .ok (.iload_n 3, 1) := by decide +kernel
theorem dX8_isPaidSo_5 : decode cX8_isPaidSo 5 = .ok (.aload_n 0, 1) := by decide +kernel
theorem dX8_isPaidSo_6 : decode cX8_isPaidSo 6 = .ok (.getfield 19, 3) := by decide +kernel
theorem dX8_isPaidSo_9 : decode cX8_isPaidSo 9 = .ok (.iconst 0, 1) := by decide +kernel
theorem dX8_isPaidSo_10 : decode cX8_isPaidSo 10 = .ok (.iaload, 1) := by decide +kernel
theorem dX8_isPaidSo_11 : decode cX8_isPaidSo 11 = .ok (.if_icmp .ge 36, 3) := by decide +kernel
theorem dX8_isPaidSo_14 : decode cX8_isPaidSo 14 = .ok (.iload_n 2, 1) := by decide +kernel
theorem dX8_isPaidSo_15 : decode cX8_isPaidSo 15 = .ok (.ifCond .eq 24, 3) := by decide +kernel
theorem dX8_isPaidSo_18 : decode cX8_isPaidSo 18 = .ok (.aload_n 0, 1) := by decide +kernel
theorem dX8_isPaidSo_19 : decode cX8_isPaidSo 19 = .ok (.getfield 46, 3) := by decide +kernel
theorem dX8_isPaidSo_22 : decode cX8_isPaidSo 22 = .ok (.iload_n 3, 1) := by decide +kernel
theorem dX8_isPaidSo_23 : decode cX8_isPaidSo 23 = .ok (.iaload, 1) := by decide +kernel
theorem dX8_isPaidSo_24 : decode cX8_isPaidSo 24 = .ok (.aload_n 0, 1) := by decide +kernel
theorem dX8_isPaidSo_25 : decode cX8_isPaidSo 25 = .ok (.getfield 16, 3) := by decide +kernel
theorem dX8_isPaidSo_28 : decode cX8_isPaidSo 28 = .ok (.iload_n 1, 1) := by decide +kernel
theorem dX8_isPaidSo_29 : decode cX8_isPaidSo 29 = .ok (.iload_n 3, 1) := by decide +kernel
theorem dX8_isPaidSo_30 : decode cX8_isPaidSo 30 = .ok (.iadd, 1) := by decide +kernel
theorem dX8_isPaidSo_31 : decode cX8_isPaidSo 31 = .ok (.iaload, 1) := by decide +kernel
theorem dX8_isPaidSo_32 : decode cX8_isPaidSo 32 = .ok (.if_icmp .ne 7, 3) := by decide +kernel
theorem dX8_isPaidSo_35 : decode cX8_isPaidSo 35 = .ok (.iconst 1, 1) := by decide +kernel
theorem dX8_isPaidSo_36 : decode cX8_isPaidSo 36 = .ok (.goto 4, 3) := by decide +kernel
theorem dX8_isPaidSo_39 : decode cX8_isPaidSo 39 = .ok (.iconst 0, 1) := by decide +kernel
theorem dX8_isPaidSo_40 : decode cX8_isPaidSo 40 = .ok (.istore_n 2, 1) := by decide +kernel
theorem dX8_isPaidSo_41 : decode cX8_isPaidSo 41 = .ok (.iinc 3 1, 3) := by decide +kernel
theorem dX8_isPaidSo_44 : decode cX8_isPaidSo 44 = .ok (.goto (-40), 3) := by decide +kernel
theorem dX8_isPaidSo_47 : decode cX8_isPaidSo 47 = .ok (.iload_n 2, 1) := by decide +kernel
theorem dX8_isPaidSo_48 : decode cX8_isPaidSo 48 = .ok (.ireturn, 1) := by decide +kernel
theorem dX8_potsOf_0 : decode cX8_potsOf 0 = .ok (.iconst 0, 1) := by decide +kernel
theorem dX8_potsOf_1 : decode cX8_potsOf 1 = .ok (.istore_n 3, 1) := by decide +kernel
theorem dX8_potsOf_2 : decode cX8_potsOf 2 = .ok (.ldc 105, 2) := by decide +kernel
theorem dX8_potsOf_4 : decode cX8_potsOf 4 = .ok (.istore 4, 2) := by decide +kernel
theorem dX8_potsOf_6 : decode cX8_potsOf 6 = .ok (.aload_n 0, 1) := by decide +kernel
theorem dX8_potsOf_7 : decode cX8_potsOf 7 = .ok (.invokevirtual 229, 3) := by decide +kernel
theorem dX8_potsOf_10 : decode cX8_potsOf 10 = .ok (.aload_n 0, 1) := by decide +kernel
theorem dX8_potsOf_11 : decode cX8_potsOf 11 = .ok (.aload_n 0, 1) := by decide +kernel
theorem dX8_potsOf_12 : decode cX8_potsOf 12 = .ok (.getfield 25, 3) := by decide +kernel
theorem dX8_potsOf_15 : decode cX8_potsOf 15 = .ok (.invokevirtual 232, 3) := by decide +kernel
theorem dX8_potsOf_18 : decode cX8_potsOf 18 = .ok (.iconst 0, 1) := by decide +kernel
theorem dX8_potsOf_19 : decode cX8_potsOf 19 = .ok (.istore 5, 2) := by decide +kernel
theorem dX8_potsOf_21 : decode cX8_potsOf 21 = .ok (.iload 5, 2) := by decide +kernel
theorem dX8_potsOf_23 : decode cX8_potsOf 23 = .ok (.sipush 1000, 3) := by decide +kernel
theorem dX8_potsOf_26 : decode cX8_potsOf 26 = .ok (.if_icmp .ge 49, 3) := by decide +kernel
theorem dX8_potsOf_29 : decode cX8_potsOf 29 = .ok (.aload_n 0, 1) := by decide +kernel
theorem dX8_potsOf_30 : decode cX8_potsOf 30 = .ok (.getfield 25, 3) := by decide +kernel
theorem dX8_potsOf_33 : decode cX8_potsOf 33 = .ok (.iconst 1, 1) := by decide +kernel
theorem dX8_potsOf_34 : decode cX8_potsOf 34 = .ok (.iload 5, 2) := by decide +kernel
theorem dX8_potsOf_36 : decode cX8_potsOf 36 = .ok (.iastore, 1) := by decide +kernel
theorem dX8_potsOf_37 : decode cX8_potsOf 37 = .ok (.aload_n 0, 1) := by decide +kernel
theorem dX8_potsOf_38 : decode cX8_potsOf 38 = .ok (.aload_n 0, 1) := by decide +kernel
theorem dX8_potsOf_39 : decode cX8_potsOf 39 = .ok (.getfield 25, 3) := by decide +kernel
theorem dX8_potsOf_42 : decode cX8_potsOf 42 = .ok (.invokevirtual 226, 3) := by decide +kernel
theorem dX8_potsOf_45 : decode cX8_potsOf 45 = .ok (.aload_n 0, 1) := by decide +kernel
theorem dX8_potsOf_46 : decode cX8_potsOf 46 = .ok (.iload_n 1, 1) := by decide +kernel
theorem dX8_potsOf_47 : decode cX8_potsOf 47 = .ok (.invokevirtual 285, 3) := by decide +kernel
theorem dX8_potsOf_50 : decode cX8_potsOf 50 = .ok (.ifCond .eq 19, 3) := by decide +kernel
theorem dX8_potsOf_53 : decode cX8_potsOf 53 = .ok (.iload_n 3, 1) := by decide +kernel
theorem dX8_potsOf_54 : decode cX8_potsOf 54 = .ok (.ifCond .ne 8, 3) := by decide +kernel
theorem dX8_potsOf_57 : decode cX8_potsOf 57 = .ok (.iload 5, 2) := by decide +kernel
theorem dX8_potsOf_59 : decode cX8_potsOf 59 = .ok (.goto 5, 3) := by decide +kernel
theorem dX8_potsOf_62 : decode cX8_potsOf 62 = .ok (.iload 4, 2) := by decide +kernel
theorem dX8_potsOf_64 : decode cX8_potsOf 64 = .ok (.istore 4, 2) := by decide +kernel
theorem dX8_potsOf_66 : decode cX8_potsOf 66 = .ok (.iinc 3 1, 3) := by decide +kernel
theorem dX8_potsOf_69 : decode cX8_potsOf 69 = .ok (.iinc 5 1, 3) := by decide +kernel
theorem dX8_potsOf_72 : decode cX8_potsOf 72 = .ok (.goto (-51), 3) := by decide +kernel
theorem dX8_potsOf_75 : decode cX8_potsOf 75 = .ok (.iload_n 2, 1) := by decide +kernel
theorem dX8_potsOf_76 : decode cX8_potsOf 76 = .ok (.ifCond .ne 7, 3) := by decide +kernel
theorem dX8_potsOf_79 : decode cX8_potsOf 79 = .ok (.iload_n 3, 1) := by decide +kernel
theorem dX8_potsOf_80 : decode cX8_potsOf 80 = .ok (.goto 5, 3) := by decide +kernel
theorem dX8_potsOf_83 : decode cX8_potsOf 83 = .ok (.iload 4, 2) := by decide +kernel
theorem dX8_potsOf_85 : decode cX8_potsOf 85 = .ok (.ireturn, 1) := by decide +kernel
theorem dX8_kindsOf_0 : decode cX8_kindsOf 0 = .ok (.iconst 0, 1) := by decide +kernel
theorem dX8_kindsOf_1 : decode cX8_kindsOf 1 = .ok (.istore_n 3, 1) := by decide +kernel
theorem dX8_kindsOf_2 : decode cX8_kindsOf 2 = .ok (.iconst 1, 1) := by decide +kernel
theorem dX8_kindsOf_3 : decode cX8_kindsOf 3 = .ok (.istore 4, 2) := by decide +kernel
theorem dX8_kindsOf_5 : decode cX8_kindsOf 5 = .ok (.iload 4, 2) := by decide +kernel
theorem dX8_kindsOf_7 : decode cX8_kindsOf 7 = .ok (.iconst 5, 1) := by decide +kernel
theorem dX8_kindsOf_8 : decode cX8_kindsOf 8 = .ok (.if_icmp .gt 50, 3) := by decide +kernel
theorem dX8_kindsOf_11 : decode cX8_kindsOf 11 = .ok (.aload_n 0, 1) := by decide +kernel
theorem dX8_kindsOf_12 : decode cX8_kindsOf 12 = .ok (.invokevirtual 229, 3) := by decide +kernel
theorem dX8_kindsOf_15 : decode cX8_kindsOf 15 = .ok (.aload_n 0, 1) := by decide +kernel
theorem dX8_kindsOf_16 : decode cX8_kindsOf 16 = .ok (.getfield 25, 3) := by decide +kernel
theorem dX8_kindsOf_19 : decode cX8_kindsOf 19 = .ok (.iconst 4, 1) := by decide +kernel
theorem dX8_kindsOf_20 : decode cX8_kindsOf 20 = .ok (.iload_n 1, 1) := by decide +kernel
theorem dX8_kindsOf_21 : decode cX8_kindsOf 21 = .ok (.iadd, 1) := by decide +kernel
theorem dX8_kindsOf_22 : decode cX8_kindsOf 22 = .ok (.iload 4, 2) := by decide +kernel
theorem dX8_kindsOf_24 : decode cX8_kindsOf 24 = .ok (.iastore, 1) := by decide +kernel
theorem dX8_kindsOf_25 : decode cX8_kindsOf 25 = .ok (.aload_n 0, 1) := by decide +kernel
theorem dX8_kindsOf_26 : decode cX8_kindsOf 26 = .ok (.aload_n 0, 1) := by decide +kernel
theorem dX8_kindsOf_27 : decode cX8_kindsOf 27 = .ok (.getfield 25, 3) := by decide +kernel
theorem dX8_kindsOf_30 : decode cX8_kindsOf 30 = .ok (.invokevirtual 232, 3) := by decide +kernel
theorem dX8_kindsOf_33 : decode cX8_kindsOf 33 = .ok (.iload_n 3, 1) := by decide +kernel
theorem dX8_kindsOf_34 : decode cX8_kindsOf 34 = .ok (.aload_n 0, 1) := by decide +kernel
theorem dX8_kindsOf_35 : decode cX8_kindsOf 35 = .ok (.iload_n 2, 1) := by decide +kernel
theorem dX8_kindsOf_36 : decode cX8_kindsOf 36 = .ok (.invokevirtual 285, 3) := by decide +kernel
theorem dX8_kindsOf_39 : decode cX8_kindsOf 39 = .ok (.ifCond .eq 10, 3) := by decide +kernel
theorem dX8_kindsOf_42 : decode cX8_kindsOf 42 = .ok (.iconst 1, 1) := by decide +kernel
theorem dX8_kindsOf_43 : decode cX8_kindsOf 43 = .ok (.iload 4, 2) := by decide +kernel
theorem dX8_kindsOf_45 : decode cX8_kindsOf 45 = .ok (.ishl, 1) := by decide +kernel
theorem dX8_kindsOf_46 : decode cX8_kindsOf 46 = .ok (.goto 4, 3) := by decide +kernel
theorem dX8_kindsOf_49 : decode cX8_kindsOf 49 = .ok (.iconst 0, 1) := by decide +kernel
theorem dX8_kindsOf_50 : decode cX8_kindsOf 50 = .ok (.ior, 1) := by decide +kernel
theorem dX8_kindsOf_51 : decode cX8_kindsOf 51 = .ok (.istore_n 3, 1) := by decide +kernel
theorem dX8_kindsOf_52 : decode cX8_kindsOf 52 = .ok (.iinc 4 1, 3) := by decide +kernel
theorem dX8_kindsOf_55 : decode cX8_kindsOf 55 = .ok (.goto (-50), 3) := by decide +kernel
theorem dX8_kindsOf_58 : decode cX8_kindsOf 58 = .ok (.iload_n 3, 1) := by decide +kernel
theorem dX8_kindsOf_59 : decode cX8_kindsOf 59 = .ok (.ireturn, 1) := by decide +kernel
theorem dX8_coinsOf_0 : decode cX8_coinsOf 0 = .ok (.iconst 0, 1) := by decide +kernel
theorem dX8_coinsOf_1 : decode cX8_coinsOf 1 = .ok (.istore 4, 2) := by decide +kernel
theorem dX8_coinsOf_3 : decode cX8_coinsOf 3 = .ok (.ldc 105, 2) := by decide +kernel
theorem dX8_coinsOf_5 : decode cX8_coinsOf 5 = .ok (.istore 5, 2) := by decide +kernel
theorem dX8_coinsOf_7 : decode cX8_coinsOf 7 = .ok (.iconst 1, 1) := by decide +kernel
theorem dX8_coinsOf_8 : decode cX8_coinsOf 8 = .ok (.istore 6, 2) := by decide +kernel
theorem dX8_coinsOf_10 : decode cX8_coinsOf 10 = .ok (.iload 6, 2) := by decide +kernel
theorem dX8_coinsOf_12 : decode cX8_coinsOf 12 = .ok (.bipush 100, 2) := by decide +kernel
theorem dX8_coinsOf_14 : decode cX8_coinsOf 14 = .ok (.if_icmp .ge 61, 3) := by decide +kernel
theorem dX8_coinsOf_17 : decode cX8_coinsOf 17 = .ok (.aload_n 0, 1) := by decide +kernel
theorem dX8_coinsOf_18 : decode cX8_coinsOf 18 = .ok (.invokevirtual 229, 3) := by decide +kernel
theorem dX8_coinsOf_21 : decode cX8_coinsOf 21 = .ok (.aload_n 0, 1) := by decide +kernel
theorem dX8_coinsOf_22 : decode cX8_coinsOf 22 = .ok (.getfield 25, 3) := by decide +kernel
theorem dX8_coinsOf_25 : decode cX8_coinsOf 25 = .ok (.bipush 10, 2) := by decide +kernel
theorem dX8_coinsOf_27 : decode cX8_coinsOf 27 = .ok (.iconst 3, 1) := by decide +kernel
theorem dX8_coinsOf_28 : decode cX8_coinsOf 28 = .ok (.iload_n 1, 1) := by decide +kernel
theorem dX8_coinsOf_29 : decode cX8_coinsOf 29 = .ok (.imul, 1) := by decide +kernel
theorem dX8_coinsOf_30 : decode cX8_coinsOf 30 = .ok (.iadd, 1) := by decide +kernel
theorem dX8_coinsOf_31 : decode cX8_coinsOf 31 = .ok (.iconst 2, 1) := by decide +kernel
theorem dX8_coinsOf_32 : decode cX8_coinsOf 32 = .ok (.iadd, 1) := by decide +kernel
theorem dX8_coinsOf_33 : decode cX8_coinsOf 33 = .ok (.iload 6, 2) := by decide +kernel
theorem dX8_coinsOf_35 : decode cX8_coinsOf 35 = .ok (.iastore, 1) := by decide +kernel
theorem dX8_coinsOf_36 : decode cX8_coinsOf 36 = .ok (.aload_n 0, 1) := by decide +kernel
theorem dX8_coinsOf_37 : decode cX8_coinsOf 37 = .ok (.aload_n 0, 1) := by decide +kernel
theorem dX8_coinsOf_38 : decode cX8_coinsOf 38 = .ok (.getfield 25, 3) := by decide +kernel
theorem dX8_coinsOf_41 : decode cX8_coinsOf 41 = .ok (.invokevirtual 232, 3) := by decide +kernel
theorem dX8_coinsOf_44 : decode cX8_coinsOf 44 = .ok (.aload_n 0, 1) := by decide +kernel
theorem dX8_coinsOf_45 : decode cX8_coinsOf 45 = .ok (.iload_n 2, 1) := by decide +kernel
theorem dX8_coinsOf_46 : decode cX8_coinsOf 46 = .ok (.invokevirtual 285, 3) := by decide +kernel
theorem dX8_coinsOf_49 : decode cX8_coinsOf 49 = .ok (.ifCond .eq 20, 3) := by decide +kernel
theorem dX8_coinsOf_52 : decode cX8_coinsOf 52 = .ok (.iload 4, 2) := by decide +kernel
theorem dX8_coinsOf_54 : decode cX8_coinsOf 54 = .ok (.ifCond .ne 8, 3) := by decide +kernel
theorem dX8_coinsOf_57 : decode cX8_coinsOf 57 = .ok (.iload 6, 2) := by decide +kernel
theorem dX8_coinsOf_59 : decode cX8_coinsOf 59 = .ok (.goto 5, 3) := by decide +kernel
theorem dX8_coinsOf_62 : decode cX8_coinsOf 62 = .ok (.iload 5, 2) := by decide +kernel
theorem dX8_coinsOf_64 : decode cX8_coinsOf 64 = .ok (.istore 5, 2) := by decide +kernel
theorem dX8_coinsOf_66 : decode cX8_coinsOf 66 = .ok (.iinc 4 1, 3) := by decide +kernel
theorem dX8_coinsOf_69 : decode cX8_coinsOf 69 = .ok (.iinc 6 1, 3) := by decide +kernel
theorem dX8_coinsOf_72 : decode cX8_coinsOf 72 = .ok (.goto (-62), 3) := by decide +kernel
theorem dX8_coinsOf_75 : decode cX8_coinsOf 75 = .ok (.iload_n 3, 1) := by decide +kernel
theorem dX8_coinsOf_76 : decode cX8_coinsOf 76 = .ok (.iconst 3, 1) := by decide +kernel
theorem dX8_coinsOf_77 : decode cX8_coinsOf 77 = .ok (.if_icmp .ne 8, 3) := by decide +kernel
theorem dX8_coinsOf_80 : decode cX8_coinsOf 80 = .ok (.iload 4, 2) := by decide +kernel
theorem dX8_coinsOf_82 : decode cX8_coinsOf 82 = .ok (.goto 5, 3) := by decide +kernel
theorem dX8_coinsOf_85 : decode cX8_coinsOf 85 = .ok (.iload 5, 2) := by decide +kernel
theorem dX8_coinsOf_87 : decode cX8_coinsOf 87 = .ok (.ireturn, 1) := by decide +kernel
theorem dX8_who_0 : decode cX8_who 0 = .ok (.aload_n 0, 1) := by decide +kernel
theorem dX8_who_1 : decode cX8_who 1 = .ok (.iconst 0, 1) := by decide +kernel
theorem dX8_who_2 : decode cX8_who 2 = .ok (.putfield 62, 3) := by decide +kernel
theorem dX8_who_5 : decode cX8_who 5 = .ok (.aload_n 0, 1) := by decide +kernel
theorem dX8_who_6 : decode cX8_who 6 = .ok (.invokevirtual 174, 3) := by decide +kernel
theorem dX8_who_9 : decode cX8_who 9 = .ok (.ifCond .ne 6, 3) := by decide +kernel
theorem dX8_who_12 : decode cX8_who 12 = .ok (.ldc 253, 2) := by decide +kernel
theorem dX8_who_14 : decode cX8_who 14 = .ok (.ireturn, 1) := by decide +kernel
theorem dX8_who_15 : decode cX8_who 15 = .ok (.iload_n 2, 1) := by decide +kernel
theorem dX8_who_16 : decode cX8_who 16 = .ok (.i2l, 1) := by decide +kernel
theorem dX8_who_17 : decode cX8_who 17 = .ok (.lconst 0, 1) := by decide +kernel
theorem dX8_who_18 : decode cX8_who 18 = .ok (.ldc2_w 277, 3) := by decide +kernel
theorem dX8_who_21 : decode cX8_who 21 = .ok (.invokestatic 72, 3) := by decide +kernel
theorem dX8_who_24 : decode cX8_who 24 = .ok (.ifCond .eq 36, 3) := by decide +kernel
theorem dX8_who_27 : decode cX8_who 27 = .ok (.iload_n 2, 1) := by decide +kernel
theorem dX8_who_28 : decode cX8_who 28 = .ok (.iconst 2, 1) := by decide +kernel
theorem dX8_who_29 : decode cX8_who 29 = .ok (.if_icmp .ne 11, 3) := by decide +kernel
theorem dX8_who_32 : decode cX8_who 32 = .ok (.aload_n 0, 1) := by decide +kernel
theorem dX8_who_33 : decode cX8_who 33 = .ok (.iload_n 1, 1) := by decide +kernel
theorem dX8_who_34 : decode cX8_who 34 = .ok (.invokevirtual 238, 3) := by decide +kernel
theorem dX8_who_37 : decode cX8_who 37 = .ok (.ifCond .eq 23, 3) := by decide +kernel
theorem dX8_who_40 : decode cX8_who 40 = .ok (.iload_n 2, 1) := by decide +kernel
theorem dX8_who_41 : decode cX8_who 41 = .ok (.iconst 2, 1) := by decide +kernel
theorem dX8_who_42 : decode cX8_who 42 = .ok (.if_icmp .le 11, 3) := by decide +kernel
theorem dX8_who_45 : decode cX8_who 45 = .ok (.aload_n 0, 1) := by decide +kernel
theorem dX8_who_46 : decode cX8_who 46 = .ok (.iload_n 1, 1) := by decide +kernel
theorem dX8_who_47 : decode cX8_who 47 = .ok (.invokevirtual 250, 3) := by decide +kernel
theorem dX8_who_50 : decode cX8_who 50 = .ok (.ifCond .eq 10, 3) := by decide +kernel
theorem dX8_who_53 : decode cX8_who 53 = .ok (.iload_n 3, 1) := by decide +kernel
theorem dX8_who_54 : decode cX8_who 54 = .ok (.invokestatic 76, 3) := by decide +kernel
theorem dX8_who_57 : decode cX8_who 57 = .ok (.ifCond .ne 6, 3) := by decide +kernel
theorem dX8_who_60 : decode cX8_who 60 = .ok (.ldc 82, 2) := by decide +kernel
theorem dX8_who_62 : decode cX8_who 62 = .ok (.ireturn, 1) := by decide +kernel
theorem dX8_who_63 : decode cX8_who 63 = .ok (.aload_n 0, 1) := by decide +kernel
theorem dX8_who_64 : decode cX8_who 64 = .ok (.iload_n 3, 1) := by decide +kernel
theorem dX8_who_65 : decode cX8_who 65 = .ok (.iload 4, 2) := by decide +kernel
theorem dX8_who_67 : decode cX8_who 67 = .ok (.aload_n 0, 1) := by decide +kernel
theorem dX8_who_68 : decode cX8_who 68 = .ok (.getfield 19, 3) := by decide +kernel
theorem dX8_who_71 : decode cX8_who 71 = .ok (.iconst 0, 1) := by decide +kernel
theorem dX8_who_72 : decode cX8_who 72 = .ok (.iaload, 1) := by decide +kernel
theorem dX8_who_73 : decode cX8_who 73 = .ok (.invokevirtual 288, 3) := by decide +kernel
theorem dX8_who_76 : decode cX8_who 76 = .ok (.istore 5, 2) := by decide +kernel
theorem dX8_who_78 : decode cX8_who 78 = .ok (.iload 5, 2) := by decide +kernel
theorem dX8_who_80 : decode cX8_who 80 = .ok (.ifCond .eq 6, 3) := by decide +kernel
theorem dX8_who_83 : decode cX8_who 83 = .ok (.iload 5, 2) := by decide +kernel
theorem dX8_who_85 : decode cX8_who 85 = .ok (.ireturn, 1) := by decide +kernel
theorem dX8_who_86 : decode cX8_who 86 = .ok (.bipush 40, 2) := by decide +kernel
theorem dX8_who_88 : decode cX8_who 88 = .ok (.iload_n 3, 1) := by decide +kernel
theorem dX8_who_89 : decode cX8_who 89 = .ok (.imul, 1) := by decide +kernel
theorem dX8_who_90 : decode cX8_who 90 = .ok (.iload 4, 2) := by decide +kernel
theorem dX8_who_92 : decode cX8_who 92 = .ok (.iadd, 1) := by decide +kernel
theorem dX8_who_93 : decode cX8_who 93 = .ok (.istore 6, 2) := by decide +kernel
theorem dX8_who_95 : decode cX8_who 95 = .ok (.iload_n 2, 1) := by decide +kernel
theorem dX8_who_96 : decode cX8_who 96 = .ok (.iconst 2, 1) := by decide +kernel
theorem dX8_who_97 : decode cX8_who 97 = .ok (.if_icmp .ge 13, 3) := by decide +kernel
theorem dX8_who_100 : decode cX8_who 100 = .ok (.aload_n 0, 1) := by decide +kernel
theorem dX8_who_101 : decode cX8_who 101 = .ok (.iload 6, 2) := by decide +kernel
theorem dX8_who_103 : decode cX8_who 103 = .ok (.iload_n 2, 1) := by decide +kernel
theorem dX8_who_104 : decode cX8_who 104 = .ok (.invokevirtual 292, 3) := by decide +kernel
theorem dX8_who_107 : decode cX8_who 107 = .ok (.goto 26, 3) := by decide +kernel
theorem dX8_who_110 : decode cX8_who 110 = .ok (.iload_n 2, 1) := by decide +kernel
theorem dX8_who_111 : decode cX8_who 111 = .ok (.iconst 2, 1) := by decide +kernel
theorem dX8_who_112 : decode cX8_who 112 = .ok (.if_icmp .ne 13, 3) := by decide +kernel
theorem dX8_who_115 : decode cX8_who 115 = .ok (.aload_n 0, 1) := by decide +kernel
theorem dX8_who_116 : decode cX8_who 116 = .ok (.iload_n 1, 1) := by decide +kernel
theorem dX8_who_117 : decode cX8_who 117 = .ok (.iload 6, 2) := by decide +kernel
theorem dX8_who_119 : decode cX8_who 119 = .ok (.invokevirtual 295, 3) := by decide +kernel
theorem dX8_who_122 : decode cX8_who 122 = .ok (.goto 11, 3) := by decide +kernel
theorem dX8_who_125 : decode cX8_who 125 = .ok (.aload_n 0, 1) := by decide +kernel
theorem dX8_who_126 : decode cX8_who 126 = .ok (.iload_n 1, 1) := by decide +kernel
theorem dX8_who_127 : decode cX8_who 127 = .ok (.iload 6, 2) := by decide +kernel
theorem dX8_who_129 : decode cX8_who 129 = .ok (.iload_n 2, 1) := by decide +kernel
theorem dX8_who_130 : decode cX8_who 130 = .ok (.invokevirtual 298, 3) := by decide +kernel
theorem dX8_who_133 : decode cX8_who 133 = .ok (.ireturn, 1) := by decide +kernel
theorem dX8_likely_0 : decode cX8_likely 0 = .ok (.aload_n 0, 1) := by decide +kernel
theorem dX8_likely_1 : decode cX8_likely 1 = .ok (.iconst 0, 1) := by decide +kernel
theorem dX8_likely_2 : decode cX8_likely 2 = .ok (.putfield 62, 3) := by decide +kernel
theorem dX8_likely_5 : decode cX8_likely 5 = .ok (.aload_n 0, 1) := by decide +kernel
theorem dX8_likely_6 : decode cX8_likely 6 = .ok (.iload_n 1, 1) := by decide +kernel
theorem dX8_likely_7 : decode cX8_likely 7 = .ok (.invokevirtual 238, 3) := by decide +kernel
theorem dX8_likely_10 : decode cX8_likely 10 = .ok (.ifCond .eq 38, 3) := by decide +kernel
theorem dX8_likely_13 : decode cX8_likely 13 = .ok (.iload_n 2, 1) := by decide +kernel
theorem dX8_likely_14 : decode cX8_likely 14 = .ok (.i2l, 1) := by decide +kernel
theorem dX8_likely_15 : decode cX8_likely 15 = .ok (.lconst 0, 1) := by decide +kernel
theorem dX8_likely_16 : decode cX8_likely 16 = .ok (.ldc2_w 264, 3) := by decide +kernel
theorem dX8_likely_19 : decode cX8_likely 19 = .ok (.invokestatic 72, 3) := by decide +kernel
theorem dX8_likely_22 : decode cX8_likely 22 = .ok (.ifCond .eq 26, 3) := by decide +kernel
theorem dX8_likely_25 : decode cX8_likely 25 = .ok (.iload_n 3, 1) := by decide +kernel
theorem dX8_likely_26 : decode cX8_likely 26 = .ok (.i2l, 1) := by decide +kernel
theorem dX8_likely_27 : decode cX8_likely 27 = .ok (.lconst 0, 1) := by decide +kernel
theorem dX8_likely_28 : decode cX8_likely 28 = .ok (.ldc2_w 301, 3) := by decide +kernel
theorem dX8_likely_31 : decode cX8_likely 31 = .ok (.invokestatic 72, 3) := by decide +kernel
theorem dX8_likely_34 : decode cX8_likely 34 = .ok (.ifCond .eq 14, 3) := by decide +kernel
theorem dX8_likely_37 : decode cX8_likely 37 = .ok (.iload 4, 2) := by decide +kernel
theorem dX8_likely_39 : decode cX8_likely 39 = .ok (.i2l, 1) := by decide +kernel
theorem dX8_likely_40 : decode cX8_likely 40 = .ok (.lconst 0, 1) := by decide +kernel
theorem dX8_likely_41 : decode cX8_likely 41 = .ok (.lconst 1, 1) := by decide +kernel
theorem dX8_likely_42 : decode cX8_likely 42 = .ok (.invokestatic 72, 3) := by decide +kernel
theorem dX8_likely_45 : decode cX8_likely 45 = .ok (.ifCond .ne 7, 3) := by decide +kernel
theorem dX8_likely_48 : decode cX8_likely 48 = .ok (.ldc2_w 303, 3) := by decide +kernel
theorem dX8_likely_51 : decode cX8_likely 51 = .ok (.lreturn, 1) := by decide +kernel
theorem dX8_likely_52 : decode cX8_likely 52 = .ok (.aload_n 0, 1) := by decide +kernel
theorem dX8_likely_53 : decode cX8_likely 53 = .ok (.aload_n 0, 1) := by decide +kernel
theorem dX8_likely_54 : decode cX8_likely 54 = .ok (.getfield 19, 3) := by decide +kernel
theorem dX8_likely_57 : decode cX8_likely 57 = .ok (.invokevirtual 269, 3) := by decide +kernel
theorem dX8_likely_60 : decode cX8_likely 60 = .ok (.istore 5, 2) := by decide +kernel
theorem dX8_likely_62 : decode cX8_likely 62 = .ok (.lconst 0, 1) := by decide +kernel
theorem dX8_likely_63 : decode cX8_likely 63 = .ok (.lstore 6, 2) := by decide +kernel
theorem dX8_likely_65 : decode cX8_likely 65 = .ok (.lconst 0, 1) := by decide +kernel
theorem dX8_likely_66 : decode cX8_likely 66 = .ok (.lstore 8, 2) := by decide +kernel
theorem dX8_likely_68 : decode cX8_likely 68 = .ok (.iconst 0, 1) := by decide +kernel
theorem dX8_likely_69 : decode cX8_likely 69 = .ok (.istore 10, 2) := by decide +kernel
theorem dX8_likely_71 : decode cX8_likely 71 = .ok (.iload 10, 2) := by decide +kernel
theorem dX8_likely_73 : decode cX8_likely 73 = .ok (.iload 5, 2) := by decide +kernel
theorem dX8_likely_75 : decode cX8_likely 75 = .ok (.if_icmp .gt 112, 3) := by decide +kernel
theorem dX8_likely_78 : decode cX8_likely 78 = .ok (.iload 10, 2) := by decide +kernel
theorem dX8_likely_80 : decode cX8_likely 80 = .ok (.iload 5, 2) := by decide +kernel
theorem dX8_likely_82 : decode cX8_likely 82 = .ok (.iconst (-1), 1) := by decide +kernel
theorem dX8_likely_83 : decode cX8_likely 83 = .ok (.ixor, 1) := by decide +kernel
theorem dX8_likely_84 : decode cX8_likely 84 = .ok (.iand, 1) := by decide +kernel
theorem dX8_likely_85 : decode cX8_likely 85 = .ok (.ifCond .ne 96, 3) := by decide +kernel
theorem dX8_likely_88 : decode cX8_likely 88 = .ok (.lconst 1, 1) := by decide +kernel
theorem dX8_likely_89 : decode cX8_likely 89 = .ok (.lstore 11, 2) := by decide +kernel
theorem dX8_likely_91 : decode cX8_likely 91 = .ok (.iconst 0, 1) := by decide +kernel
theorem dX8_likely_92 : decode cX8_likely 92 = .ok (.istore 13, 2) := by decide +kernel
theorem dX8_likely_94 : decode cX8_likely 94 = .ok (.iload 13, 2) := by decide +kernel
theorem dX8_likely_96 : decode cX8_likely 96 = .ok (.bipush 10, 2) := by decide +kernel
theorem dX8_likely_98 : decode cX8_likely 98 = .ok (.if_icmp .ge 49, 3) := by decide +kernel
theorem dX8_likely_101 : decode cX8_likely 101 = .ok (.lload 11, 2) := by decide +kernel
theorem dX8_likely_103 : decode cX8_likely 103 = .ok (.iload 5, 2) := by decide +kernel
theorem dX8_likely_105 : decode cX8_likely 105 = .ok (.iload 13, 2) := by decide +kernel
theorem dX8_likely_107 : decode cX8_likely 107 = .ok (.invokestatic 266, 3) := by decide +kernel
theorem dX8_likely_110 : decode cX8_likely 110 = .ok (.ifCond .ne 7, 3) := by decide +kernel
theorem dX8_likely_113 : decode cX8_likely 113 = .ok (.lconst 1, 1) := by decide +kernel
theorem dX8_likely_114 : decode cX8_likely 114 = .ok (.goto 24, 3) := by decide +kernel
theorem dX8_likely_117 : decode cX8_likely 117 = .ok (.iload 10, 2) := by decide +kernel
theorem dX8_likely_119 : decode cX8_likely 119 = .ok (.iload 13, 2) := by decide +kernel
theorem dX8_likely_121 : decode cX8_likely 121 = .ok (.invokestatic 266, 3) := by decide +kernel
theorem dX8_likely_124 : decode cX8_likely 124 = .ok (.ifCond .eq 8, 3) := by decide +kernel
theorem dX8_likely_127 : decode cX8_likely 127 = .ok (.iload_n 3, 1) := by decide +kernel
theorem dX8_likely_128 : decode cX8_likely 128 = .ok (.i2l, 1) := by decide +kernel
theorem dX8_likely_129 : decode cX8_likely 129 = .ok (.goto 9, 3) := by decide +kernel
theorem dX8_likely_132 : decode cX8_likely 132 = .ok (.ldc2_w 301, 3) := by decide +kernel
theorem dX8_likely_135 : decode cX8_likely 135 = .ok (.iload_n 3, 1) := by decide +kernel
theorem dX8_likely_136 : decode cX8_likely 136 = .ok (.i2l, 1) := by decide +kernel
theorem dX8_likely_137 : decode cX8_likely 137 = .ok (.lsub, 1) := by decide +kernel
theorem dX8_likely_138 : decode cX8_likely 138 = .ok (.lmul, 1) := by decide +kernel
theorem dX8_likely_139 : decode cX8_likely 139 = .ok (.lstore 11, 2) := by decide +kernel
theorem dX8_likely_141 : decode cX8_likely 141 = .ok (.iinc 13 1, 3) := by decide +kernel
theorem dX8_likely_144 : decode cX8_likely 144 = .ok (.goto (-50), 3) := by decide +kernel
theorem dX8_likely_147 : decode cX8_likely 147 = .ok (.aload_n 0, 1) := by decide +kernel
theorem dX8_likely_148 : decode cX8_likely 148 = .ok (.iload 10, 2) := by decide +kernel
theorem dX8_likely_150 : decode cX8_likely 150 = .ok (.invokevirtual 272, 3) := by decide +kernel
theorem dX8_likely_153 : decode cX8_likely 153 = .ok (.lload 8, 2) := by decide +kernel
theorem dX8_likely_155 : decode cX8_likely 155 = .ok (.lload 11, 2) := by decide +kernel
theorem dX8_likely_157 : decode cX8_likely 157 = .ok (.ladd, 1) := by decide +kernel
theorem dX8_likely_158 : decode cX8_likely 158 = .ok (.lstore 8, 2) := by decide +kernel
theorem dX8_likely_160 : decode cX8_likely 160 = .ok (.lload 6, 2) := by decide +kernel
theorem dX8_likely_162 : decode cX8_likely 162 = .ok (.aload_n 0, 1) := by decide +kernel
theorem dX8_likely_163 : decode cX8_likely 163 = .ok (.getfield 46, 3) := by decide +kernel
theorem dX8_likely_166 : decode cX8_likely 166 = .ok (.iload_n 1, 1) := by decide +kernel
theorem dX8_likely_167 : decode cX8_likely 167 = .ok (.iaload, 1) := by decide +kernel
theorem dX8_likely_168 : decode cX8_likely 168 = .ok (.iload_n 2, 1) := by decide +kernel
theorem dX8_likely_169 : decode cX8_likely 169 = .ok (.if_icmp .lt 8, 3) := by decide +kernel
theorem dX8_likely_172 : decode cX8_likely 172 = .ok (.lload 11, 2) := by decide +kernel
theorem dX8_likely_174 : decode cX8_likely 174 = .ok (.goto 4, 3) := by decide +kernel
theorem dX8_likely_177 : decode cX8_likely 177 = .ok (.lconst 0, 1) := by decide +kernel
theorem dX8_likely_178 : decode cX8_likely 178 = .ok (.ladd, 1) := by decide +kernel
theorem dX8_likely_179 : decode cX8_likely 179 = .ok (.lstore 6, 2) := by decide +kernel
theorem dX8_likely_181 : decode cX8_likely 181 = .ok (.iinc 10 1, 3) := by decide +kernel
theorem dX8_likely_184 : decode cX8_likely 184 = .ok (.goto (-113), 3) := by decide +kernel
theorem dX8_likely_187 : decode cX8_likely 187 = .ok (.lload 6, 2) := by decide +kernel
theorem dX8_likely_189 : decode cX8_likely 189 = .ok (.lstore 10, 2) := by decide +kernel
theorem dX8_likely_191 : decode cX8_likely 191 = .ok (.lload 8, 2) := by decide +kernel
theorem dX8_likely_193 : decode cX8_likely 193 = .ok (.lstore 12, 2) := by decide +kernel
theorem dX8_likely_195 : decode cX8_likely 195 = .ok (.lload 12, 2) := by decide +kernel
theorem dX8_likely_197 : decode cX8_likely 197 = .ok (.lconst 0, 1) := by decide +kernel
theorem dX8_likely_198 : decode cX8_likely 198 = .ok (.lcmp, 1) := by decide +kernel
theorem dX8_likely_199 : decode cX8_likely 199 = .ok (.ifCond .eq 21, 3) := by decide +kernel
theorem dX8_likely_202 : decode cX8_likely 202 = .ok (.lload 10, 2) := by decide +kernel
theorem dX8_likely_204 : decode cX8_likely 204 = .ok (.lload 12, 2) := by decide +kernel
theorem dX8_likely_206 : decode cX8_likely 206 = .ok (.lrem, 1) := by decide +kernel
theorem dX8_likely_207 : decode cX8_likely 207 = .ok (.lstore 14, 2) := by decide +kernel
theorem dX8_likely_209 : decode cX8_likely 209 = .ok (.lload 12, 2) := by decide +kernel
theorem dX8_likely_211 : decode cX8_likely 211 = .ok (.lstore 10, 2) := by decide +kernel
theorem dX8_likely_213 : decode cX8_likely 213 = .ok (.lload 14, 2) := by decide +kernel
theorem dX8_likely_215 : decode cX8_likely 215 = .ok (.lstore 12, 2) := by decide +kernel
theorem dX8_likely_217 : decode cX8_likely 217 = .ok (.goto (-22), 3) := by decide +kernel
theorem dX8_likely_220 : decode cX8_likely 220 = .ok (.iload 4, 2) := by decide +kernel
theorem dX8_likely_222 : decode cX8_likely 222 = .ok (.ifCond .ne 8, 3) := by decide +kernel
theorem dX8_likely_225 : decode cX8_likely 225 = .ok (.lload 6, 2) := by decide +kernel
theorem dX8_likely_227 : decode cX8_likely 227 = .ok (.goto 5, 3) := by decide +kernel
theorem dX8_likely_230 : decode cX8_likely 230 = .ok (.lload 8, 2) := by decide +kernel
theorem dX8_likely_232 : decode cX8_likely 232 = .ok (.lload 10, 2) := by decide +kernel
theorem dX8_likely_234 : decode cX8_likely 234 = .ok (.ldiv, 1) := by decide +kernel
theorem dX8_likely_235 : decode cX8_likely 235 = .ok (.lreturn, 1) := by decide +kernel
theorem dX8_drawn_0 : decode cX8_drawn 0 = .ok (.aload_n 0, 1) := by decide +kernel
theorem dX8_drawn_1 : decode cX8_drawn 1 = .ok (.iconst 0, 1) := by decide +kernel
theorem dX8_drawn_2 : decode cX8_drawn 2 = .ok (.putfield 62, 3) := by decide +kernel
theorem dX8_drawn_5 : decode cX8_drawn 5 = .ok (.aload_n 0, 1) := by decide +kernel
theorem dX8_drawn_6 : decode cX8_drawn 6 = .ok (.invokevirtual 174, 3) := by decide +kernel
theorem dX8_drawn_9 : decode cX8_drawn 9 = .ok (.ifCond .ne 6, 3) := by decide +kernel
theorem dX8_drawn_12 : decode cX8_drawn 12 = .ok (.ldc 253, 2) := by decide +kernel
theorem dX8_drawn_14 : decode cX8_drawn 14 = .ok (.ireturn, 1) := by decide +kernel
theorem dX8_drawn_15 : decode cX8_drawn 15 = .ok (.iload_n 1, 1) := by decide +kernel
theorem dX8_drawn_16 : decode cX8_drawn 16 = .ok (.i2l, 1) := by decide +kernel
theorem dX8_drawn_17 : decode cX8_drawn 17 = .ok (.lconst 0, 1) := by decide +kernel
theorem dX8_drawn_18 : decode cX8_drawn 18 = .ok (.ldc2_w 305, 3) := by decide +kernel
theorem dX8_drawn_21 : decode cX8_drawn 21 = .ok (.invokestatic 72, 3) := by decide +kernel
theorem dX8_drawn_24 : decode cX8_drawn 24 = .ok (.ifCond .eq 25, 3) := by decide +kernel
theorem dX8_drawn_27 : decode cX8_drawn 27 = .ok (.iload_n 2, 1) := by decide +kernel
theorem dX8_drawn_28 : decode cX8_drawn 28 = .ok (.i2l, 1) := by decide +kernel
theorem dX8_drawn_29 : decode cX8_drawn 29 = .ok (.lconst 1, 1) := by decide +kernel
theorem dX8_drawn_30 : decode cX8_drawn 30 = .ok (.ldc2_w 307, 3) := by decide +kernel
theorem dX8_drawn_33 : decode cX8_drawn 33 = .ok (.invokestatic 72, 3) := by decide +kernel
theorem dX8_drawn_36 : decode cX8_drawn 36 = .ok (.ifCond .eq 13, 3) := by decide +kernel
theorem dX8_drawn_39 : decode cX8_drawn 39 = .ok (.iload_n 3, 1) := by decide +kernel
theorem dX8_drawn_40 : decode cX8_drawn 40 = .ok (.i2l, 1) := by decide +kernel
theorem dX8_drawn_41 : decode cX8_drawn 41 = .ok (.lconst 0, 1) := by decide +kernel
theorem dX8_drawn_42 : decode cX8_drawn 42 = .ok (.lconst 1, 1) := by decide +kernel
theorem dX8_drawn_43 : decode cX8_drawn 43 = .ok (.invokestatic 72, 3) := by decide +kernel
theorem dX8_drawn_46 : decode cX8_drawn 46 = .ok (.ifCond .ne 6, 3) := by decide +kernel
theorem dX8_drawn_49 : decode cX8_drawn 49 = .ok (.ldc 82, 2) := by decide +kernel
theorem dX8_drawn_51 : decode cX8_drawn 51 = .ok (.ireturn, 1) := by decide +kernel
theorem dX8_drawn_52 : decode cX8_drawn 52 = .ok (.aload_n 0, 1) := by decide +kernel
theorem dX8_drawn_53 : decode cX8_drawn 53 = .ok (.invokevirtual 229, 3) := by decide +kernel
theorem dX8_drawn_56 : decode cX8_drawn 56 = .ok (.aload_n 0, 1) := by decide +kernel
theorem dX8_drawn_57 : decode cX8_drawn 57 = .ok (.aload_n 0, 1) := by decide +kernel
theorem dX8_drawn_58 : decode cX8_drawn 58 = .ok (.getfield 25, 3) := by decide +kernel
theorem dX8_drawn_61 : decode cX8_drawn 61 = .ok (.invokevirtual 232, 3) := by decide +kernel
theorem dX8_drawn_64 : decode cX8_drawn 64 = .ok (.iload_n 2, 1) := by decide +kernel
theorem dX8_drawn_65 : decode cX8_drawn 65 = .ok (.i2l, 1) := by decide +kernel
theorem dX8_drawn_66 : decode cX8_drawn 66 = .ok (.lstore 4, 2) := by decide +kernel
theorem dX8_drawn_68 : decode cX8_drawn 68 = .ok (.iconst 0, 1) := by decide +kernel
theorem dX8_drawn_69 : decode cX8_drawn 69 = .ok (.istore 6, 2) := by decide +kernel
theorem dX8_drawn_71 : decode cX8_drawn 71 = .ok (.iconst 0, 1) := by decide +kernel
theorem dX8_drawn_72 : decode cX8_drawn 72 = .ok (.istore 7, 2) := by decide +kernel
theorem dX8_drawn_74 : decode cX8_drawn 74 = .ok (.iload 7, 2) := by decide +kernel
theorem dX8_drawn_76 : decode cX8_drawn 76 = .ok (.iload_n 1, 1) := by decide +kernel
theorem dX8_drawn_77 : decode cX8_drawn 77 = .ok (.if_icmp .ge 111, 3) := by decide +kernel
theorem dX8_drawn_80 : decode cX8_drawn 80 = .ok (.lload 4, 2) := by decide +kernel
theorem dX8_drawn_82 : decode cX8_drawn 82 = .ok (.ldc2_w 309, 3) := by decide +kernel
theorem dX8_drawn_85 : decode cX8_drawn 85 = .ok (.lmul, 1) := by decide +kernel
theorem dX8_drawn_86 : decode cX8_drawn 86 = .ok (.ldc2_w 311, 3) := by decide +kernel
theorem dX8_drawn_89 : decode cX8_drawn 89 = .ok (.lrem, 1) := by decide +kernel
theorem dX8_drawn_90 : decode cX8_drawn 90 = .ok (.lstore 4, 2) := by decide +kernel
theorem dX8_drawn_92 : decode cX8_drawn 92 = .ok (.aload_n 0, 1) := by decide +kernel
theorem dX8_drawn_93 : decode cX8_drawn 93 = .ok (.getfield 25, 3) := by decide +kernel
theorem dX8_drawn_96 : decode cX8_drawn 96 = .ok (.iconst 3, 1) := by decide +kernel
theorem dX8_drawn_97 : decode cX8_drawn 97 = .ok (.iaload, 1) := by decide +kernel
theorem dX8_drawn_98 : decode cX8_drawn 98 = .ok (.ifCond .le 60, 3) := by decide +kernel
theorem dX8_drawn_101 : decode cX8_drawn 101 = .ok (.aload_n 0, 1) := by decide +kernel
theorem dX8_drawn_102 : decode cX8_drawn 102 = .ok (.getfield 25, 3) := by decide +kernel
theorem dX8_drawn_105 : decode cX8_drawn 105 = .ok (.lload 4, 2) := by decide +kernel
theorem dX8_drawn_107 : decode cX8_drawn 107 = .ok (.aload_n 0, 1) := by decide +kernel
theorem dX8_drawn_108 : decode cX8_drawn 108 = .ok (.getfield 25, 3) := by decide +kernel
theorem dX8_drawn_111 : decode cX8_drawn 111 = .ok (.iconst 3, 1) := by decide +kernel
theorem dX8_drawn_112 : decode cX8_drawn 112 = .ok (.iaload, 1) := by decide +kernel
theorem dX8_drawn_113 : decode cX8_drawn 113 = .ok (.i2l, 1) := by decide +kernel
theorem dX8_drawn_114 : decode cX8_drawn 114 = .ok (.lrem, 1) := by decide +kernel
theorem dX8_drawn_115 : decode cX8_drawn 115 = .ok (.l2i, 1) := by decide +kernel
theorem dX8_drawn_116 : decode cX8_drawn 116 = .ok (.lload 4, 2) := by decide +kernel
theorem dX8_drawn_118 : decode cX8_drawn 118 = .ok (.ldc2_w 313, 3) := by decide +kernel
theorem dX8_drawn_121 : decode cX8_drawn 121 = .ok (.ldiv, 1) := by decide +kernel
theorem dX8_drawn_122 : decode cX8_drawn 122 = .ok (.ldc2_w 301, 3) := by decide +kernel
theorem dX8_drawn_125 : decode cX8_drawn 125 = .ok (.lrem, 1) := by decide +kernel
theorem dX8_drawn_126 : decode cX8_drawn 126 = .ok (.l2i, 1) := by decide +kernel
theorem dX8_drawn_127 : decode cX8_drawn 127 = .ok (.lload 4, 2) := by decide +kernel
theorem dX8_drawn_129 : decode cX8_drawn 129 = .ok (.ldc2_w 315, 3) := by decide +kernel
theorem dX8_drawn_132 : decode cX8_drawn 132 = .ok (.ldiv, 1) := by decide +kernel
theorem dX8_drawn_133 : decode cX8_drawn 133 = .ok (.aload_n 0, 1) := by decide +kernel
theorem dX8_drawn_134 : decode cX8_drawn 134 = .ok (.getfield 25, 3) := by decide +kernel
theorem dX8_drawn_137 : decode cX8_drawn 137 = .ok (.iconst 0, 1) := by decide +kernel
theorem dX8_drawn_138 : decode cX8_drawn 138 = .ok (.iaload, 1) := by decide +kernel
theorem dX8_drawn_139 : decode cX8_drawn 139 = .ok (.i2l, 1) := by decide +kernel
theorem dX8_drawn_140 : decode cX8_drawn 140 = .ok (.lrem, 1) := by decide +kernel
theorem dX8_drawn_141 : decode cX8_drawn 141 = .ok (.l2i, 1) := by decide +kernel
theorem dX8_drawn_142 : decode cX8_drawn 142 = .ok (.lload 4, 2) := by decide +kernel
theorem dX8_drawn_144 : decode cX8_drawn 144 = .ok (.ldc2_w 317, 3) := by decide +kernel
theorem dX8_drawn_147 : decode cX8_drawn 147 = .ok (.ldiv, 1) := by decide +kernel
theorem dX8_drawn_148 : decode cX8_drawn 148 = .ok (.ldc2_w 245, 3) := by decide +kernel
theorem dX8_drawn_151 : decode cX8_drawn 151 = .ok (.lrem, 1) := by decide +kernel
theorem dX8_drawn_152 : decode cX8_drawn 152 = .ok (.l2i, 1) := by decide +kernel
theorem dX8_drawn_153 : decode cX8_drawn 153 = .ok (.iconst 1, 1) := by decide +kernel
theorem dX8_drawn_154 : decode cX8_drawn 154 = .ok (.iadd, 1) := by decide +kernel
theorem dX8_drawn_155 : decode cX8_drawn 155 = .ok (.invokestatic 179, 3) := by decide +kernel
theorem dX8_drawn_158 : decode cX8_drawn 158 = .ok (.aload_n 0, 1) := by decide +kernel
theorem dX8_drawn_159 : decode cX8_drawn 159 = .ok (.aload_n 0, 1) := by decide +kernel
theorem dX8_drawn_160 : decode cX8_drawn 160 = .ok (.getfield 25, 3) := by decide +kernel
theorem dX8_drawn_163 : decode cX8_drawn 163 = .ok (.invokevirtual 232, 3) := by decide +kernel
theorem dX8_drawn_166 : decode cX8_drawn 166 = .ok (.iload 6, 2) := by decide +kernel
theorem dX8_drawn_168 : decode cX8_drawn 168 = .ok (.aload_n 0, 1) := by decide +kernel
theorem dX8_drawn_169 : decode cX8_drawn 169 = .ok (.getfield 25, 3) := by decide +kernel
theorem dX8_drawn_172 : decode cX8_drawn 172 = .ok (.iconst 1, 1) := by decide +kernel
theorem dX8_drawn_173 : decode cX8_drawn 173 = .ok (.iaload, 1) := by decide +kernel
theorem dX8_drawn_174 : decode cX8_drawn 174 = .ok (.aload_n 0, 1) := by decide +kernel
theorem dX8_drawn_175 : decode cX8_drawn 175 = .ok (.getfield 216, 3) := by decide +kernel
theorem dX8_drawn_178 : decode cX8_drawn 178 = .ok (.isub, 1) := by decide +kernel
theorem dX8_drawn_179 : decode cX8_drawn 179 = .ok (.iadd, 1) := by decide +kernel
theorem dX8_drawn_180 : decode cX8_drawn 180 = .ok (.istore 6, 2) := by decide +kernel
theorem dX8_drawn_182 : decode cX8_drawn 182 = .ok (.iinc 7 1, 3) := by decide +kernel
theorem dX8_drawn_185 : decode cX8_drawn 185 = .ok (.goto (-111), 3) := by decide +kernel
theorem dX8_drawn_188 : decode cX8_drawn 188 = .ok (.iload_n 3, 1) := by decide +kernel
theorem dX8_drawn_189 : decode cX8_drawn 189 = .ok (.ifCond .ne 8, 3) := by decide +kernel
theorem dX8_drawn_192 : decode cX8_drawn 192 = .ok (.iload 6, 2) := by decide +kernel
theorem dX8_drawn_194 : decode cX8_drawn 194 = .ok (.goto 7, 3) := by decide +kernel
theorem dX8_drawn_197 : decode cX8_drawn 197 = .ok (.aload_n 0, 1) := by decide +kernel
theorem dX8_drawn_198 : decode cX8_drawn 198 = .ok (.getfield 216, 3) := by decide +kernel
theorem dX8_drawn_201 : decode cX8_drawn 201 = .ok (.ireturn, 1) := by decide +kernel
theorem dX8_image_0 : decode cX8_image 0 = .ok (.aload_n 0, 1) := by decide +kernel
theorem dX8_image_1 : decode cX8_image 1 = .ok (.iconst 0, 1) := by decide +kernel
theorem dX8_image_2 : decode cX8_image 2 = .ok (.putfield 62, 3) := by decide +kernel
theorem dX8_image_5 : decode cX8_image 5 = .ok (.iload_n 1, 1) := by decide +kernel
theorem dX8_image_6 : decode cX8_image 6 = .ok (.i2l, 1) := by decide +kernel
theorem dX8_image_7 : decode cX8_image 7 = .ok (.lconst 0, 1) := by decide +kernel
theorem dX8_image_8 : decode cX8_image 8 = .ok (.lconst 1, 1) := by decide +kernel
theorem dX8_image_9 : decode cX8_image 9 = .ok (.invokestatic 72, 3) := by decide +kernel
theorem dX8_image_12 : decode cX8_image 12 = .ok (.ifCond .ne 6, 3) := by decide +kernel
theorem dX8_image_15 : decode cX8_image 15 = .ok (.ldc 82, 2) := by decide +kernel
theorem dX8_image_17 : decode cX8_image 17 = .ok (.ireturn, 1) := by decide +kernel
theorem dX8_image_18 : decode cX8_image 18 = .ok (.aload_n 0, 1) := by decide +kernel
theorem dX8_image_19 : decode cX8_image 19 = .ok (.invokevirtual 174, 3) := by decide +kernel
theorem dX8_image_22 : decode cX8_image 22 = .ok (.ifCond .ne 6, 3) := by decide +kernel
theorem dX8_image_25 : decode cX8_image 25 = .ok (.ldc 253, 2) := by decide +kernel
theorem dX8_image_27 : decode cX8_image 27 = .ok (.ireturn, 1) := by decide +kernel
theorem dX8_image_28 : decode cX8_image 28 = .ok (.iconst 0, 1) := by decide +kernel
theorem dX8_image_29 : decode cX8_image 29 = .ok (.istore_n 2, 1) := by decide +kernel
theorem dX8_image_30 : decode cX8_image 30 = .ok (.iload_n 2, 1) := by decide +kernel
theorem dX8_image_31 : decode cX8_image 31 = .ok (.bipush 80, 2) := by decide +kernel
theorem dX8_image_33 : decode cX8_image 33 = .ok (.if_icmp .ge 26, 3) := by decide +kernel
theorem dX8_image_36 : decode cX8_image 36 = .ok (.aload_n 0, 1) := by decide +kernel
theorem dX8_image_37 : decode cX8_image 37 = .ok (.getfield 56, 3) := by decide +kernel
theorem dX8_image_40 : decode cX8_image 40 = .ok (.bipush 80, 2) := by decide +kernel
theorem dX8_image_42 : decode cX8_image 42 = .ok (.iload_n 1, 1) := by decide +kernel
theorem dX8_image_43 : decode cX8_image 43 = .ok (.imul, 1) := by decide +kernel
theorem dX8_image_44 : decode cX8_image 44 = .ok (.iload_n 2, 1) := by decide +kernel
theorem dX8_image_45 : decode cX8_image 45 = .ok (.iadd, 1) := by decide +kernel
theorem dX8_image_46 : decode cX8_image 46 = .ok (.aload_n 0, 1) := by decide +kernel
theorem dX8_image_47 : decode cX8_image 47 = .ok (.getfield 19, 3) := by decide +kernel
theorem dX8_image_50 : decode cX8_image 50 = .ok (.iload_n 2, 1) := by decide +kernel
theorem dX8_image_51 : decode cX8_image 51 = .ok (.iaload, 1) := by decide +kernel
theorem dX8_image_52 : decode cX8_image 52 = .ok (.iastore, 1) := by decide +kernel
theorem dX8_image_53 : decode cX8_image 53 = .ok (.iinc 2 1, 3) := by decide +kernel
theorem dX8_image_56 : decode cX8_image 56 = .ok (.goto (-26), 3) := by decide +kernel
theorem dX8_image_59 : decode cX8_image 59 = .ok (.aload_n 0, 1) := by decide +kernel
theorem dX8_image_60 : decode cX8_image 60 = .ok (.getfield 52, 3) := by decide +kernel
theorem dX8_image_63 : decode cX8_image 63 = .ok (.iload_n 1, 1) := by decide +kernel
theorem dX8_image_64 : decode cX8_image 64 = .ok (.iconst 1, 1) := by decide +kernel
theorem dX8_image_65 : decode cX8_image 65 = .ok (.bastore, 1) := by decide +kernel
theorem dX8_image_66 : decode cX8_image 66 = .ok (.iconst 1, 1) := by decide +kernel
theorem dX8_image_67 : decode cX8_image 67 = .ok (.ireturn, 1) := by decide +kernel
theorem dX8_restore_0 : decode cX8_restore 0 = .ok (.aload_n 0, 1) := by decide +kernel
theorem dX8_restore_1 : decode cX8_restore 1 = .ok (.iconst 0, 1) := by decide +kernel
theorem dX8_restore_2 : decode cX8_restore 2 = .ok (.putfield 62, 3) := by decide +kernel
theorem dX8_restore_5 : decode cX8_restore 5 = .ok (.iload_n 1, 1) := by decide +kernel
theorem dX8_restore_6 : decode cX8_restore 6 = .ok (.i2l, 1) := by decide +kernel
theorem dX8_restore_7 : decode cX8_restore 7 = .ok (.lconst 0, 1) := by decide +kernel
theorem dX8_restore_8 : decode cX8_restore 8 = .ok (.lconst 1, 1) := by decide +kernel
theorem dX8_restore_9 : decode cX8_restore 9 = .ok (.invokestatic 72, 3) := by decide +kernel
theorem dX8_restore_12 : decode cX8_restore 12 = .ok (.ifCond .ne 6, 3) := by decide +kernel
theorem dX8_restore_15 : decode cX8_restore 15 = .ok (.ldc 82, 2) := by decide +kernel
theorem dX8_restore_17 : decode cX8_restore 17 = .ok (.ireturn, 1) := by decide +kernel
theorem dX8_restore_18 : decode cX8_restore 18 = .ok (.aload_n 0, 1) := by decide +kernel
theorem dX8_restore_19 : decode cX8_restore 19 = .ok (.getfield 52, 3) := by decide +kernel
theorem dX8_restore_22 : decode cX8_restore 22 = .ok (.iload_n 1, 1) := by decide +kernel
theorem dX8_restore_23 : decode cX8_restore 23 = .ok (.baload, 1) := by decide +kernel
theorem dX8_restore_24 : decode cX8_restore 24 = .ok (.ifCond .ne 6, 3) := by decide +kernel
theorem dX8_restore_27 : decode cX8_restore 27 = .ok (.ldc 253, 2) := by decide +kernel
theorem dX8_restore_29 : decode cX8_restore 29 = .ok (.ireturn, 1) := by decide +kernel
theorem dX8_restore_30 : decode cX8_restore 30 = .ok (.iconst 0, 1) := by decide +kernel
theorem dX8_restore_31 : decode cX8_restore 31 = .ok (.istore_n 2, 1) := by decide +kernel
theorem dX8_restore_32 : decode cX8_restore 32 = .ok (.iload_n 2, 1) := by decide +kernel
theorem dX8_restore_33 : decode cX8_restore 33 = .ok (.bipush 80, 2) := by decide +kernel
theorem dX8_restore_35 : decode cX8_restore 35 = .ok (.if_icmp .ge 26, 3) := by decide +kernel
theorem dX8_restore_38 : decode cX8_restore 38 = .ok (.aload_n 0, 1) := by decide +kernel
theorem dX8_restore_39 : decode cX8_restore 39 = .ok (.getfield 19, 3) := by decide +kernel
theorem dX8_restore_42 : decode cX8_restore 42 = .ok (.iload_n 2, 1) := by decide +kernel
theorem dX8_restore_43 : decode cX8_restore 43 = .ok (.aload_n 0, 1) := by decide +kernel
theorem dX8_restore_44 : decode cX8_restore 44 = .ok (.getfield 56, 3) := by decide +kernel
theorem dX8_restore_47 : decode cX8_restore 47 = .ok (.bipush 80, 2) := by decide +kernel
theorem dX8_restore_49 : decode cX8_restore 49 = .ok (.iload_n 1, 1) := by decide +kernel
theorem dX8_restore_50 : decode cX8_restore 50 = .ok (.imul, 1) := by decide +kernel
theorem dX8_restore_51 : decode cX8_restore 51 = .ok (.iload_n 2, 1) := by decide +kernel
theorem dX8_restore_52 : decode cX8_restore 52 = .ok (.iadd, 1) := by decide +kernel
theorem dX8_restore_53 : decode cX8_restore 53 = .ok (.iaload, 1) := by decide +kernel
theorem dX8_restore_54 : decode cX8_restore 54 = .ok (.iastore, 1) := by decide +kernel
theorem dX8_restore_55 : decode cX8_restore 55 = .ok (.iinc 2 1, 3) := by decide +kernel
theorem dX8_restore_58 : decode cX8_restore 58 = .ok (.goto (-26), 3) := by decide +kernel
theorem dX8_restore_61 : decode cX8_restore 61 = .ok (.aload_n 0, 1) := by decide +kernel
theorem dX8_restore_62 : decode cX8_restore 62 = .ok (.iconst 0, 1) := by decide +kernel
theorem dX8_restore_63 : decode cX8_restore 63 = .ok (.putfield 171, 3) := by decide +kernel
theorem dX8_restore_66 : decode cX8_restore 66 = .ok (.iconst 1, 1) := by decide +kernel
theorem dX8_restore_67 : decode cX8_restore 67 = .ok (.ireturn, 1) := by decide +kernel
theorem dX8_isOf_0 : decode cX8_isOf 0 = .ok (.iload_n 1, 1) := by decide +kernel
theorem dX8_isOf_1 : decode cX8_isOf 1 = .ok (.ifCond .eq 28, 3) := by decide +kernel
theorem dX8_isOf_4 : decode cX8_isOf 4 = .ok (.iload_n 0, 1) := by decide +kernel
theorem dX8_isOf_5 : decode cX8_isOf 5 = .ok (.iload_n 1, 1) := by decide +kernel
theorem dX8_isOf_6 : decode cX8_isOf 6 = .ok (.if_icmp .eq 23, 3) := by decide +kernel
theorem dX8_isOf_9 : decode cX8_isOf 9 = .ok (.iload_n 1, 1) := by decide +kernel
theorem dX8_isOf_10 : decode cX8_isOf 10 = .ok (.iconst 1, 1) := by decide +kernel
theorem dX8_isOf_11 : decode cX8_isOf 11 = .ok (.if_icmp .ne 8, 3) := by decide +kernel
theorem dX8_isOf_14 : decode cX8_isOf 14 = .ok (.iload_n 0, 1) := by decide +kernel
theorem dX8_isOf_15 : decode cX8_isOf 15 = .ok (.iconst 4, 1) := by decide +kernel
theorem dX8_isOf_16 : decode cX8_isOf 16 = .ok (.if_icmp .lt 13, 3) := by decide +kernel
theorem dX8_isOf_19 : decode cX8_isOf 19 = .ok (.iload_n 1, 1) := by decide +kernel
theorem dX8_isOf_20 : decode cX8_isOf 20 = .ok (.iconst 4, 1) := by decide +kernel
theorem dX8_isOf_21 : decode cX8_isOf 21 = .ok (.if_icmp .ne 12, 3) := by decide +kernel
theorem dX8_isOf_24 : decode cX8_isOf 24 = .ok (.iload_n 0, 1) := by decide +kernel
theorem dX8_isOf_25 : decode cX8_isOf 25 = .ok (.iconst 5, 1) := by decide +kernel
theorem dX8_isOf_26 : decode cX8_isOf 26 = .ok (.if_icmp .ne 7, 3) := by decide +kernel
theorem dX8_isOf_29 : decode cX8_isOf 29 = .ok (.iconst 1, 1) := by decide +kernel
theorem dX8_isOf_30 : decode cX8_isOf 30 = .ok (.goto 4, 3) := by decide +kernel
theorem dX8_isOf_33 : decode cX8_isOf 33 = .ok (.iconst 0, 1) := by decide +kernel
theorem dX8_isOf_34 : decode cX8_isOf 34 = .ok (.ireturn, 1) := by decide +kernel
theorem dX8_kind_0 : decode cX8_kind 0 = .ok (.aload_n 0, 1) := by decide +kernel
theorem dX8_kind_1 : decode cX8_kind 1 = .ok (.iconst 0, 1) := by decide +kernel
theorem dX8_kind_2 : decode cX8_kind 2 = .ok (.putfield 62, 3) := by decide +kernel
theorem dX8_kind_5 : decode cX8_kind 5 = .ok (.aload_n 0, 1) := by decide +kernel
theorem dX8_kind_6 : decode cX8_kind 6 = .ok (.iload_n 1, 1) := by decide +kernel
theorem dX8_kind_7 : decode cX8_kind 7 = .ok (.invokevirtual 238, 3) := by decide +kernel
theorem dX8_kind_10 : decode cX8_kind 10 = .ok (.ifCond .eq 14, 3) := by decide +kernel
theorem dX8_kind_13 : decode cX8_kind 13 = .ok (.aload_n 0, 1) := by decide +kernel
theorem dX8_kind_14 : decode cX8_kind 14 = .ok (.getfield 19, 3) := by decide +kernel
theorem dX8_kind_17 : decode cX8_kind 17 = .ok (.iconst 4, 1) := by decide +kernel
theorem dX8_kind_18 : decode cX8_kind 18 = .ok (.iload_n 1, 1) := by decide +kernel
theorem dX8_kind_19 : decode cX8_kind 19 = .ok (.iadd, 1) := by decide +kernel
theorem dX8_kind_20 : decode cX8_kind 20 = .ok (.iaload, 1) := by decide +kernel
theorem dX8_kind_21 : decode cX8_kind 21 = .ok (.goto 5, 3) := by decide +kernel
theorem dX8_kind_24 : decode cX8_kind 24 = .ok (.ldc 82, 2) := by decide +kernel
theorem dX8_kind_26 : decode cX8_kind 26 = .ok (.ireturn, 1) := by decide +kernel
theorem dX8_as_0 : decode cX8_as 0 = .ok (.aload_n 0, 1) := by decide +kernel
theorem dX8_as_1 : decode cX8_as 1 = .ok (.iconst 0, 1) := by decide +kernel
theorem dX8_as_2 : decode cX8_as 2 = .ok (.putfield 62, 3) := by decide +kernel
theorem dX8_as_5 : decode cX8_as 5 = .ok (.aload_n 0, 1) := by decide +kernel
theorem dX8_as_6 : decode cX8_as 6 = .ok (.iload_n 1, 1) := by decide +kernel
theorem dX8_as_7 : decode cX8_as 7 = .ok (.invokevirtual 238, 3) := by decide +kernel
theorem dX8_as_10 : decode cX8_as 10 = .ok (.ifCond .eq 15, 3) := by decide +kernel
theorem dX8_as_13 : decode cX8_as 13 = .ok (.iload_n 2, 1) := by decide +kernel
theorem dX8_as_14 : decode cX8_as 14 = .ok (.i2l, 1) := by decide +kernel
theorem dX8_as_15 : decode cX8_as 15 = .ok (.lconst 0, 1) := by decide +kernel
theorem dX8_as_16 : decode cX8_as 16 = .ok (.ldc2_w 256, 3) := by decide +kernel
theorem dX8_as_19 : decode cX8_as 19 = .ok (.invokestatic 72, 3) := by decide +kernel
theorem dX8_as_22 : decode cX8_as 22 = .ok (.ifCond .ne 6, 3) := by decide +kernel
theorem dX8_as_25 : decode cX8_as 25 = .ok (.ldc 82, 2) := by decide +kernel
theorem dX8_as_27 : decode cX8_as 27 = .ok (.ireturn, 1) := by decide +kernel
theorem dX8_as_28 : decode cX8_as 28 = .ok (.aload_n 0, 1) := by decide +kernel
theorem dX8_as_29 : decode cX8_as 29 = .ok (.iconst 0, 1) := by decide +kernel
theorem dX8_as_30 : decode cX8_as 30 = .ok (.putfield 66, 3) := by decide +kernel
theorem dX8_as_33 : decode cX8_as 33 = .ok (.aload_n 0, 1) := by decide +kernel
theorem dX8_as_34 : decode cX8_as 34 = .ok (.getfield 19, 3) := by decide +kernel
theorem dX8_as_37 : decode cX8_as 37 = .ok (.iconst 4, 1) := by decide +kernel
theorem dX8_as_38 : decode cX8_as 38 = .ok (.iload_n 1, 1) := by decide +kernel
theorem dX8_as_39 : decode cX8_as 39 = .ok (.iadd, 1) := by decide +kernel
theorem dX8_as_40 : decode cX8_as 40 = .ok (.iaload, 1) := by decide +kernel
theorem dX8_as_41 : decode cX8_as 41 = .ok (.iload_n 2, 1) := by decide +kernel
theorem dX8_as_42 : decode cX8_as 42 = .ok (.invokestatic 319, 3) := by decide +kernel
theorem dX8_as_45 : decode cX8_as 45 = .ok (.ifCond .eq 7, 3) := by decide +kernel
theorem dX8_as_48 : decode cX8_as 48 = .ok (.iload_n 1, 1) := by decide +kernel
theorem dX8_as_49 : decode cX8_as 49 = .ok (.goto 8, 3) := by decide +kernel
theorem dX8_as_52 : decode cX8_as 52 = .ok (.aload_n 0, 1) := by decide +kernel
theorem dX8_as_53 : decode cX8_as 53 = .ok (.iconst 3, 1) := by decide +kernel
theorem dX8_as_54 : decode cX8_as 54 = .ok (.invokevirtual 83, 3) := by decide +kernel
theorem dX8_as_57 : decode cX8_as 57 = .ok (.ireturn, 1) := by decide +kernel
theorem dX8_began_0 : decode cX8_began 0 = .ok (.aload_n 0, 1) := by decide +kernel
theorem dX8_began_1 : decode cX8_began 1 = .ok (.getfield 322, 3) := by decide +kernel
theorem dX8_began_4 : decode cX8_began 4 = .ok (.bipush 16, 2) := by decide +kernel
theorem dX8_began_6 : decode cX8_began 6 = .ok (.if_icmp .ge 23, 3) := by decide +kernel
theorem dX8_began_9 : decode cX8_began 9 = .ok (.aload_n 0, 1) := by decide +kernel
theorem dX8_began_10 : decode cX8_began 10 = .ok (.getfield 59, 3) := by decide +kernel
theorem dX8_began_13 : decode cX8_began 13 = .ok (.aload_n 0, 1) := by decide +kernel
theorem dX8_began_14 : decode cX8_began 14 = .ok (.getfield 322, 3) := by decide +kernel
theorem dX8_began_17 : decode cX8_began 17 = .ok (.iload_n 1, 1) := by decide +kernel
theorem dX8_began_18 : decode cX8_began 18 = .ok (.iastore, 1) := by decide +kernel
theorem dX8_began_19 : decode cX8_began 19 = .ok (.aload_n 0, 1) := by decide +kernel
theorem dX8_began_20 : decode cX8_began 20 = .ok (.dup, 1) := by decide +kernel
theorem dX8_began_21 : decode cX8_began 21 = .ok (.getfield 322, 3) := by decide +kernel
theorem dX8_began_24 : decode cX8_began 24 = .ok (.iconst 1, 1) := by decide +kernel
theorem dX8_began_25 : decode cX8_began 25 = .ok (.iadd, 1) := by decide +kernel
theorem dX8_began_26 : decode cX8_began 26 = .ok (.putfield 322, 3) := by decide +kernel
theorem dX8_began_29 : decode cX8_began 29 = .ok (.return_, 1) := by decide +kernel
theorem dX8_plainSize_0 : decode cX8_plainSize 0 = .ok (.aload_n 0, 1) := by decide +kernel
theorem dX8_plainSize_1 : decode cX8_plainSize 1 = .ok (.bipush 10, 2) := by decide +kernel
theorem dX8_plainSize_3 : decode cX8_plainSize 3 = .ok (.invokevirtual 325, 3) := by decide +kernel
theorem dX8_plainSize_6 : decode cX8_plainSize 6 = .ok (.aload_n 0, 1) := by decide +kernel
theorem dX8_plainSize_7 : decode cX8_plainSize 7 = .ok (.iload_n 1, 1) := by decide +kernel
theorem dX8_plainSize_8 : decode cX8_plainSize 8 = .ok (.invokevirtual 196, 3) := by decide +kernel
theorem dX8_plainSize_11 : decode cX8_plainSize 11 = .ok (.ireturn, 1) := by decide +kernel
theorem dX8_flatSize_0 : decode cX8_flatSize 0 = .ok (.aload_n 0, 1) := by decide +kernel
theorem dX8_flatSize_1 : decode cX8_flatSize 1 = .ok (.getfield 19, 3) := by decide +kernel
theorem dX8_flatSize_4 : decode cX8_flatSize 4 = .ok (.iconst 4, 1) := by decide +kernel
theorem dX8_flatSize_5 : decode cX8_flatSize 5 = .ok (.iload_n 1, 1) := by decide +kernel
theorem dX8_flatSize_6 : decode cX8_flatSize 6 = .ok (.iadd, 1) := by decide +kernel
theorem dX8_flatSize_7 : decode cX8_flatSize 7 = .ok (.iaload, 1) := by decide +kernel
theorem dX8_flatSize_8 : decode cX8_flatSize 8 = .ok (.iconst 5, 1) := by decide +kernel
theorem dX8_flatSize_9 : decode cX8_flatSize 9 = .ok (.if_icmp .ne 7, 3) := by decide +kernel
theorem dX8_flatSize_12 : decode cX8_flatSize 12 = .ok (.iconst 1, 1) := by decide +kernel
theorem dX8_flatSize_13 : decode cX8_flatSize 13 = .ok (.goto 4, 3) := by decide +kernel
theorem dX8_flatSize_16 : decode cX8_flatSize 16 = .ok (.iconst 0, 1) := by decide +kernel
theorem dX8_flatSize_17 : decode cX8_flatSize 17 = .ok (.istore_n 2, 1) := by decide +kernel
theorem dX8_flatSize_18 : decode cX8_flatSize 18 = .ok (.iload_n 2, 1) := by decide +kernel
theorem dX8_flatSize_19 : decode cX8_flatSize 19 = .ok (.ifCond .eq 9, 3) := by decide +kernel
theorem dX8_flatSize_22 : decode cX8_flatSize 22 = .ok (.aload_n 0, 1) := by decide +kernel
theorem dX8_flatSize_23 : decode cX8_flatSize 23 = .ok (.bipush 14, 2) := by decide +kernel
theorem dX8_flatSize_25 : decode cX8_flatSize 25 = .ok (.invokevirtual 325, 3) := by decide +kernel
theorem dX8_flatSize_28 : decode cX8_flatSize 28 = .ok (.aload_n 0, 1) := by decide +kernel
theorem dX8_flatSize_29 : decode cX8_flatSize 29 = .ok (.bipush 13, 2) := by decide +kernel
theorem dX8_flatSize_31 : decode cX8_flatSize 31 = .ok (.invokevirtual 325, 3) := by decide +kernel
theorem dX8_flatSize_34 : decode cX8_flatSize 34 = .ok (.aload_n 0, 1) := by decide +kernel
theorem dX8_flatSize_35 : decode cX8_flatSize 35 = .ok (.iload_n 1, 1) := by decide +kernel
theorem dX8_flatSize_36 : decode cX8_flatSize 36 = .ok (.invokevirtual 328, 3) := by decide +kernel
theorem dX8_flatSize_39 : decode cX8_flatSize 39 = .ok (.bipush 100, 2) := by decide +kernel
theorem dX8_flatSize_41 : decode cX8_flatSize 41 = .ok (.isub, 1) := by decide +kernel
theorem dX8_flatSize_42 : decode cX8_flatSize 42 = .ok (.istore_n 3, 1) := by decide +kernel
theorem dX8_flatSize_43 : decode cX8_flatSize 43 = .ok (.iload_n 2, 1) := by decide +kernel
theorem dX8_flatSize_44 : decode cX8_flatSize 44 = .ok (.ifCond .eq 9, 3) := by decide +kernel
theorem dX8_flatSize_47 : decode cX8_flatSize 47 = .ok (.iconst 2, 1) := by decide +kernel
theorem dX8_flatSize_48 : decode cX8_flatSize 48 = .ok (.iload_n 3, 1) := by decide +kernel
theorem dX8_flatSize_49 : decode cX8_flatSize 49 = .ok (.imul, 1) := by decide +kernel
theorem dX8_flatSize_50 : decode cX8_flatSize 50 = .ok (.goto 4, 3) := by decide +kernel
theorem dX8_flatSize_53 : decode cX8_flatSize 53 = .ok (.iload_n 3, 1) := by decide +kernel
theorem dX8_flatSize_54 : decode cX8_flatSize 54 = .ok (.ireturn, 1) := by decide +kernel
theorem dX8_markOf_0 : decode cX8_markOf 0 = .ok (.aload_n 0, 1) := by decide +kernel
theorem dX8_markOf_1 : decode cX8_markOf 1 = .ok (.getfield 19, 3) := by decide +kernel
theorem dX8_markOf_4 : decode cX8_markOf 4 = .ok (.iconst 4, 1) := by decide +kernel
theorem dX8_markOf_5 : decode cX8_markOf 5 = .ok (.iload_n 1, 1) := by decide +kernel
theorem dX8_markOf_6 : decode cX8_markOf 6 = .ok (.iadd, 1) := by decide +kernel
theorem dX8_markOf_7 : decode cX8_markOf 7 = .ok (.iaload, 1) := by decide +kernel
theorem dX8_markOf_8 : decode cX8_markOf 8 = .ok (.istore_n 2, 1) := by decide +kernel
theorem dX8_markOf_9 : decode cX8_markOf 9 = .ok (.iload_n 2, 1) := by decide +kernel
theorem dX8_markOf_10 : decode cX8_markOf 10 = .ok (.iconst 4, 1) := by decide +kernel
theorem dX8_markOf_11 : decode cX8_markOf 11 = .ok (.if_icmp .lt 23, 3) := by decide +kernel
theorem dX8_markOf_14 : decode cX8_markOf 14 = .ok (.aload_n 0, 1) := by decide +kernel
theorem dX8_markOf_15 : decode cX8_markOf 15 = .ok (.bipush 23, 2) := by decide +kernel
theorem dX8_markOf_17 : decode cX8_markOf 17 = .ok (.invokevirtual 325, 3) := by decide +kernel
theorem dX8_markOf_20 : decode cX8_markOf 20 = .ok (.aload_n 0, 1) := by decide +kernel
theorem dX8_markOf_21 : decode cX8_markOf 21 = .ok (.bipush 20, 2) := by decide +kernel
theorem dX8_markOf_23 : decode cX8_markOf 23 = .ok (.invokevirtual 325, 3) := by decide +kernel
theorem dX8_markOf_26 : decode cX8_markOf 26 = .ok (.iload_n 1, 1) := by decide +kernel
theorem dX8_markOf_27 : decode cX8_markOf 27 = .ok (.aload_n 0, 1) := by decide +kernel
theorem dX8_markOf_28 : decode cX8_markOf 28 = .ok (.iload_n 1, 1) := by decide +kernel
theorem dX8_markOf_29 : decode cX8_markOf 29 = .ok (.invokevirtual 331, 3) := by decide +kernel
theorem dX8_markOf_32 : decode cX8_markOf 32 = .ok (.isub, 1) := by decide +kernel
theorem dX8_markOf_33 : decode cX8_markOf 33 = .ok (.ireturn, 1) := by decide +kernel
theorem dX8_markOf_34 : decode cX8_markOf 34 = .ok (.iload_n 2, 1) := by decide +kernel
theorem dX8_markOf_35 : decode cX8_markOf 35 = .ok (.iconst 1, 1) := by decide +kernel
theorem dX8_markOf_36 : decode cX8_markOf 36 = .ok (.if_icmp .eq 19, 3) := by decide +kernel
theorem dX8_markOf_39 : decode cX8_markOf 39 = .ok (.aload_n 0, 1) := by decide +kernel
theorem dX8_markOf_40 : decode cX8_markOf 40 = .ok (.iload_n 2, 1) := by decide +kernel
theorem dX8_markOf_41 : decode cX8_markOf 41 = .ok (.iconst 3, 1) := by decide +kernel
theorem dX8_markOf_42 : decode cX8_markOf 42 = .ok (.if_icmp .ne 8, 3) := by decide +kernel
theorem dX8_markOf_45 : decode cX8_markOf 45 = .ok (.bipush 22, 2) := by decide +kernel
theorem dX8_markOf_47 : decode cX8_markOf 47 = .ok (.goto 5, 3) := by decide +kernel
theorem dX8_markOf_50 : decode cX8_markOf 50 = .ok (.bipush 24, 2) := by decide +kernel
theorem dX8_markOf_52 : decode cX8_markOf 52 = .ok (.invokevirtual 325, 3) := by decide +kernel
theorem dX8_markOf_55 : decode cX8_markOf 55 = .ok (.aload_n 0, 1) := by decide +kernel
theorem dX8_markOf_56 : decode cX8_markOf 56 = .ok (.bipush 21, 2) := by decide +kernel
theorem dX8_markOf_58 : decode cX8_markOf 58 = .ok (.invokevirtual 325, 3) := by decide +kernel
theorem dX8_markOf_61 : decode cX8_markOf 61 = .ok (.aload_n 0, 1) := by decide +kernel
theorem dX8_markOf_62 : decode cX8_markOf 62 = .ok (.bipush 20, 2) := by decide +kernel
theorem dX8_markOf_64 : decode cX8_markOf 64 = .ok (.invokevirtual 325, 3) := by decide +kernel
theorem dX8_markOf_67 : decode cX8_markOf 67 = .ok (.iload_n 1, 1) := by decide +kernel
theorem dX8_markOf_68 : decode cX8_markOf 68 = .ok (.aload_n 0, 1) := by decide +kernel
theorem dX8_markOf_69 : decode cX8_markOf 69 = .ok (.iload_n 1, 1) := by decide +kernel
theorem dX8_markOf_70 : decode cX8_markOf 70 = .ok (.invokevirtual 199, 3) := by decide +kernel
theorem dX8_markOf_73 : decode cX8_markOf 73 = .ok (.invokestatic 202, 3) := by decide +kernel
theorem dX8_markOf_76 : decode cX8_markOf 76 = .ok (.iadd, 1) := by decide +kernel
theorem dX8_markOf_77 : decode cX8_markOf 77 = .ok (.istore_n 3, 1) := by decide +kernel
theorem dX8_markOf_78 : decode cX8_markOf 78 = .ok (.iload_n 2, 1) := by decide +kernel
theorem dX8_markOf_79 : decode cX8_markOf 79 = .ok (.iconst 1, 1) := by decide +kernel
theorem dX8_markOf_80 : decode cX8_markOf 80 = .ok (.if_icmp .ne 7, 3) := by decide +kernel
theorem dX8_markOf_83 : decode cX8_markOf 83 = .ok (.iload_n 3, 1) := by decide +kernel
theorem dX8_markOf_84 : decode cX8_markOf 84 = .ok (.goto 19, 3) := by decide +kernel
theorem dX8_markOf_87 : decode cX8_markOf 87 = .ok (.iload_n 2, 1) := by decide +kernel
theorem dX8_markOf_88 : decode cX8_markOf 88 = .ok (.iconst 3, 1) := by decide +kernel
theorem dX8_markOf_89 : decode cX8_markOf 89 = .ok (.if_icmp .ne 11, 3) := by decide +kernel
theorem dX8_markOf_92 : decode cX8_markOf 92 = .ok (.iload_n 3, 1) := by decide +kernel
theorem dX8_markOf_93 : decode cX8_markOf 93 = .ok (.sipush 1000, 3) := by decide +kernel
theorem dX8_markOf_96 : decode cX8_markOf 96 = .ok (.isub, 1) := by decide +kernel
theorem dX8_markOf_97 : decode cX8_markOf 97 = .ok (.goto 6, 3) := by decide +kernel
theorem dX8_markOf_100 : decode cX8_markOf 100 = .ok (.iconst 2, 1) := by decide +kernel
theorem dX8_markOf_101 : decode cX8_markOf 101 = .ok (.iload_n 3, 1) := by decide +kernel
theorem dX8_markOf_102 : decode cX8_markOf 102 = .ok (.imul, 1) := by decide +kernel
theorem dX8_markOf_103 : decode cX8_markOf 103 = .ok (.ireturn, 1) := by decide +kernel
theorem dX8_sizeOf_0 : decode cX8_sizeOf 0 = .ok (.aload_n 0, 1) := by decide +kernel
theorem dX8_sizeOf_1 : decode cX8_sizeOf 1 = .ok (.getfield 19, 3) := by decide +kernel
theorem dX8_sizeOf_4 : decode cX8_sizeOf 4 = .ok (.iconst 4, 1) := by decide +kernel
theorem dX8_sizeOf_5 : decode cX8_sizeOf 5 = .ok (.iload_n 1, 1) := by decide +kernel
theorem dX8_sizeOf_6 : decode cX8_sizeOf 6 = .ok (.iadd, 1) := by decide +kernel
theorem dX8_sizeOf_7 : decode cX8_sizeOf 7 = .ok (.iaload, 1) := by decide +kernel
theorem dX8_sizeOf_8 : decode cX8_sizeOf 8 = .ok (.istore_n 2, 1) := by decide +kernel
theorem dX8_sizeOf_9 : decode cX8_sizeOf 9 = .ok (.iload_n 2, 1) := by decide +kernel
theorem dX8_sizeOf_10 : decode cX8_sizeOf 10 = .ok (.iconst 4, 1) := by decide +kernel
theorem dX8_sizeOf_11 : decode cX8_sizeOf 11 = .ok (.if_icmp .lt 9, 3) := by decide +kernel
theorem dX8_sizeOf_14 : decode cX8_sizeOf 14 = .ok (.aload_n 0, 1) := by decide +kernel
theorem dX8_sizeOf_15 : decode cX8_sizeOf 15 = .ok (.iload_n 1, 1) := by decide +kernel
theorem dX8_sizeOf_16 : decode cX8_sizeOf 16 = .ok (.invokevirtual 331, 3) := by decide +kernel
theorem dX8_sizeOf_19 : decode cX8_sizeOf 19 = .ok (.ireturn, 1) := by decide +kernel
theorem dX8_sizeOf_20 : decode cX8_sizeOf 20 = .ok (.iload_n 2, 1) := by decide +kernel
theorem dX8_sizeOf_21 : decode cX8_sizeOf 21 = .ok (.iconst 2, 1) := by decide +kernel
theorem dX8_sizeOf_22 : decode cX8_sizeOf 22 = .ok (.if_icmp .ne 9, 3) := by decide +kernel
theorem dX8_sizeOf_25 : decode cX8_sizeOf 25 = .ok (.aload_n 0, 1) := by decide +kernel
theorem dX8_sizeOf_26 : decode cX8_sizeOf 26 = .ok (.bipush 12, 2) := by decide +kernel
theorem dX8_sizeOf_28 : decode cX8_sizeOf 28 = .ok (.invokevirtual 325, 3) := by decide +kernel
theorem dX8_sizeOf_31 : decode cX8_sizeOf 31 = .ok (.aload_n 0, 1) := by decide +kernel
theorem dX8_sizeOf_32 : decode cX8_sizeOf 32 = .ok (.bipush 11, 2) := by decide +kernel
theorem dX8_sizeOf_34 : decode cX8_sizeOf 34 = .ok (.invokevirtual 325, 3) := by decide +kernel
theorem dX8_sizeOf_37 : decode cX8_sizeOf 37 = .ok (.aload_n 0, 1) := by decide +kernel
theorem dX8_sizeOf_38 : decode cX8_sizeOf 38 = .ok (.iload_n 1, 1) := by decide +kernel
theorem dX8_sizeOf_39 : decode cX8_sizeOf 39 = .ok (.invokevirtual 328, 3) := by decide +kernel
theorem dX8_sizeOf_42 : decode cX8_sizeOf 42 = .ok (.istore_n 3, 1) := by decide +kernel
theorem dX8_sizeOf_43 : decode cX8_sizeOf 43 = .ok (.iload_n 3, 1) := by decide +kernel
theorem dX8_sizeOf_44 : decode cX8_sizeOf 44 = .ok (.aload_n 0, 1) := by decide +kernel
theorem dX8_sizeOf_45 : decode cX8_sizeOf 45 = .ok (.iload_n 1, 1) := by decide +kernel
theorem dX8_sizeOf_46 : decode cX8_sizeOf 46 = .ok (.invokevirtual 334, 3) := by decide +kernel
theorem dX8_sizeOf_49 : decode cX8_sizeOf 49 = .ok (.iadd, 1) := by decide +kernel
theorem dX8_sizeOf_50 : decode cX8_sizeOf 50 = .ok (.istore_n 3, 1) := by decide +kernel
theorem dX8_sizeOf_51 : decode cX8_sizeOf 51 = .ok (.iload_n 2, 1) := by decide +kernel
theorem dX8_sizeOf_52 : decode cX8_sizeOf 52 = .ok (.iconst 2, 1) := by decide +kernel
theorem dX8_sizeOf_53 : decode cX8_sizeOf 53 = .ok (.if_icmp .ne 8, 3) := by decide +kernel
theorem dX8_sizeOf_56 : decode cX8_sizeOf 56 = .ok (.iload_n 3, 1) := by decide +kernel
theorem dX8_sizeOf_57 : decode cX8_sizeOf 57 = .ok (.ineg, 1) := by decide +kernel
theorem dX8_sizeOf_58 : decode cX8_sizeOf 58 = .ok (.goto 4, 3) := by decide +kernel
theorem dX8_sizeOf_61 : decode cX8_sizeOf 61 = .ok (.iload_n 3, 1) := by decide +kernel
theorem dX8_sizeOf_62 : decode cX8_sizeOf 62 = .ok (.ireturn, 1) := by decide +kernel
theorem dX8_ask_0 : decode cX8_ask 0 = .ok (.aload_n 0, 1) := by decide +kernel
theorem dX8_ask_1 : decode cX8_ask 1 = .ok (.iconst 0, 1) := by decide +kernel
theorem dX8_ask_2 : decode cX8_ask 2 = .ok (.putfield 62, 3) := by decide +kernel
theorem dX8_ask_5 : decode cX8_ask 5 = .ok (.aload_n 0, 1) := by decide +kernel
theorem dX8_ask_6 : decode cX8_ask 6 = .ok (.iload_n 1, 1) := by decide +kernel
theorem dX8_ask_7 : decode cX8_ask 7 = .ok (.invokevirtual 238, 3) := by decide +kernel
theorem dX8_ask_10 : decode cX8_ask 10 = .ok (.ifCond .eq 13, 3) := by decide +kernel
theorem dX8_ask_13 : decode cX8_ask 13 = .ok (.iload_n 2, 1) := by decide +kernel
theorem dX8_ask_14 : decode cX8_ask 14 = .ok (.i2l, 1) := by decide +kernel
theorem dX8_ask_15 : decode cX8_ask 15 = .ok (.lconst 0, 1) := by decide +kernel
theorem dX8_ask_16 : decode cX8_ask 16 = .ok (.lconst 1, 1) := by decide +kernel
theorem dX8_ask_17 : decode cX8_ask 17 = .ok (.invokestatic 72, 3) := by decide +kernel
theorem dX8_ask_20 : decode cX8_ask 20 = .ok (.ifCond .ne 6, 3) := by decide +kernel
theorem dX8_ask_23 : decode cX8_ask 23 = .ok (.ldc 82, 2) := by decide +kernel
theorem dX8_ask_25 : decode cX8_ask 25 = .ok (.ireturn, 1) := by decide +kernel
theorem dX8_ask_26 : decode cX8_ask 26 = .ok (.aload_n 0, 1) := by decide +kernel
theorem dX8_ask_27 : decode cX8_ask 27 = .ok (.iconst 0, 1) := by decide +kernel
theorem dX8_ask_28 : decode cX8_ask 28 = .ok (.putfield 322, 3) := by decide +kernel
theorem dX8_ask_31 : decode cX8_ask 31 = .ok (.aload_n 0, 1) := by decide +kernel
theorem dX8_ask_32 : decode cX8_ask 32 = .ok (.aload_n 0, 1) := by decide +kernel
theorem dX8_ask_33 : decode cX8_ask 33 = .ok (.getfield 19, 3) := by decide +kernel
theorem dX8_ask_36 : decode cX8_ask 36 = .ok (.invokevirtual 219, 3) := by decide +kernel
theorem dX8_ask_39 : decode cX8_ask 39 = .ok (.iload_n 2, 1) := by decide +kernel
theorem dX8_ask_40 : decode cX8_ask 40 = .ok (.ifCond .ne 11, 3) := by decide +kernel
theorem dX8_ask_43 : decode cX8_ask 43 = .ok (.aload_n 0, 1) := by decide +kernel
theorem dX8_ask_44 : decode cX8_ask 44 = .ok (.iload_n 1, 1) := by decide +kernel
theorem dX8_ask_45 : decode cX8_ask 45 = .ok (.invokevirtual 337, 3) := by decide +kernel
theorem dX8_ask_48 : decode cX8_ask 48 = .ok (.goto 8, 3) := by decide +kernel
theorem dX8_ask_51 : decode cX8_ask 51 = .ok (.aload_n 0, 1) := by decide +kernel
theorem dX8_ask_52 : decode cX8_ask 52 = .ok (.iload_n 1, 1) := by decide +kernel
theorem dX8_ask_53 : decode cX8_ask 53 = .ok (.invokevirtual 334, 3) := by decide +kernel
theorem dX8_ask_56 : decode cX8_ask 56 = .ok (.ireturn, 1) := by decide +kernel
theorem dX8_trace_0 : decode cX8_trace 0 = .ok (.aload_n 0, 1) := by decide +kernel
theorem dX8_trace_1 : decode cX8_trace 1 = .ok (.iconst 0, 1) := by decide +kernel
theorem dX8_trace_2 : decode cX8_trace 2 = .ok (.putfield 62, 3) := by decide +kernel
theorem dX8_trace_5 : decode cX8_trace 5 = .ok (.iload_n 1, 1) := by decide +kernel
theorem dX8_trace_6 : decode cX8_trace 6 = .ok (.i2l, 1) := by decide +kernel
theorem dX8_trace_7 : decode cX8_trace 7 = .ok (.lconst 0, 1) := by decide +kernel
theorem dX8_trace_8 : decode cX8_trace 8 = .ok (.aload_n 0, 1) := by decide +kernel
theorem dX8_trace_9 : decode cX8_trace 9 = .ok (.getfield 322, 3) := by decide +kernel
theorem dX8_trace_12 : decode cX8_trace 12 = .ok (.iconst 1, 1) := by decide +kernel
theorem dX8_trace_13 : decode cX8_trace 13 = .ok (.isub, 1) := by decide +kernel
theorem dX8_trace_14 : decode cX8_trace 14 = .ok (.i2l, 1) := by decide +kernel
theorem dX8_trace_15 : decode cX8_trace 15 = .ok (.invokestatic 72, 3) := by decide +kernel
theorem dX8_trace_18 : decode cX8_trace 18 = .ok (.ifCond .eq 12, 3) := by decide +kernel
theorem dX8_trace_21 : decode cX8_trace 21 = .ok (.aload_n 0, 1) := by decide +kernel
theorem dX8_trace_22 : decode cX8_trace 22 = .ok (.getfield 59, 3) := by decide +kernel
theorem dX8_trace_25 : decode cX8_trace 25 = .ok (.iload_n 1, 1) := by decide +kernel
theorem dX8_trace_26 : decode cX8_trace 26 = .ok (.iaload, 1) := by decide +kernel
theorem dX8_trace_27 : decode cX8_trace 27 = .ok (.goto 5, 3) := by decide +kernel
theorem dX8_trace_30 : decode cX8_trace 30 = .ok (.ldc 105, 2) := by decide +kernel
theorem dX8_trace_32 : decode cX8_trace 32 = .ok (.ireturn, 1) := by decide +kernel
theorem dX8_count_0 : decode cX8_count 0 = .ok (.aload_n 0, 1) := by decide +kernel
theorem dX8_count_1 : decode cX8_count 1 = .ok (.iconst 0, 1) := by decide +kernel
theorem dX8_count_2 : decode cX8_count 2 = .ok (.putfield 62, 3) := by decide +kernel
theorem dX8_count_5 : decode cX8_count 5 = .ok (.iconst 0, 1) := by decide +kernel
theorem dX8_count_6 : decode cX8_count 6 = .ok (.istore_n 2, 1) := by decide +kernel
theorem dX8_count_7 : decode cX8_count 7 = .ok (.iload_n 1, 1) := by decide +kernel
theorem dX8_count_8 : decode cX8_count 8 = .ok (.tableswitch 140 0 6 #[44, 77, 84, 91, 98, 130, 135], 44) := by decide +kernel
theorem dX8_count_52 : decode cX8_count 52 = .ok (.iconst 0, 1) := by decide +kernel
theorem dX8_count_53 : decode cX8_count 53 = .ok (.istore_n 3, 1) := by decide +kernel
theorem dX8_count_54 : decode cX8_count 54 = .ok (.iload_n 3, 1) := by decide +kernel
theorem dX8_count_55 : decode cX8_count 55 = .ok (.bipush 8, 2) := by decide +kernel
theorem dX8_count_57 : decode cX8_count 57 = .ok (.if_icmp .ge 26, 3) := by decide +kernel
theorem dX8_count_60 : decode cX8_count 60 = .ok (.iload_n 2, 1) := by decide +kernel
theorem dX8_count_61 : decode cX8_count 61 = .ok (.aload_n 0, 1) := by decide +kernel
theorem dX8_count_62 : decode cX8_count 62 = .ok (.getfield 7, 3) := by decide +kernel
theorem dX8_count_65 : decode cX8_count 65 = .ok (.iload_n 3, 1) := by decide +kernel
theorem dX8_count_66 : decode cX8_count 66 = .ok (.iaload, 1) := by decide +kernel
theorem dX8_count_67 : decode cX8_count 67 = .ok (.ifCond .lt 7, 3) := by decide +kernel
theorem dX8_count_70 : decode cX8_count 70 = .ok (.iconst 1, 1) := by decide +kernel
theorem dX8_count_71 : decode cX8_count 71 = .ok (.goto 4, 3) := by decide +kernel
theorem dX8_count_74 : decode cX8_count 74 = .ok (.iconst 0, 1) := by decide +kernel
theorem dX8_count_75 : decode cX8_count 75 = .ok (.iadd, 1) := by decide +kernel
theorem dX8_count_76 : decode cX8_count 76 = .ok (.istore_n 2, 1) := by decide +kernel
theorem dX8_count_77 : decode cX8_count 77 = .ok (.iinc 3 1, 3) := by decide +kernel
theorem dX8_count_80 : decode cX8_count 80 = .ok (.goto (-26), 3) := by decide +kernel
theorem dX8_count_83 : decode cX8_count 83 = .ok (.iload_n 2, 1) := by decide +kernel
theorem dX8_count_84 : decode cX8_count 84 = .ok (.ireturn, 1) := by decide +kernel
theorem dX8_count_85 : decode cX8_count 85 = .ok (.aload_n 0, 1) := by decide +kernel
theorem dX8_count_86 : decode cX8_count 86 = .ok (.getfield 19, 3) := by decide +kernel
theorem dX8_count_89 : decode cX8_count 89 = .ok (.iconst 0, 1) := by decide +kernel
theorem dX8_count_90 : decode cX8_count 90 = .ok (.iaload, 1) := by decide +kernel
theorem dX8_count_91 : decode cX8_count 91 = .ok (.ireturn, 1) := by decide +kernel
theorem dX8_count_92 : decode cX8_count 92 = .ok (.aload_n 0, 1) := by decide +kernel
theorem dX8_count_93 : decode cX8_count 93 = .ok (.getfield 19, 3) := by decide +kernel
theorem dX8_count_96 : decode cX8_count 96 = .ok (.iconst 3, 1) := by decide +kernel
theorem dX8_count_97 : decode cX8_count 97 = .ok (.iaload, 1) := by decide +kernel
theorem dX8_count_98 : decode cX8_count 98 = .ok (.ireturn, 1) := by decide +kernel
theorem dX8_count_99 : decode cX8_count 99 = .ok (.aload_n 0, 1) := by decide +kernel
theorem dX8_count_100 : decode cX8_count 100 = .ok (.getfield 19, 3) := by decide +kernel
theorem dX8_count_103 : decode cX8_count 103 = .ok (.iconst 1, 1) := by decide +kernel
theorem dX8_count_104 : decode cX8_count 104 = .ok (.iaload, 1) := by decide +kernel
theorem dX8_count_105 : decode cX8_count 105 = .ok (.ireturn, 1) := by decide +kernel
theorem dX8_count_106 : decode cX8_count 106 = .ok (.iconst 0, 1) := by decide +kernel
theorem dX8_count_107 : decode cX8_count 107 = .ok (.istore_n 3, 1) := by decide +kernel
theorem dX8_count_108 : decode cX8_count 108 = .ok (.iload_n 3, 1) := by decide +kernel
theorem dX8_count_109 : decode cX8_count 109 = .ok (.aload_n 0, 1) := by decide +kernel
theorem dX8_count_110 : decode cX8_count 110 = .ok (.getfield 19, 3) := by decide +kernel
theorem dX8_count_113 : decode cX8_count 113 = .ok (.iconst 3, 1) := by decide +kernel
theorem dX8_count_114 : decode cX8_count 114 = .ok (.iaload, 1) := by decide +kernel
theorem dX8_count_115 : decode cX8_count 115 = .ok (.if_icmp .ge 21, 3) := by decide +kernel
theorem dX8_count_118 : decode cX8_count 118 = .ok (.iload_n 2, 1) := by decide +kernel
theorem dX8_count_119 : decode cX8_count 119 = .ok (.aload_n 0, 1) := by decide +kernel
theorem dX8_count_120 : decode cX8_count 120 = .ok (.getfield 19, 3) := by decide +kernel
theorem dX8_count_123 : decode cX8_count 123 = .ok (.iload_n 3, 1) := by decide +kernel
theorem dX8_count_124 : decode cX8_count 124 = .ok (.iconst 2, 1) := by decide +kernel
theorem dX8_count_125 : decode cX8_count 125 = .ok (.invokestatic 183, 3) := by decide +kernel
theorem dX8_count_128 : decode cX8_count 128 = .ok (.iadd, 1) := by decide +kernel
theorem dX8_count_129 : decode cX8_count 129 = .ok (.istore_n 2, 1) := by decide +kernel
theorem dX8_count_130 : decode cX8_count 130 = .ok (.iinc 3 1, 3) := by decide +kernel
theorem dX8_count_133 : decode cX8_count 133 = .ok (.goto (-25), 3) := by decide +kernel
theorem dX8_count_136 : decode cX8_count 136 = .ok (.iload_n 2, 1) := by decide +kernel
theorem dX8_count_137 : decode cX8_count 137 = .ok (.ireturn, 1) := by decide +kernel
theorem dX8_count_138 : decode cX8_count 138 = .ok (.aload_n 0, 1) := by decide +kernel
theorem dX8_count_139 : decode cX8_count 139 = .ok (.getfield 171, 3) := by decide +kernel
theorem dX8_count_142 : decode cX8_count 142 = .ok (.ireturn, 1) := by decide +kernel
theorem dX8_count_143 : decode cX8_count 143 = .ok (.aload_n 0, 1) := by decide +kernel
theorem dX8_count_144 : decode cX8_count 144 = .ok (.getfield 89, 3) := by decide +kernel
theorem dX8_count_147 : decode cX8_count 147 = .ok (.ireturn, 1) := by decide +kernel
theorem dX8_count_148 : decode cX8_count 148 = .ok (.ldc 82, 2) := by decide +kernel
theorem dX8_count_150 : decode cX8_count 150 = .ok (.ireturn, 1) := by decide +kernel
theorem dX8_status_0 : decode cX8_status 0 = .ok (.aload_n 0, 1) := by decide +kernel
theorem dX8_status_1 : decode cX8_status 1 = .ok (.iconst 0, 1) := by decide +kernel
theorem dX8_status_2 : decode cX8_status 2 = .ok (.putfield 62, 3) := by decide +kernel
theorem dX8_status_5 : decode cX8_status 5 = .ok (.aload_n 0, 1) := by decide +kernel
theorem dX8_status_6 : decode cX8_status 6 = .ok (.getfield 66, 3) := by decide +kernel
theorem dX8_status_9 : decode cX8_status 9 = .ok (.ireturn, 1) := by decide +kernel
