theorem dX8_init_0 : decode cX8_init 0 = .ok (.aload_n 0, 1) := by decide +kernel
theorem dX8_init_1 : decode cX8_init 1 = .ok (.invokespecial 1, 3) := by decide +kernel
theorem dX8_init_4 : decode cX8_init 4 = .ok (.aload_n 0, 1) := by decide +kernel
theorem dX8_init_5 : decode cX8_init 5 = .ok (.bipush 8, 2) := by decide +kernel
theorem dX8_init_7 : decode cX8_init 7 = .ok (.newarray .int, 2) := by decide +kernel
theorem dX8_init_9 : decode cX8_init 9 = .ok (.dup, 1) := by decide +kernel
theorem dX8_init_10 : decode cX8_init 10 = .ok (.iconst 0, 1) := by decide +kernel
theorem dX8_init_11 : decode cX8_init 11 = .ok (.iconst (-1), 1) := by decide +kernel
theorem dX8_init_12 : decode cX8_init 12 = .ok (.iastore, 1) := by decide +kernel
theorem dX8_init_13 : decode cX8_init 13 = .ok (.dup, 1) := by decide +kernel
theorem dX8_init_14 : decode cX8_init 14 = .ok (.iconst 1, 1) := by decide +kernel
theorem dX8_init_15 : decode cX8_init 15 = .ok (.iconst (-1), 1) := by decide +kernel
theorem dX8_init_16 : decode cX8_init 16 = .ok (.iastore, 1) := by decide +kernel
theorem dX8_init_17 : decode cX8_init 17 = .ok (.dup, 1) := by decide +kernel
theorem dX8_init_18 : decode cX8_init 18 = .ok (.iconst 2, 1) := by decide +kernel
theorem dX8_init_19 : decode cX8_init 19 = .ok (.iconst (-1), 1) := by decide +kernel
theorem dX8_init_20 : decode cX8_init 20 = .ok (.iastore, 1) := by decide +kernel
theorem dX8_init_21 : decode cX8_init 21 = .ok (.dup, 1) := by decide +kernel
theorem dX8_init_22 : decode cX8_init 22 = .ok (.iconst 3, 1) := by decide +kernel
theorem dX8_init_23 : decode cX8_init 23 = .ok (.iconst (-1), 1) := by decide +kernel
theorem dX8_init_24 : decode cX8_init 24 = .ok (.iastore, 1) := by decide +kernel
theorem dX8_init_25 : decode cX8_init 25 = .ok (.dup, 1) := by decide +kernel
theorem dX8_init_26 : decode cX8_init 26 = .ok (.iconst 4, 1) := by decide +kernel
theorem dX8_init_27 : decode cX8_init 27 = .ok (.iconst (-1), 1) := by decide +kernel
theorem dX8_init_28 : decode cX8_init 28 = .ok (.iastore, 1) := by decide +kernel
theorem dX8_init_29 : decode cX8_init 29 = .ok (.dup, 1) := by decide +kernel
theorem dX8_init_30 : decode cX8_init 30 = .ok (.iconst 5, 1) := by decide +kernel
theorem dX8_init_31 : decode cX8_init 31 = .ok (.iconst (-1), 1) := by decide +kernel
theorem dX8_init_32 : decode cX8_init 32 = .ok (.iastore, 1) := by decide +kernel
theorem dX8_init_33 : decode cX8_init 33 = .ok (.dup, 1) := by decide +kernel
theorem dX8_init_34 : decode cX8_init 34 = .ok (.bipush 6, 2) := by decide +kernel
theorem dX8_init_36 : decode cX8_init 36 = .ok (.iconst (-1), 1) := by decide +kernel
theorem dX8_init_37 : decode cX8_init 37 = .ok (.iastore, 1) := by decide +kernel
theorem dX8_init_38 : decode cX8_init 38 = .ok (.dup, 1) := by decide +kernel
theorem dX8_init_39 : decode cX8_init 39 = .ok (.bipush 7, 2) := by decide +kernel
theorem dX8_init_41 : decode cX8_init 41 = .ok (.iconst (-1), 1) := by decide +kernel
theorem dX8_init_42 : decode cX8_init 42 = .ok (.iastore, 1) := by decide +kernel
theorem dX8_init_43 : decode cX8_init 43 = .ok (.putfield 7, 3) := by decide +kernel
theorem dX8_init_46 : decode cX8_init 46 = .ok (.aload_n 0, 1) := by decide +kernel
theorem dX8_init_47 : decode cX8_init 47 = .ok (.bipush 8, 2) := by decide +kernel
theorem dX8_init_49 : decode cX8_init 49 = .ok (.newarray .int, 2) := by decide +kernel
theorem dX8_init_51 : decode cX8_init 51 = .ok (.putfield 13, 3) := by decide +kernel
theorem dX8_init_54 : decode cX8_init 54 = .ok (.aload_n 0, 1) := by decide +kernel
theorem dX8_init_55 : decode cX8_init 55 = .ok (.sipush 320, 3) := by decide +kernel
theorem dX8_init_58 : decode cX8_init 58 = .ok (.newarray .int, 2) := by decide +kernel
theorem dX8_init_60 : decode cX8_init 60 = .ok (.putfield 16, 3) := by decide +kernel
theorem dX8_init_63 : decode cX8_init 63 = .ok (.aload_n 0, 1) := by decide +kernel
theorem dX8_init_64 : decode cX8_init 64 = .ok (.bipush 80, 2) := by decide +kernel
theorem dX8_init_66 : decode cX8_init 66 = .ok (.newarray .int, 2) := by decide +kernel
theorem dX8_init_68 : decode cX8_init 68 = .ok (.putfield 19, 3) := by decide +kernel
theorem dX8_init_71 : decode cX8_init 71 = .ok (.aload_n 0, 1) := by decide +kernel
theorem dX8_init_72 : decode cX8_init 72 = .ok (.bipush 80, 2) := by decide +kernel
theorem dX8_init_74 : decode cX8_init 74 = .ok (.newarray .int, 2) := by decide +kernel
theorem dX8_init_76 : decode cX8_init 76 = .ok (.putfield 22, 3) := by decide +kernel
theorem dX8_init_79 : decode cX8_init 79 = .ok (.aload_n 0, 1) := by decide +kernel
theorem dX8_init_80 : decode cX8_init 80 = .ok (.bipush 80, 2) := by decide +kernel
theorem dX8_init_82 : decode cX8_init 82 = .ok (.newarray .int, 2) := by decide +kernel
theorem dX8_init_84 : decode cX8_init 84 = .ok (.putfield 25, 3) := by decide +kernel
theorem dX8_init_87 : decode cX8_init 87 = .ok (.aload_n 0, 1) := by decide +kernel
theorem dX8_init_88 : decode cX8_init 88 = .ok (.sipush 1920, 3) := by decide +kernel
theorem dX8_init_91 : decode cX8_init 91 = .ok (.newarray .int, 2) := by decide +kernel
theorem dX8_init_93 : decode cX8_init 93 = .ok (.putfield 28, 3) := by decide +kernel
theorem dX8_init_96 : decode cX8_init 96 = .ok (.aload_n 0, 1) := by decide +kernel
theorem dX8_init_97 : decode cX8_init 97 = .ok (.sipush 130, 3) := by decide +kernel
theorem dX8_init_100 : decode cX8_init 100 = .ok (.newarray .int, 2) := by decide +kernel
theorem dX8_init_102 : decode cX8_init 102 = .ok (.putfield 31, 3) := by decide +kernel
theorem dX8_init_105 : decode cX8_init 105 = .ok (.aload_n 0, 1) := by decide +kernel
theorem dX8_init_106 : decode cX8_init 106 = .ok (.bipush 60, 2) := by decide +kernel
theorem dX8_init_108 : decode cX8_init 108 = .ok (.newarray .int, 2) := by decide +kernel
theorem dX8_init_110 : decode cX8_init 110 = .ok (.putfield 34, 3) := by decide +kernel
theorem dX8_init_113 : decode cX8_init 113 = .ok (.aload_n 0, 1) := by decide +kernel
theorem dX8_init_114 : decode cX8_init 114 = .ok (.bipush 60, 2) := by decide +kernel
theorem dX8_init_116 : decode cX8_init 116 = .ok (.newarray .int, 2) := by decide +kernel
theorem dX8_init_118 : decode cX8_init 118 = .ok (.putfield 37, 3) := by decide +kernel
theorem dX8_init_121 : decode cX8_init 121 = .ok (.aload_n 0, 1) := by decide +kernel
theorem dX8_init_122 : decode cX8_init 122 = .ok (.bipush 100, 2) := by decide +kernel
theorem dX8_init_124 : decode cX8_init 124 = .ok (.newarray .int, 2) := by decide +kernel
theorem dX8_init_126 : decode cX8_init 126 = .ok (.putfield 40, 3) := by decide +kernel
theorem dX8_init_129 : decode cX8_init 129 = .ok (.aload_n 0, 1) := by decide +kernel
theorem dX8_init_130 : decode cX8_init 130 = .ok (.bipush 6, 2) := by decide +kernel
theorem dX8_init_132 : decode cX8_init 132 = .ok (.newarray .int, 2) := by decide +kernel
theorem dX8_init_134 : decode cX8_init 134 = .ok (.putfield 43, 3) := by decide +kernel
theorem dX8_init_137 : decode cX8_init 137 = .ok (.aload_n 0, 1) := by decide +kernel
theorem dX8_init_138 : decode cX8_init 138 = .ok (.bipush 6, 2) := by decide +kernel
theorem dX8_init_140 : decode cX8_init 140 = .ok (.newarray .int, 2) := by decide +kernel
theorem dX8_init_142 : decode cX8_init 142 = .ok (.putfield 46, 3) := by decide +kernel
theorem dX8_init_145 : decode cX8_init 145 = .ok (.aload_n 0, 1) := by decide +kernel
theorem dX8_init_146 : decode cX8_init 146 = .ok (.bipush 81, 2) := by decide +kernel
theorem dX8_init_148 : decode cX8_init 148 = .ok (.newarray .int, 2) := by decide +kernel
theorem dX8_init_150 : decode cX8_init 150 = .ok (.putfield 49, 3) := by decide +kernel
theorem dX8_init_153 : decode cX8_init 153 = .ok (.aload_n 0, 1) := by decide +kernel
theorem dX8_init_154 : decode cX8_init 154 = .ok (.iconst 2, 1) := by decide +kernel
theorem dX8_init_155 : decode cX8_init 155 = .ok (.newarray .boolean, 2) := by decide +kernel
theorem dX8_init_157 : decode cX8_init 157 = .ok (.putfield 52, 3) := by decide +kernel
theorem dX8_init_160 : decode cX8_init 160 = .ok (.aload_n 0, 1) := by decide +kernel
theorem dX8_init_161 : decode cX8_init 161 = .ok (.sipush 160, 3) := by decide +kernel
theorem dX8_init_164 : decode cX8_init 164 = .ok (.newarray .int, 2) := by decide +kernel
theorem dX8_init_166 : decode cX8_init 166 = .ok (.putfield 56, 3) := by decide +kernel
theorem dX8_init_169 : decode cX8_init 169 = .ok (.aload_n 0, 1) := by decide +kernel
theorem dX8_init_170 : decode cX8_init 170 = .ok (.bipush 16, 2) := by decide +kernel
theorem dX8_init_172 : decode cX8_init 172 = .ok (.newarray .int, 2) := by decide +kernel
theorem dX8_init_174 : decode cX8_init 174 = .ok (.putfield 59, 3) := by decide +kernel
theorem dX8_init_177 : decode cX8_init 177 = .ok (.return_, 1) := by decide +kernel
theorem dX8_in_0 : decode cX8_in 0 = .ok (.lload_n 0, 1) := by decide +kernel
theorem dX8_in_1 : decode cX8_in 1 = .ok (.lload_n 2, 1) := by decide +kernel
theorem dX8_in_2 : decode cX8_in 2 = .ok (.lcmp, 1) := by decide +kernel
theorem dX8_in_3 : decode cX8_in 3 = .ok (.ifCond .lt 14, 3) := by decide +kernel
theorem dX8_in_6 : decode cX8_in 6 = .ok (.lload_n 0, 1) := by decide +kernel
theorem dX8_in_7 : decode cX8_in 7 = .ok (.lload 4, 2) := by decide +kernel
theorem dX8_in_9 : decode cX8_in 9 = .ok (.lcmp, 1) := by decide +kernel
theorem dX8_in_10 : decode cX8_in 10 = .ok (.ifCond .gt 7, 3) := by decide +kernel
theorem dX8_in_13 : decode cX8_in 13 = .ok (.iconst 1, 1) := by decide +kernel
theorem dX8_in_14 : decode cX8_in 14 = .ok (.goto 4, 3) := by decide +kernel
theorem dX8_in_17 : decode cX8_in 17 = .ok (.iconst 0, 1) := by decide +kernel
theorem dX8_in_18 : decode cX8_in 18 = .ok (.ireturn, 1) := by decide +kernel
theorem dX8_finding_0 : decode cX8_finding 0 = .ok (.aload_n 0, 1) := by decide +kernel
theorem dX8_finding_1 : decode cX8_finding 1 = .ok (.iload_n 1, 1) := by decide +kernel
theorem dX8_finding_2 : decode cX8_finding 2 = .ok (.putfield 66, 3) := by decide +kernel
theorem dX8_finding_5 : decode cX8_finding 5 = .ok (.ldc 69, 2) := by decide +kernel
theorem dX8_finding_7 : decode cX8_finding 7 = .ok (.iload_n 1, 1) := by decide +kernel
theorem dX8_finding_8 : decode cX8_finding 8 = .ok (.isub, 1) := by decide +kernel
theorem dX8_finding_9 : decode cX8_finding 9 = .ok (.ireturn, 1) := by decide +kernel
theorem dX8_isRow_0 : decode cX8_isRow 0 = .ok (.iload_n 0, 1) := by decide +kernel
theorem dX8_isRow_1 : decode cX8_isRow 1 = .ok (.i2l, 1) := by decide +kernel
theorem dX8_isRow_2 : decode cX8_isRow 2 = .ok (.lconst 0, 1) := by decide +kernel
theorem dX8_isRow_3 : decode cX8_isRow 3 = .ok (.ldc2_w 70, 3) := by decide +kernel
theorem dX8_isRow_6 : decode cX8_isRow 6 = .ok (.invokestatic 72, 3) := by decide +kernel
theorem dX8_isRow_9 : decode cX8_isRow 9 = .ok (.ireturn, 1) := by decide +kernel
theorem dX8_row_0 : decode cX8_row 0 = .ok (.aload_n 0, 1) := by decide +kernel
theorem dX8_row_1 : decode cX8_row 1 = .ok (.iconst 0, 1) := by decide +kernel
theorem dX8_row_2 : decode cX8_row 2 = .ok (.putfield 62, 3) := by decide +kernel
theorem dX8_row_5 : decode cX8_row 5 = .ok (.iload_n 1, 1) := by decide +kernel
theorem dX8_row_6 : decode cX8_row 6 = .ok (.invokestatic 76, 3) := by decide +kernel
theorem dX8_row_9 : decode cX8_row 9 = .ok (.ifCond .eq 21, 3) := by decide +kernel
theorem dX8_row_12 : decode cX8_row 12 = .ok (.iload_n 2, 1) := by decide +kernel
theorem dX8_row_13 : decode cX8_row 13 = .ok (.i2l, 1) := by decide +kernel
theorem dX8_row_14 : decode cX8_row 14 = .ok (.lconst 0, 1) := by decide +kernel
theorem dX8_row_15 : decode cX8_row 15 = .ok (.ldc2_w 80, 3) := by decide +kernel
theorem dX8_row_18 : decode cX8_row 18 = .ok (.invokestatic 72, 3) := by decide +kernel
theorem dX8_row_21 : decode cX8_row 21 = .ok (.ifCond .eq 9, 3) := by decide +kernel
theorem dX8_row_24 : decode cX8_row 24 = .ok (.iload_n 3, 1) := by decide +kernel
theorem dX8_row_25 : decode cX8_row 25 = .ok (.bipush 40, 2) := by decide +kernel
theorem dX8_row_27 : decode cX8_row 27 = .ok (.if_icmp .le 6, 3) := by decide +kernel
theorem dX8_row_30 : decode cX8_row 30 = .ok (.ldc 82, 2) := by decide +kernel
theorem dX8_row_32 : decode cX8_row 32 = .ok (.ireturn, 1) := by decide +kernel
theorem dX8_row_33 : decode cX8_row 33 = .ok (.aload_n 0, 1) := by decide +kernel
theorem dX8_row_34 : decode cX8_row 34 = .ok (.iconst 0, 1) := by decide +kernel
theorem dX8_row_35 : decode cX8_row 35 = .ok (.putfield 66, 3) := by decide +kernel
theorem dX8_row_38 : decode cX8_row 38 = .ok (.iload_n 3, 1) := by decide +kernel
theorem dX8_row_39 : decode cX8_row 39 = .ok (.ifCond .ge 9, 3) := by decide +kernel
theorem dX8_row_42 : decode cX8_row 42 = .ok (.aload_n 0, 1) := by decide +kernel
theorem dX8_row_43 : decode cX8_row 43 = .ok (.iconst 4, 1) := by decide +kernel
theorem dX8_row_44 : decode cX8_row 44 = .ok (.invokevirtual 83, 3) := by decide +kernel
theorem dX8_row_47 : decode cX8_row 47 = .ok (.ireturn, 1) := by decide +kernel
theorem dX8_row_48 : decode cX8_row 48 = .ok (.aload_n 0, 1) := by decide +kernel
theorem dX8_row_49 : decode cX8_row 49 = .ok (.getfield 7, 3) := by decide +kernel
theorem dX8_row_52 : decode cX8_row 52 = .ok (.iload_n 1, 1) := by decide +kernel
theorem dX8_row_53 : decode cX8_row 53 = .ok (.iload_n 2, 1) := by decide +kernel
theorem dX8_row_54 : decode cX8_row 54 = .ok (.iastore, 1) := by decide +kernel
theorem dX8_row_55 : decode cX8_row 55 = .ok (.aload_n 0, 1) := by decide +kernel
theorem dX8_row_56 : decode cX8_row 56 = .ok (.getfield 13, 3) := by decide +kernel
theorem dX8_row_59 : decode cX8_row 59 = .ok (.iload_n 1, 1) := by decide +kernel
theorem dX8_row_60 : decode cX8_row 60 = .ok (.iload_n 3, 1) := by decide +kernel
theorem dX8_row_61 : decode cX8_row 61 = .ok (.iastore, 1) := by decide +kernel
theorem dX8_row_62 : decode cX8_row 62 = .ok (.iconst 0, 1) := by decide +kernel
theorem dX8_row_63 : decode cX8_row 63 = .ok (.istore 4, 2) := by decide +kernel
theorem dX8_row_65 : decode cX8_row 65 = .ok (.iload 4, 2) := by decide +kernel
theorem dX8_row_67 : decode cX8_row 67 = .ok (.bipush 40, 2) := by decide +kernel
theorem dX8_row_69 : decode cX8_row 69 = .ok (.if_icmp .ge 22, 3) := by decide +kernel
theorem dX8_row_72 : decode cX8_row 72 = .ok (.aload_n 0, 1) := by decide +kernel
theorem dX8_row_73 : decode cX8_row 73 = .ok (.getfield 16, 3) := by decide +kernel
theorem dX8_row_76 : decode cX8_row 76 = .ok (.bipush 40, 2) := by decide +kernel
theorem dX8_row_78 : decode cX8_row 78 = .ok (.iload_n 1, 1) := by decide +kernel
theorem dX8_row_79 : decode cX8_row 79 = .ok (.imul, 1) := by decide +kernel
theorem dX8_row_80 : decode cX8_row 80 = .ok (.iload 4, 2) := by decide +kernel
theorem dX8_row_82 : decode cX8_row 82 = .ok (.iadd, 1) := by decide +kernel
theorem dX8_row_83 : decode cX8_row 83 = .ok (.iconst 0, 1) := by decide +kernel
theorem dX8_row_84 : decode cX8_row 84 = .ok (.iastore, 1) := by decide +kernel
theorem dX8_row_85 : decode cX8_row 85 = .ok (.iinc 4 1, 3) := by decide +kernel
theorem dX8_row_88 : decode cX8_row 88 = .ok (.goto (-23), 3) := by decide +kernel
theorem dX8_row_91 : decode cX8_row 91 = .ok (.iload_n 3, 1) := by decide +kernel
theorem dX8_row_92 : decode cX8_row 92 = .ok (.ireturn, 1) := by decide +kernel
theorem dX8_set_0 : decode cX8_set 0 = .ok (.aload_n 0, 1) := by decide +kernel
theorem dX8_set_1 : decode cX8_set 1 = .ok (.iconst 0, 1) := by decide +kernel
theorem dX8_set_2 : decode cX8_set 2 = .ok (.putfield 62, 3) := by decide +kernel
theorem dX8_set_5 : decode cX8_set 5 = .ok (.iload_n 1, 1) := by decide +kernel
theorem dX8_set_6 : decode cX8_set 6 = .ok (.invokestatic 76, 3) := by decide +kernel
theorem dX8_set_9 : decode cX8_set 9 = .ok (.ifCond .ne 6, 3) := by decide +kernel
theorem dX8_set_12 : decode cX8_set 12 = .ok (.ldc 82, 2) := by decide +kernel
theorem dX8_set_14 : decode cX8_set 14 = .ok (.ireturn, 1) := by decide +kernel
theorem dX8_set_15 : decode cX8_set 15 = .ok (.aload_n 0, 1) := by decide +kernel
theorem dX8_set_16 : decode cX8_set 16 = .ok (.iconst 0, 1) := by decide +kernel
theorem dX8_set_17 : decode cX8_set 17 = .ok (.putfield 66, 3) := by decide +kernel
theorem dX8_set_20 : decode cX8_set 20 = .ok (.aload_n 0, 1) := by decide +kernel
theorem dX8_set_21 : decode cX8_set 21 = .ok (.getfield 7, 3) := by decide +kernel
theorem dX8_set_24 : decode cX8_set 24 = .ok (.iload_n 1, 1) := by decide +kernel
theorem dX8_set_25 : decode cX8_set 25 = .ok (.iaload, 1) := by decide +kernel
theorem dX8_set_26 : decode cX8_set 26 = .ok (.ifCond .ge 9, 3) := by decide +kernel
theorem dX8_set_29 : decode cX8_set 29 = .ok (.aload_n 0, 1) := by decide +kernel
theorem dX8_set_30 : decode cX8_set 30 = .ok (.iconst 1, 1) := by decide +kernel
theorem dX8_set_31 : decode cX8_set 31 = .ok (.invokevirtual 83, 3) := by decide +kernel
theorem dX8_set_34 : decode cX8_set 34 = .ok (.ireturn, 1) := by decide +kernel
theorem dX8_set_35 : decode cX8_set 35 = .ok (.iload_n 2, 1) := by decide +kernel
theorem dX8_set_36 : decode cX8_set 36 = .ok (.i2l, 1) := by decide +kernel
theorem dX8_set_37 : decode cX8_set 37 = .ok (.lconst 0, 1) := by decide +kernel
theorem dX8_set_38 : decode cX8_set 38 = .ok (.aload_n 0, 1) := by decide +kernel
theorem dX8_set_39 : decode cX8_set 39 = .ok (.getfield 13, 3) := by decide +kernel
theorem dX8_set_42 : decode cX8_set 42 = .ok (.iload_n 1, 1) := by decide +kernel
theorem dX8_set_43 : decode cX8_set 43 = .ok (.iaload, 1) := by decide +kernel
theorem dX8_set_44 : decode cX8_set 44 = .ok (.iconst 1, 1) := by decide +kernel
theorem dX8_set_45 : decode cX8_set 45 = .ok (.isub, 1) := by decide +kernel
theorem dX8_set_46 : decode cX8_set 46 = .ok (.i2l, 1) := by decide +kernel
theorem dX8_set_47 : decode cX8_set 47 = .ok (.invokestatic 72, 3) := by decide +kernel
theorem dX8_set_50 : decode cX8_set 50 = .ok (.ifCond .ne 9, 3) := by decide +kernel
theorem dX8_set_53 : decode cX8_set 53 = .ok (.aload_n 0, 1) := by decide +kernel
theorem dX8_set_54 : decode cX8_set 54 = .ok (.iconst 2, 1) := by decide +kernel
theorem dX8_set_55 : decode cX8_set 55 = .ok (.invokevirtual 83, 3) := by decide +kernel
theorem dX8_set_58 : decode cX8_set 58 = .ok (.ireturn, 1) := by decide +kernel
theorem dX8_set_59 : decode cX8_set 59 = .ok (.aload_n 0, 1) := by decide +kernel
theorem dX8_set_60 : decode cX8_set 60 = .ok (.getfield 16, 3) := by decide +kernel
theorem dX8_set_63 : decode cX8_set 63 = .ok (.bipush 40, 2) := by decide +kernel
theorem dX8_set_65 : decode cX8_set 65 = .ok (.iload_n 1, 1) := by decide +kernel
theorem dX8_set_66 : decode cX8_set 66 = .ok (.imul, 1) := by decide +kernel
theorem dX8_set_67 : decode cX8_set 67 = .ok (.iload_n 2, 1) := by decide +kernel
theorem dX8_set_68 : decode cX8_set 68 = .ok (.iadd, 1) := by decide +kernel
theorem dX8_set_69 : decode cX8_set 69 = .ok (.aload_n 0, 1) := by decide +kernel
theorem dX8_set_70 : decode cX8_set 70 = .ok (.getfield 7, 3) := by decide +kernel
theorem dX8_set_73 : decode cX8_set 73 = .ok (.iload_n 1, 1) := by decide +kernel
theorem dX8_set_74 : decode cX8_set 74 = .ok (.iaload, 1) := by decide +kernel
theorem dX8_set_75 : decode cX8_set 75 = .ok (.ifCond .ne 8, 3) := by decide +kernel
theorem dX8_set_78 : decode cX8_set 78 = .ok (.iload_n 3, 1) := by decide +kernel
theorem dX8_set_79 : decode cX8_set 79 = .ok (.i2b, 1) := by decide +kernel
theorem dX8_set_80 : decode cX8_set 80 = .ok (.goto 19, 3) := by decide +kernel
theorem dX8_set_83 : decode cX8_set 83 = .ok (.aload_n 0, 1) := by decide +kernel
theorem dX8_set_84 : decode cX8_set 84 = .ok (.getfield 7, 3) := by decide +kernel
theorem dX8_set_87 : decode cX8_set 87 = .ok (.iload_n 1, 1) := by decide +kernel
theorem dX8_set_88 : decode cX8_set 88 = .ok (.iaload, 1) := by decide +kernel
theorem dX8_set_89 : decode cX8_set 89 = .ok (.iconst 1, 1) := by decide +kernel
theorem dX8_set_90 : decode cX8_set 90 = .ok (.if_icmp .ne 8, 3) := by decide +kernel
theorem dX8_set_93 : decode cX8_set 93 = .ok (.iload_n 3, 1) := by decide +kernel
theorem dX8_set_94 : decode cX8_set 94 = .ok (.i2s, 1) := by decide +kernel
theorem dX8_set_95 : decode cX8_set 95 = .ok (.goto 4, 3) := by decide +kernel
theorem dX8_set_98 : decode cX8_set 98 = .ok (.iload_n 3, 1) := by decide +kernel
theorem dX8_set_99 : decode cX8_set 99 = .ok (.iastore, 1) := by decide +kernel
theorem dX8_set_100 : decode cX8_set 100 = .ok (.aload_n 0, 1) := by decide +kernel
theorem dX8_set_101 : decode cX8_set 101 = .ok (.getfield 16, 3) := by decide +kernel
theorem dX8_set_104 : decode cX8_set 104 = .ok (.bipush 40, 2) := by decide +kernel
theorem dX8_set_106 : decode cX8_set 106 = .ok (.iload_n 1, 1) := by decide +kernel
theorem dX8_set_107 : decode cX8_set 107 = .ok (.imul, 1) := by decide +kernel
theorem dX8_set_108 : decode cX8_set 108 = .ok (.iload_n 2, 1) := by decide +kernel
theorem dX8_set_109 : decode cX8_set 109 = .ok (.iadd, 1) := by decide +kernel
theorem dX8_set_110 : decode cX8_set 110 = .ok (.iaload, 1) := by decide +kernel
theorem dX8_set_111 : decode cX8_set 111 = .ok (.ireturn, 1) := by decide +kernel
theorem dX8_copy_0 : decode cX8_copy 0 = .ok (.aload_n 0, 1) := by decide +kernel
theorem dX8_copy_1 : decode cX8_copy 1 = .ok (.iconst 0, 1) := by decide +kernel
theorem dX8_copy_2 : decode cX8_copy 2 = .ok (.putfield 62, 3) := by decide +kernel
theorem dX8_copy_5 : decode cX8_copy 5 = .ok (.iload_n 1, 1) := by decide +kernel
theorem dX8_copy_6 : decode cX8_copy 6 = .ok (.invokestatic 76, 3) := by decide +kernel
theorem dX8_copy_9 : decode cX8_copy 9 = .ok (.ifCond .eq 10, 3) := by decide +kernel
theorem dX8_copy_12 : decode cX8_copy 12 = .ok (.iload_n 3, 1) := by decide +kernel
theorem dX8_copy_13 : decode cX8_copy 13 = .ok (.invokestatic 76, 3) := by decide +kernel
theorem dX8_copy_16 : decode cX8_copy 16 = .ok (.ifCond .ne 6, 3) := by decide +kernel
theorem dX8_copy_19 : decode cX8_copy 19 = .ok (.ldc 82, 2) := by decide +kernel
theorem dX8_copy_21 : decode cX8_copy 21 = .ok (.ireturn, 1) := by decide +kernel
theorem dX8_copy_22 : decode cX8_copy 22 = .ok (.aload_n 0, 1) := by decide +kernel
theorem dX8_copy_23 : decode cX8_copy 23 = .ok (.iconst 0, 1) := by decide +kernel
theorem dX8_copy_24 : decode cX8_copy 24 = .ok (.putfield 66, 3) := by decide +kernel
theorem dX8_copy_27 : decode cX8_copy 27 = .ok (.aload_n 0, 1) := by decide +kernel
theorem dX8_copy_28 : decode cX8_copy 28 = .ok (.getfield 7, 3) := by decide +kernel
theorem dX8_copy_31 : decode cX8_copy 31 = .ok (.iload_n 1, 1) := by decide +kernel
theorem dX8_copy_32 : decode cX8_copy 32 = .ok (.iaload, 1) := by decide +kernel
theorem dX8_copy_33 : decode cX8_copy 33 = .ok (.ifCond .lt 12, 3) := by decide +kernel
theorem dX8_copy_36 : decode cX8_copy 36 = .ok (.aload_n 0, 1) := by decide +kernel
theorem dX8_copy_37 : decode cX8_copy 37 = .ok (.getfield 7, 3) := by decide +kernel
theorem dX8_copy_40 : decode cX8_copy 40 = .ok (.iload_n 3, 1) := by decide +kernel
theorem dX8_copy_41 : decode cX8_copy 41 = .ok (.iaload, 1) := by decide +kernel
theorem dX8_copy_42 : decode cX8_copy 42 = .ok (.ifCond .ge 9, 3) := by decide +kernel
theorem dX8_copy_45 : decode cX8_copy 45 = .ok (.aload_n 0, 1) := by decide +kernel
theorem dX8_copy_46 : decode cX8_copy 46 = .ok (.iconst 1, 1) := by decide +kernel
theorem dX8_copy_47 : decode cX8_copy 47 = .ok (.invokevirtual 83, 3) := by decide +kernel
theorem dX8_copy_50 : decode cX8_copy 50 = .ok (.ireturn, 1) := by decide +kernel
theorem dX8_copy_51 : decode cX8_copy 51 = .ok (.aload_n 0, 1) := by decide +kernel
theorem dX8_copy_52 : decode cX8_copy 52 = .ok (.getfield 7, 3) := by decide +kernel
theorem dX8_copy_55 : decode cX8_copy 55 = .ok (.iload_n 1, 1) := by decide +kernel
theorem dX8_copy_56 : decode cX8_copy 56 = .ok (.iaload, 1) := by decide +kernel
theorem dX8_copy_57 : decode cX8_copy 57 = .ok (.aload_n 0, 1) := by decide +kernel
theorem dX8_copy_58 : decode cX8_copy 58 = .ok (.getfield 7, 3) := by decide +kernel
theorem dX8_copy_61 : decode cX8_copy 61 = .ok (.iload_n 3, 1) := by decide +kernel
theorem dX8_copy_62 : decode cX8_copy 62 = .ok (.iaload, 1) := by decide +kernel
theorem dX8_copy_63 : decode cX8_copy 63 = .ok (.if_icmp .eq 9, 3) := by decide +kernel
theorem dX8_copy_66 : decode cX8_copy 66 = .ok (.aload_n 0, 1) := by decide +kernel
theorem dX8_copy_67 : decode cX8_copy 67 = .ok (.iconst 5, 1) := by decide +kernel
theorem dX8_copy_68 : decode cX8_copy 68 = .ok (.invokevirtual 83, 3) := by decide +kernel
theorem dX8_copy_71 : decode cX8_copy 71 = .ok (.ireturn, 1) := by decide +kernel
theorem dX8_copy_72 : decode cX8_copy 72 = .ok (.iload_n 2, 1) := by decide +kernel
theorem dX8_copy_73 : decode cX8_copy 73 = .ok (.ifCond .lt 48, 3) := by decide +kernel
theorem dX8_copy_76 : decode cX8_copy 76 = .ok (.iload 4, 2) := by decide +kernel
theorem dX8_copy_78 : decode cX8_copy 78 = .ok (.ifCond .lt 43, 3) := by decide +kernel
theorem dX8_copy_81 : decode cX8_copy 81 = .ok (.iload 5, 2) := by decide +kernel
theorem dX8_copy_83 : decode cX8_copy 83 = .ok (.ifCond .lt 38, 3) := by decide +kernel
theorem dX8_copy_86 : decode cX8_copy 86 = .ok (.iload_n 2, 1) := by decide +kernel
theorem dX8_copy_87 : decode cX8_copy 87 = .ok (.i2l, 1) := by decide +kernel
theorem dX8_copy_88 : decode cX8_copy 88 = .ok (.iload 5, 2) := by decide +kernel
theorem dX8_copy_90 : decode cX8_copy 90 = .ok (.i2l, 1) := by decide +kernel
theorem dX8_copy_91 : decode cX8_copy 91 = .ok (.ladd, 1) := by decide +kernel
theorem dX8_copy_92 : decode cX8_copy 92 = .ok (.aload_n 0, 1) := by decide +kernel
theorem dX8_copy_93 : decode cX8_copy 93 = .ok (.getfield 13, 3) := by decide +kernel
theorem dX8_copy_96 : decode cX8_copy 96 = .ok (.iload_n 1, 1) := by decide +kernel
theorem dX8_copy_97 : decode cX8_copy 97 = .ok (.iaload, 1) := by decide +kernel
theorem dX8_copy_98 : decode cX8_copy 98 = .ok (.i2l, 1) := by decide +kernel
theorem dX8_copy_99 : decode cX8_copy 99 = .ok (.lcmp, 1) := by decide +kernel
theorem dX8_copy_100 : decode cX8_copy 100 = .ok (.ifCond .gt 21, 3) := by decide +kernel
theorem dX8_copy_103 : decode cX8_copy 103 = .ok (.iload 4, 2) := by decide +kernel
theorem dX8_copy_105 : decode cX8_copy 105 = .ok (.i2l, 1) := by decide +kernel
theorem dX8_copy_106 : decode cX8_copy 106 = .ok (.iload 5, 2) := by decide +kernel
theorem dX8_copy_108 : decode cX8_copy 108 = .ok (.i2l, 1) := by decide +kernel
theorem dX8_copy_109 : decode cX8_copy 109 = .ok (.ladd, 1) := by decide +kernel
theorem dX8_copy_110 : decode cX8_copy 110 = .ok (.aload_n 0, 1) := by decide +kernel
theorem dX8_copy_111 : decode cX8_copy 111 = .ok (.getfield 13, 3) := by decide +kernel
theorem dX8_copy_114 : decode cX8_copy 114 = .ok (.iload_n 3, 1) := by decide +kernel
theorem dX8_copy_115 : decode cX8_copy 115 = .ok (.iaload, 1) := by decide +kernel
theorem dX8_copy_116 : decode cX8_copy 116 = .ok (.i2l, 1) := by decide +kernel
theorem dX8_copy_117 : decode cX8_copy 117 = .ok (.lcmp, 1) := by decide +kernel
theorem dX8_copy_118 : decode cX8_copy 118 = .ok (.ifCond .le 9, 3) := by decide +kernel
theorem dX8_copy_121 : decode cX8_copy 121 = .ok (.aload_n 0, 1) := by decide +kernel
theorem dX8_copy_122 : decode cX8_copy 122 = .ok (.iconst 2, 1) := by decide +kernel
theorem dX8_copy_123 : decode cX8_copy 123 = .ok (.invokevirtual 83, 3) := by decide +kernel
theorem dX8_copy_126 : decode cX8_copy 126 = .ok (.ireturn, 1) := by decide +kernel
theorem dX8_copy_127 : decode cX8_copy 127 = .ok (.iload_n 2, 1) := by decide +kernel
theorem dX8_copy_128 : decode cX8_copy 128 = .ok (.iload 4, 2) := by decide +kernel
theorem dX8_copy_130 : decode cX8_copy 130 = .ok (.if_icmp .lt 7, 3) := by decide +kernel
theorem dX8_copy_133 : decode cX8_copy 133 = .ok (.iconst 1, 1) := by decide +kernel
theorem dX8_copy_134 : decode cX8_copy 134 = .ok (.goto 4, 3) := by decide +kernel
theorem dX8_copy_137 : decode cX8_copy 137 = .ok (.iconst 0, 1) := by decide +kernel
theorem dX8_copy_138 : decode cX8_copy 138 = .ok (.istore 6, 2) := by decide +kernel
theorem dX8_copy_140 : decode cX8_copy 140 = .ok (.iconst 0, 1) := by decide +kernel
theorem dX8_copy_141 : decode cX8_copy 141 = .ok (.istore 7, 2) := by decide +kernel
theorem dX8_copy_143 : decode cX8_copy 143 = .ok (.iload 7, 2) := by decide +kernel
theorem dX8_copy_145 : decode cX8_copy 145 = .ok (.iload 5, 2) := by decide +kernel
theorem dX8_copy_147 : decode cX8_copy 147 = .ok (.if_icmp .ge 57, 3) := by decide +kernel
theorem dX8_copy_150 : decode cX8_copy 150 = .ok (.iload 6, 2) := by decide +kernel
theorem dX8_copy_152 : decode cX8_copy 152 = .ok (.ifCond .eq 8, 3) := by decide +kernel
theorem dX8_copy_155 : decode cX8_copy 155 = .ok (.iload 7, 2) := by decide +kernel
theorem dX8_copy_157 : decode cX8_copy 157 = .ok (.goto 10, 3) := by decide +kernel
theorem dX8_copy_160 : decode cX8_copy 160 = .ok (.iload 5, 2) := by decide +kernel
theorem dX8_copy_162 : decode cX8_copy 162 = .ok (.iconst 1, 1) := by decide +kernel
theorem dX8_copy_163 : decode cX8_copy 163 = .ok (.isub, 1) := by decide +kernel
theorem dX8_copy_164 : decode cX8_copy 164 = .ok (.iload 7, 2) := by decide +kernel
theorem dX8_copy_166 : decode cX8_copy 166 = .ok (.isub, 1) := by decide +kernel
theorem dX8_copy_167 : decode cX8_copy 167 = .ok (.istore 8, 2) := by decide +kernel
theorem dX8_copy_169 : decode cX8_copy 169 = .ok (.aload_n 0, 1) := by decide +kernel
theorem dX8_copy_170 : decode cX8_copy 170 = .ok (.getfield 16, 3) := by decide +kernel
theorem dX8_copy_173 : decode cX8_copy 173 = .ok (.bipush 40, 2) := by decide +kernel
theorem dX8_copy_175 : decode cX8_copy 175 = .ok (.iload_n 3, 1) := by decide +kernel
theorem dX8_copy_176 : decode cX8_copy 176 = .ok (.imul, 1) := by decide +kernel
theorem dX8_copy_177 : decode cX8_copy 177 = .ok (.iload 4, 2) := by decide +kernel
theorem dX8_copy_179 : decode cX8_copy 179 = .ok (.iadd, 1) := by decide +kernel
theorem dX8_copy_180 : decode cX8_copy 180 = .ok (.iload 8, 2) := by decide +kernel
theorem dX8_copy_182 : decode cX8_copy 182 = .ok (.iadd, 1) := by decide +kernel
theorem dX8_copy_183 : decode cX8_copy 183 = .ok (.aload_n 0, 1) := by decide +kernel
theorem dX8_copy_184 : decode cX8_copy 184 = .ok (.getfield 16, 3) := by decide +kernel
theorem dX8_copy_187 : decode cX8_copy 187 = .ok (.bipush 40, 2) := by decide +kernel
theorem dX8_copy_189 : decode cX8_copy 189 = .ok (.iload_n 1, 1) := by decide +kernel
theorem dX8_copy_190 : decode cX8_copy 190 = .ok (.imul, 1) := by decide +kernel
theorem dX8_copy_191 : decode cX8_copy 191 = .ok (.iload_n 2, 1) := by decide +kernel
theorem dX8_copy_192 : decode cX8_copy 192 = .ok (.iadd, 1) := by decide +kernel
theorem dX8_copy_193 : decode cX8_copy 193 = .ok (.iload 8, 2) := by decide +kernel
theorem dX8_copy_195 : decode cX8_copy 195 = .ok (.iadd, 1) := by decide +kernel
theorem dX8_copy_196 : decode cX8_copy 196 = .ok (.iaload, 1) := by decide +kernel
theorem dX8_copy_197 : decode cX8_copy 197 = .ok (.iastore, 1) := by decide +kernel
theorem dX8_copy_198 : decode cX8_copy 198 = .ok (.iinc 7 1, 3) := by decide +kernel
theorem dX8_copy_201 : decode cX8_copy 201 = .ok (.goto (-58), 3) := by decide +kernel
theorem dX8_copy_204 : decode cX8_copy 204 = .ok (.iload 5, 2) := by decide +kernel
theorem dX8_copy_206 : decode cX8_copy 206 = .ok (.ireturn, 1) := by decide +kernel
theorem dX8_drop_0 : decode cX8_drop 0 = .ok (.aload_n 0, 1) := by decide +kernel
theorem dX8_drop_1 : decode cX8_drop 1 = .ok (.iconst 0, 1) := by decide +kernel
theorem dX8_drop_2 : decode cX8_drop 2 = .ok (.putfield 62, 3) := by decide +kernel
theorem dX8_drop_5 : decode cX8_drop 5 = .ok (.iload_n 1, 1) := by decide +kernel
theorem dX8_drop_6 : decode cX8_drop 6 = .ok (.invokestatic 76, 3) := by decide +kernel
theorem dX8_drop_9 : decode cX8_drop 9 = .ok (.ifCond .ne 6, 3) := by decide +kernel
theorem dX8_drop_12 : decode cX8_drop 12 = .ok (.ldc 82, 2) := by decide +kernel
theorem dX8_drop_14 : decode cX8_drop 14 = .ok (.ireturn, 1) := by decide +kernel
theorem dX8_drop_15 : decode cX8_drop 15 = .ok (.aload_n 0, 1) := by decide +kernel
theorem dX8_drop_16 : decode cX8_drop 16 = .ok (.iconst 0, 1) := by decide +kernel
theorem dX8_drop_17 : decode cX8_drop 17 = .ok (.putfield 66, 3) := by decide +kernel
theorem dX8_drop_20 : decode cX8_drop 20 = .ok (.aload_n 0, 1) := by decide +kernel
theorem dX8_drop_21 : decode cX8_drop 21 = .ok (.getfield 7, 3) := by decide +kernel
theorem dX8_drop_24 : decode cX8_drop 24 = .ok (.iload_n 1, 1) := by decide +kernel
theorem dX8_drop_25 : decode cX8_drop 25 = .ok (.iaload, 1) := by decide +kernel
theorem dX8_drop_26 : decode cX8_drop 26 = .ok (.ifCond .ge 9, 3) := by decide +kernel
theorem dX8_drop_29 : decode cX8_drop 29 = .ok (.aload_n 0, 1) := by decide +kernel
theorem dX8_drop_30 : decode cX8_drop 30 = .ok (.iconst 1, 1) := by decide +kernel
theorem dX8_drop_31 : decode cX8_drop 31 = .ok (.invokevirtual 83, 3) := by decide +kernel
theorem dX8_drop_34 : decode cX8_drop 34 = .ok (.ireturn, 1) := by decide +kernel
theorem dX8_drop_35 : decode cX8_drop 35 = .ok (.aload_n 0, 1) := by decide +kernel
theorem dX8_drop_36 : decode cX8_drop 36 = .ok (.getfield 7, 3) := by decide +kernel
theorem dX8_drop_39 : decode cX8_drop 39 = .ok (.iload_n 1, 1) := by decide +kernel
theorem dX8_drop_40 : decode cX8_drop 40 = .ok (.iconst (-1), 1) := by decide +kernel
theorem dX8_drop_41 : decode cX8_drop 41 = .ok (.iastore, 1) := by decide +kernel
theorem dX8_drop_42 : decode cX8_drop 42 = .ok (.aload_n 0, 1) := by decide +kernel
theorem dX8_drop_43 : decode cX8_drop 43 = .ok (.getfield 13, 3) := by decide +kernel
theorem dX8_drop_46 : decode cX8_drop 46 = .ok (.iload_n 1, 1) := by decide +kernel
theorem dX8_drop_47 : decode cX8_drop 47 = .ok (.iaload, 1) := by decide +kernel
theorem dX8_drop_48 : decode cX8_drop 48 = .ok (.ireturn, 1) := by decide +kernel
theorem dX8_feed_0 : decode cX8_feed 0 = .ok (.aload_n 0, 1) := by decide +kernel
theorem dX8_feed_1 : decode cX8_feed 1 = .ok (.iconst 0, 1) := by decide +kernel
theorem dX8_feed_2 : decode cX8_feed 2 = .ok (.putfield 62, 3) := by decide +kernel
theorem dX8_feed_5 : decode cX8_feed 5 = .ok (.iload_n 1, 1) := by decide +kernel
theorem dX8_feed_6 : decode cX8_feed 6 = .ok (.i2l, 1) := by decide +kernel
theorem dX8_feed_7 : decode cX8_feed 7 = .ok (.lconst 0, 1) := by decide +kernel
theorem dX8_feed_8 : decode cX8_feed 8 = .ok (.ldc2_w 87, 3) := by decide +kernel
theorem dX8_feed_11 : decode cX8_feed 11 = .ok (.invokestatic 72, 3) := by decide +kernel
theorem dX8_feed_14 : decode cX8_feed 14 = .ok (.ifCond .ne 6, 3) := by decide +kernel
theorem dX8_feed_17 : decode cX8_feed 17 = .ok (.ldc 82, 2) := by decide +kernel
theorem dX8_feed_19 : decode cX8_feed 19 = .ok (.ireturn, 1) := by decide +kernel
theorem dX8_feed_20 : decode cX8_feed 20 = .ok (.aload_n 0, 1) := by decide +kernel
theorem dX8_feed_21 : decode cX8_feed 21 = .ok (.getfield 89, 3) := by decide +kernel
theorem dX8_feed_24 : decode cX8_feed 24 = .ok (.sipush 130, 3) := by decide +kernel
theorem dX8_feed_27 : decode cX8_feed 27 = .ok (.if_icmp .ne 6, 3) := by decide +kernel
theorem dX8_feed_30 : decode cX8_feed 30 = .ok (.ldc 92, 2) := by decide +kernel
theorem dX8_feed_32 : decode cX8_feed 32 = .ok (.ireturn, 1) := by decide +kernel
theorem dX8_feed_33 : decode cX8_feed 33 = .ok (.aload_n 0, 1) := by decide +kernel
theorem dX8_feed_34 : decode cX8_feed 34 = .ok (.getfield 31, 3) := by decide +kernel
theorem dX8_feed_37 : decode cX8_feed 37 = .ok (.aload_n 0, 1) := by decide +kernel
theorem dX8_feed_38 : decode cX8_feed 38 = .ok (.getfield 89, 3) := by decide +kernel
theorem dX8_feed_41 : decode cX8_feed 41 = .ok (.iload_n 1, 1) := by decide +kernel
theorem dX8_feed_42 : decode cX8_feed 42 = .ok (.iastore, 1) := by decide +kernel
theorem dX8_feed_43 : decode cX8_feed 43 = .ok (.aload_n 0, 1) := by decide +kernel
theorem dX8_feed_44 : decode cX8_feed 44 = .ok (.dup, 1) := by decide +kernel
theorem dX8_feed_45 : decode cX8_feed 45 = .ok (.getfield 89, 3) := by decide +kernel
theorem dX8_feed_48 : decode cX8_feed 48 = .ok (.iconst 1, 1) := by decide +kernel
theorem dX8_feed_49 : decode cX8_feed 49 = .ok (.iadd, 1) := by decide +kernel
theorem dX8_feed_50 : decode cX8_feed 50 = .ok (.putfield 89, 3) := by decide +kernel
theorem dX8_feed_53 : decode cX8_feed 53 = .ok (.aload_n 0, 1) := by decide +kernel
theorem dX8_feed_54 : decode cX8_feed 54 = .ok (.getfield 89, 3) := by decide +kernel
theorem dX8_feed_57 : decode cX8_feed 57 = .ok (.ireturn, 1) := by decide +kernel
theorem dX8_bad_0 : decode cX8_bad 0 = .ok (.aload_n 0, 1) := by decide +kernel
theorem dX8_bad_1 : decode cX8_bad 1 = .ok (.getfield 93, 3) := by decide +kernel
theorem dX8_bad_4 : decode cX8_bad 4 = .ok (.ifCond .ne 16, 3) := by decide +kernel
theorem dX8_bad_7 : decode cX8_bad 7 = .ok (.aload_n 0, 1) := by decide +kernel
theorem dX8_bad_8 : decode cX8_bad 8 = .ok (.iload_n 1, 1) := by decide +kernel
theorem dX8_bad_9 : decode cX8_bad 9 = .ok (.putfield 93, 3) := by decide +kernel
theorem dX8_bad_12 : decode cX8_bad 12 = .ok (.aload_n 0, 1) := by decide +kernel
theorem dX8_bad_13 : decode cX8_bad 13 = .ok (.aload_n 0, 1) := by decide +kernel
theorem dX8_bad_14 : decode cX8_bad 14 = .ok (.getfield 96, 3) := by decide +kernel
theorem dX8_bad_17 : decode cX8_bad 17 = .ok (.putfield 99, 3) := by decide +kernel
theorem dX8_bad_20 : decode cX8_bad 20 = .ok (.return_, 1) := by decide +kernel
theorem dX8_nextToken_0 : decode cX8_nextToken 0 = .ok (.aload_n 0, 1) := by decide +kernel
theorem dX8_nextToken_1 : decode cX8_nextToken 1 = .ok (.aload_n 0, 1) := by decide +kernel
theorem dX8_nextToken_2 : decode cX8_nextToken 2 = .ok (.getfield 102, 3) := by decide +kernel
theorem dX8_nextToken_5 : decode cX8_nextToken 5 = .ok (.putfield 96, 3) := by decide +kernel
theorem dX8_nextToken_8 : decode cX8_nextToken 8 = .ok (.aload_n 0, 1) := by decide +kernel
theorem dX8_nextToken_9 : decode cX8_nextToken 9 = .ok (.aload_n 0, 1) := by decide +kernel
theorem dX8_nextToken_10 : decode cX8_nextToken 10 = .ok (.getfield 102, 3) := by decide +kernel
theorem dX8_nextToken_13 : decode cX8_nextToken 13 = .ok (.aload_n 0, 1) := by decide +kernel
theorem dX8_nextToken_14 : decode cX8_nextToken 14 = .ok (.getfield 89, 3) := by decide +kernel
theorem dX8_nextToken_17 : decode cX8_nextToken 17 = .ok (.if_icmp .ge 15, 3) := by decide +kernel
theorem dX8_nextToken_20 : decode cX8_nextToken 20 = .ok (.aload_n 0, 1) := by decide +kernel
theorem dX8_nextToken_21 : decode cX8_nextToken 21 = .ok (.getfield 31, 3) := by decide +kernel
theorem dX8_nextToken_24 : decode cX8_nextToken 24 = .ok (.aload_n 0, 1) := by decide +kernel
theorem dX8_nextToken_25 : decode cX8_nextToken 25 = .ok (.getfield 102, 3) := by decide +kernel
theorem dX8_nextToken_28 : decode cX8_nextToken 28 = .ok (.iaload, 1) := by decide +kernel
theorem dX8_nextToken_29 : decode cX8_nextToken 29 = .ok (.goto 5, 3) := by decide +kernel
theorem dX8_nextToken_32 : decode cX8_nextToken 32 = .ok (.ldc 105, 2) := by decide +kernel
theorem dX8_nextToken_34 : decode cX8_nextToken 34 = .ok (.putfield 106, 3) := by decide +kernel
theorem dX8_nextToken_37 : decode cX8_nextToken 37 = .ok (.aload_n 0, 1) := by decide +kernel
theorem dX8_nextToken_38 : decode cX8_nextToken 38 = .ok (.aload_n 0, 1) := by decide +kernel
theorem dX8_nextToken_39 : decode cX8_nextToken 39 = .ok (.getfield 102, 3) := by decide +kernel
theorem dX8_nextToken_42 : decode cX8_nextToken 42 = .ok (.aload_n 0, 1) := by decide +kernel
theorem dX8_nextToken_43 : decode cX8_nextToken 43 = .ok (.getfield 89, 3) := by decide +kernel
theorem dX8_nextToken_46 : decode cX8_nextToken 46 = .ok (.if_icmp .ne 7, 3) := by decide +kernel
theorem dX8_nextToken_49 : decode cX8_nextToken 49 = .ok (.iconst 1, 1) := by decide +kernel
theorem dX8_nextToken_50 : decode cX8_nextToken 50 = .ok (.goto 68, 3) := by decide +kernel
theorem dX8_nextToken_53 : decode cX8_nextToken 53 = .ok (.aload_n 0, 1) := by decide +kernel
theorem dX8_nextToken_54 : decode cX8_nextToken 54 = .ok (.getfield 106, 3) := by decide +kernel
theorem dX8_nextToken_57 : decode cX8_nextToken 57 = .ok (.i2l, 1) := by decide +kernel
theorem dX8_nextToken_58 : decode cX8_nextToken 58 = .ok (.ldc2_w 109, 3) := by decide +kernel
theorem dX8_nextToken_61 : decode cX8_nextToken 61 = .ok (.ldc2_w 111, 3) := by decide +kernel
theorem dX8_nextToken_64 : decode cX8_nextToken 64 = .ok (.invokestatic 72, 3) := by decide +kernel
theorem dX8_nextToken_67 : decode cX8_nextToken 67 = .ok (.ifCond .eq 7, 3) := by decide +kernel
theorem dX8_nextToken_70 : decode cX8_nextToken 70 = .ok (.iconst 2, 1) := by decide +kernel
theorem dX8_nextToken_71 : decode cX8_nextToken 71 = .ok (.goto 47, 3) := by decide +kernel
theorem dX8_nextToken_74 : decode cX8_nextToken 74 = .ok (.aload_n 0, 1) := by decide +kernel
theorem dX8_nextToken_75 : decode cX8_nextToken 75 = .ok (.getfield 106, 3) := by decide +kernel
theorem dX8_nextToken_78 : decode cX8_nextToken 78 = .ok (.i2l, 1) := by decide +kernel
theorem dX8_nextToken_79 : decode cX8_nextToken 79 = .ok (.ldc2_w 113, 3) := by decide +kernel
theorem dX8_nextToken_82 : decode cX8_nextToken 82 = .ok (.ldc2_w 115, 3) := by decide +kernel
theorem dX8_nextToken_85 : decode cX8_nextToken 85 = .ok (.invokestatic 72, 3) := by decide +kernel
theorem dX8_nextToken_88 : decode cX8_nextToken 88 = .ok (.ifCond .eq 7, 3) := by decide +kernel
theorem dX8_nextToken_91 : decode cX8_nextToken 91 = .ok (.iconst 3, 1) := by decide +kernel
theorem dX8_nextToken_92 : decode cX8_nextToken 92 = .ok (.goto 26, 3) := by decide +kernel
theorem dX8_nextToken_95 : decode cX8_nextToken 95 = .ok (.aload_n 0, 1) := by decide +kernel
theorem dX8_nextToken_96 : decode cX8_nextToken 96 = .ok (.getfield 106, 3) := by decide +kernel
theorem dX8_nextToken_99 : decode cX8_nextToken 99 = .ok (.bipush 44, 2) := by decide +kernel
theorem dX8_nextToken_101 : decode cX8_nextToken 101 = .ok (.if_icmp .eq 12, 3) := by decide +kernel
theorem dX8_nextToken_104 : decode cX8_nextToken 104 = .ok (.aload_n 0, 1) := by decide +kernel
theorem dX8_nextToken_105 : decode cX8_nextToken 105 = .ok (.getfield 106, 3) := by decide +kernel
theorem dX8_nextToken_108 : decode cX8_nextToken 108 = .ok (.bipush 59, 2) := by decide +kernel
theorem dX8_nextToken_110 : decode cX8_nextToken 110 = .ok (.if_icmp .ne 7, 3) := by decide +kernel
theorem dX8_nextToken_113 : decode cX8_nextToken 113 = .ok (.iconst 4, 1) := by decide +kernel
theorem dX8_nextToken_114 : decode cX8_nextToken 114 = .ok (.goto 4, 3) := by decide +kernel
theorem dX8_nextToken_117 : decode cX8_nextToken 117 = .ok (.iconst 0, 1) := by decide +kernel
theorem dX8_nextToken_118 : decode cX8_nextToken 118 = .ok (.putfield 117, 3) := by decide +kernel
theorem dX8_nextToken_121 : decode cX8_nextToken 121 = .ok (.aload_n 0, 1) := by decide +kernel
theorem dX8_nextToken_122 : decode cX8_nextToken 122 = .ok (.dup, 1) := by decide +kernel
theorem dX8_nextToken_123 : decode cX8_nextToken 123 = .ok (.getfield 102, 3) := by decide +kernel
theorem dX8_nextToken_126 : decode cX8_nextToken 126 = .ok (.aload_n 0, 1) := by decide +kernel
theorem dX8_nextToken_127 : decode cX8_nextToken 127 = .ok (.getfield 102, 3) := by decide +kernel
theorem dX8_nextToken_130 : decode cX8_nextToken 130 = .ok (.aload_n 0, 1) := by decide +kernel
theorem dX8_nextToken_131 : decode cX8_nextToken 131 = .ok (.getfield 89, 3) := by decide +kernel
theorem dX8_nextToken_134 : decode cX8_nextToken 134 = .ok (.if_icmp .ge 7, 3) := by decide +kernel
theorem dX8_nextToken_137 : decode cX8_nextToken 137 = .ok (.iconst 1, 1) := by decide +kernel
theorem dX8_nextToken_138 : decode cX8_nextToken 138 = .ok (.goto 4, 3) := by decide +kernel
theorem dX8_nextToken_141 : decode cX8_nextToken 141 = .ok (.iconst 0, 1) := by decide +kernel
theorem dX8_nextToken_142 : decode cX8_nextToken 142 = .ok (.iadd, 1) := by decide +kernel
theorem dX8_nextToken_143 : decode cX8_nextToken 143 = .ok (.putfield 102, 3) := by decide +kernel
theorem dX8_nextToken_146 : decode cX8_nextToken 146 = .ok (.aload_n 0, 1) := by decide +kernel
theorem dX8_nextToken_147 : decode cX8_nextToken 147 = .ok (.getfield 117, 3) := by decide +kernel
theorem dX8_nextToken_150 : decode cX8_nextToken 150 = .ok (.iconst 3, 1) := by decide +kernel
theorem dX8_nextToken_151 : decode cX8_nextToken 151 = .ok (.if_icmp .ne 126, 3) := by decide +kernel
theorem dX8_nextToken_154 : decode cX8_nextToken 154 = .ok (.aload_n 0, 1) := by decide +kernel
theorem dX8_nextToken_155 : decode cX8_nextToken 155 = .ok (.dup, 1) := by decide +kernel
theorem dX8_nextToken_156 : decode cX8_nextToken 156 = .ok (.getfield 106, 3) := by decide +kernel
theorem dX8_nextToken_159 : decode cX8_nextToken 159 = .ok (.bipush 48, 2) := by decide +kernel
theorem dX8_nextToken_161 : decode cX8_nextToken 161 = .ok (.isub, 1) := by decide +kernel
theorem dX8_nextToken_162 : decode cX8_nextToken 162 = .ok (.putfield 106, 3) := by decide +kernel
theorem dX8_nextToken_165 : decode cX8_nextToken 165 = .ok (.aload_n 0, 1) := by decide +kernel
theorem dX8_nextToken_166 : decode cX8_nextToken 166 = .ok (.getfield 102, 3) := by decide +kernel
theorem dX8_nextToken_169 : decode cX8_nextToken 169 = .ok (.aload_n 0, 1) := by decide +kernel
theorem dX8_nextToken_170 : decode cX8_nextToken 170 = .ok (.getfield 89, 3) := by decide +kernel
theorem dX8_nextToken_173 : decode cX8_nextToken 173 = .ok (.if_icmp .ge 82, 3) := by decide +kernel
theorem dX8_nextToken_176 : decode cX8_nextToken 176 = .ok (.aload_n 0, 1) := by decide +kernel
theorem dX8_nextToken_177 : decode cX8_nextToken 177 = .ok (.getfield 31, 3) := by decide +kernel
theorem dX8_nextToken_180 : decode cX8_nextToken 180 = .ok (.aload_n 0, 1) := by decide +kernel
theorem dX8_nextToken_181 : decode cX8_nextToken 181 = .ok (.getfield 102, 3) := by decide +kernel
theorem dX8_nextToken_184 : decode cX8_nextToken 184 = .ok (.iaload, 1) := by decide +kernel
theorem dX8_nextToken_185 : decode cX8_nextToken 185 = .ok (.i2l, 1) := by decide +kernel
theorem dX8_nextToken_186 : decode cX8_nextToken 186 = .ok (.ldc2_w 113, 3) := by decide +kernel
theorem dX8_nextToken_189 : decode cX8_nextToken 189 = .ok (.ldc2_w 115, 3) := by decide +kernel
theorem dX8_nextToken_192 : decode cX8_nextToken 192 = .ok (.invokestatic 72, 3) := by decide +kernel
theorem dX8_nextToken_195 : decode cX8_nextToken 195 = .ok (.ifCond .eq 60, 3) := by decide +kernel
theorem dX8_nextToken_198 : decode cX8_nextToken 198 = .ok (.aload_n 0, 1) := by decide +kernel
theorem dX8_nextToken_199 : decode cX8_nextToken 199 = .ok (.aload_n 0, 1) := by decide +kernel
theorem dX8_nextToken_200 : decode cX8_nextToken 200 = .ok (.getfield 102, 3) := by decide +kernel
theorem dX8_nextToken_203 : decode cX8_nextToken 203 = .ok (.aload_n 0, 1) := by decide +kernel
theorem dX8_nextToken_204 : decode cX8_nextToken 204 = .ok (.getfield 96, 3) := by decide +kernel
theorem dX8_nextToken_207 : decode cX8_nextToken 207 = .ok (.isub, 1) := by decide +kernel
theorem dX8_nextToken_208 : decode cX8_nextToken 208 = .ok (.iconst 2, 1) := by decide +kernel
theorem dX8_nextToken_209 : decode cX8_nextToken 209 = .ok (.if_icmp .ge 26, 3) := by decide +kernel
theorem dX8_nextToken_212 : decode cX8_nextToken 212 = .ok (.bipush 10, 2) := by decide +kernel
theorem dX8_nextToken_214 : decode cX8_nextToken 214 = .ok (.aload_n 0, 1) := by decide +kernel
theorem dX8_nextToken_215 : decode cX8_nextToken 215 = .ok (.getfield 106, 3) := by decide +kernel
theorem dX8_nextToken_218 : decode cX8_nextToken 218 = .ok (.imul, 1) := by decide +kernel
theorem dX8_nextToken_219 : decode cX8_nextToken 219 = .ok (.aload_n 0, 1) := by decide +kernel
theorem dX8_nextToken_220 : decode cX8_nextToken 220 = .ok (.getfield 31, 3) := by decide +kernel
theorem dX8_nextToken_223 : decode cX8_nextToken 223 = .ok (.aload_n 0, 1) := by decide +kernel
theorem dX8_nextToken_224 : decode cX8_nextToken 224 = .ok (.getfield 102, 3) := by decide +kernel
theorem dX8_nextToken_227 : decode cX8_nextToken 227 = .ok (.iaload, 1) := by decide +kernel
theorem dX8_nextToken_228 : decode cX8_nextToken 228 = .ok (.iadd, 1) := by decide +kernel
theorem dX8_nextToken_229 : decode cX8_nextToken 229 = .ok (.bipush 48, 2) := by decide +kernel
theorem dX8_nextToken_231 : decode cX8_nextToken 231 = .ok (.isub, 1) := by decide +kernel
theorem dX8_nextToken_232 : decode cX8_nextToken 232 = .ok (.goto 7, 3) := by decide +kernel
theorem dX8_nextToken_235 : decode cX8_nextToken 235 = .ok (.aload_n 0, 1) := by decide +kernel
theorem dX8_nextToken_236 : decode cX8_nextToken 236 = .ok (.getfield 106, 3) := by decide +kernel
theorem dX8_nextToken_239 : decode cX8_nextToken 239 = .ok (.putfield 106, 3) := by decide +kernel
theorem dX8_nextToken_242 : decode cX8_nextToken 242 = .ok (.aload_n 0, 1) := by decide +kernel
theorem dX8_nextToken_243 : decode cX8_nextToken 243 = .ok (.dup, 1) := by decide +kernel
theorem dX8_nextToken_244 : decode cX8_nextToken 244 = .ok (.getfield 102, 3) := by decide +kernel
theorem dX8_nextToken_247 : decode cX8_nextToken 247 = .ok (.iconst 1, 1) := by decide +kernel
theorem dX8_nextToken_248 : decode cX8_nextToken 248 = .ok (.iadd, 1) := by decide +kernel
theorem dX8_nextToken_249 : decode cX8_nextToken 249 = .ok (.putfield 102, 3) := by decide +kernel
theorem dX8_nextToken_252 : decode cX8_nextToken 252 = .ok (.goto (-87), 3) := by decide +kernel
theorem dX8_nextToken_255 : decode cX8_nextToken 255 = .ok (.aload_n 0, 1) := by decide +kernel
theorem dX8_nextToken_256 : decode cX8_nextToken 256 = .ok (.aload_n 0, 1) := by decide +kernel
theorem dX8_nextToken_257 : decode cX8_nextToken 257 = .ok (.getfield 102, 3) := by decide +kernel
theorem dX8_nextToken_260 : decode cX8_nextToken 260 = .ok (.aload_n 0, 1) := by decide +kernel
theorem dX8_nextToken_261 : decode cX8_nextToken 261 = .ok (.getfield 96, 3) := by decide +kernel
theorem dX8_nextToken_264 : decode cX8_nextToken 264 = .ok (.isub, 1) := by decide +kernel
theorem dX8_nextToken_265 : decode cX8_nextToken 265 = .ok (.iconst 2, 1) := by decide +kernel
theorem dX8_nextToken_266 : decode cX8_nextToken 266 = .ok (.if_icmp .le 7, 3) := by decide +kernel
theorem dX8_nextToken_269 : decode cX8_nextToken 269 = .ok (.iconst 0, 1) := by decide +kernel
theorem dX8_nextToken_270 : decode cX8_nextToken 270 = .ok (.goto 4, 3) := by decide +kernel
theorem dX8_nextToken_273 : decode cX8_nextToken 273 = .ok (.iconst 3, 1) := by decide +kernel
theorem dX8_nextToken_274 : decode cX8_nextToken 274 = .ok (.putfield 117, 3) := by decide +kernel
theorem dX8_nextToken_277 : decode cX8_nextToken 277 = .ok (.return_, 1) := by decide +kernel
theorem dX8_must_0 : decode cX8_must 0 = .ok (.iload_n 1, 1) := by decide +kernel
theorem dX8_must_1 : decode cX8_must 1 = .ok (.ifCond .ne 8, 3) := by decide +kernel
theorem dX8_must_4 : decode cX8_must 4 = .ok (.aload_n 0, 1) := by decide +kernel
theorem dX8_must_5 : decode cX8_must 5 = .ok (.iconst 1, 1) := by decide +kernel
theorem dX8_must_6 : decode cX8_must 6 = .ok (.invokevirtual 120, 3) := by decide +kernel
theorem dX8_must_9 : decode cX8_must 9 = .ok (.aload_n 0, 1) := by decide +kernel
theorem dX8_must_10 : decode cX8_must 10 = .ok (.getfield 93, 3) := by decide +kernel
theorem dX8_must_13 : decode cX8_must 13 = .ok (.ifCond .ne 7, 3) := by decide +kernel
theorem dX8_must_16 : decode cX8_must 16 = .ok (.aload_n 0, 1) := by decide +kernel
theorem dX8_must_17 : decode cX8_must 17 = .ok (.invokevirtual 124, 3) := by decide +kernel
theorem dX8_must_20 : decode cX8_must 20 = .ok (.return_, 1) := by decide +kernel
theorem dX8_isLetter_0 : decode cX8_isLetter 0 = .ok (.aload_n 0, 1) := by decide +kernel
theorem dX8_isLetter_1 : decode cX8_isLetter 1 = .ok (.getfield 93, 3) := by decide +kernel
theorem dX8_isLetter_4 : decode cX8_isLetter 4 = .ok (.ifCond .ne 23, 3) := by decide +kernel
theorem dX8_isLetter_7 : decode cX8_isLetter 7 = .ok (.aload_n 0, 1) := by decide +kernel
theorem dX8_isLetter_8 : decode cX8_isLetter 8 = .ok (.getfield 117, 3) := by decide +kernel
theorem dX8_isLetter_11 : decode cX8_isLetter 11 = .ok (.iconst 2, 1) := by decide +kernel
theorem dX8_isLetter_12 : decode cX8_isLetter 12 = .ok (.if_icmp .ne 15, 3) := by decide +kernel
theorem dX8_isLetter_15 : decode cX8_isLetter 15 = .ok (.aload_n 0, 1) := by decide +kernel
theorem dX8_isLetter_16 : decode cX8_isLetter 16 = .ok (.getfield 106, 3) := by decide +kernel
theorem dX8_isLetter_19 : decode cX8_isLetter 19 = .ok (.iload_n 1, 1) := by decide +kernel
theorem dX8_isLetter_20 : decode cX8_isLetter 20 = .ok (.if_icmp .ne 7, 3) := by decide +kernel
theorem dX8_isLetter_23 : decode cX8_isLetter 23 = .ok (.iconst 1, 1) := by decide +kernel
theorem dX8_isLetter_24 : decode cX8_isLetter 24 = .ok (.goto 4, 3) := by decide +kernel
theorem dX8_isLetter_27 : decode cX8_isLetter 27 = .ok (.iconst 0, 1) := by decide +kernel
theorem dX8_isLetter_28 : decode cX8_isLetter 28 = .ok (.ireturn, 1) := by decide +kernel
theorem dX8_number_0 : decode cX8_number 0 = .ok (.aload_n 0, 1) := by decide +kernel
theorem dX8_number_1 : decode cX8_number 1 = .ok (.getfield 93, 3) := by decide +kernel
theorem dX8_number_4 : decode cX8_number 4 = .ok (.ifCond .ne 16, 3) := by decide +kernel
theorem dX8_number_7 : decode cX8_number 7 = .ok (.aload_n 0, 1) := by decide +kernel
theorem dX8_number_8 : decode cX8_number 8 = .ok (.getfield 117, 3) := by decide +kernel
theorem dX8_number_11 : decode cX8_number 11 = .ok (.iconst 3, 1) := by decide +kernel
theorem dX8_number_12 : decode cX8_number 12 = .ok (.if_icmp .eq 8, 3) := by decide +kernel
theorem dX8_number_15 : decode cX8_number 15 = .ok (.aload_n 0, 1) := by decide +kernel
theorem dX8_number_16 : decode cX8_number 16 = .ok (.iconst 1, 1) := by decide +kernel
theorem dX8_number_17 : decode cX8_number 17 = .ok (.invokevirtual 120, 3) := by decide +kernel
theorem dX8_number_20 : decode cX8_number 20 = .ok (.aload_n 0, 1) := by decide +kernel
theorem dX8_number_21 : decode cX8_number 21 = .ok (.getfield 93, 3) := by decide +kernel
theorem dX8_number_24 : decode cX8_number 24 = .ok (.ifCond .ne 23, 3) := by decide +kernel
theorem dX8_number_27 : decode cX8_number 27 = .ok (.aload_n 0, 1) := by decide +kernel
theorem dX8_number_28 : decode cX8_number 28 = .ok (.getfield 106, 3) := by decide +kernel
theorem dX8_number_31 : decode cX8_number 31 = .ok (.i2l, 1) := by decide +kernel
theorem dX8_number_32 : decode cX8_number 32 = .ok (.iload_n 1, 1) := by decide +kernel
theorem dX8_number_33 : decode cX8_number 33 = .ok (.i2l, 1) := by decide +kernel
theorem dX8_number_34 : decode cX8_number 34 = .ok (.iload_n 2, 1) := by decide +kernel
theorem dX8_number_35 : decode cX8_number 35 = .ok (.i2l, 1) := by decide +kernel
theorem dX8_number_36 : decode cX8_number 36 = .ok (.invokestatic 72, 3) := by decide +kernel
theorem dX8_number_39 : decode cX8_number 39 = .ok (.ifCond .ne 8, 3) := by decide +kernel
theorem dX8_number_42 : decode cX8_number 42 = .ok (.aload_n 0, 1) := by decide +kernel
theorem dX8_number_43 : decode cX8_number 43 = .ok (.iconst 2, 1) := by decide +kernel
theorem dX8_number_44 : decode cX8_number 44 = .ok (.invokevirtual 120, 3) := by decide +kernel
theorem dX8_number_47 : decode cX8_number 47 = .ok (.aload_n 0, 1) := by decide +kernel
theorem dX8_number_48 : decode cX8_number 48 = .ok (.getfield 93, 3) := by decide +kernel
theorem dX8_number_51 : decode cX8_number 51 = .ok (.ifCond .ne 10, 3) := by decide +kernel
theorem dX8_number_54 : decode cX8_number 54 = .ok (.aload_n 0, 1) := by decide +kernel
theorem dX8_number_55 : decode cX8_number 55 = .ok (.getfield 106, 3) := by decide +kernel
theorem dX8_number_58 : decode cX8_number 58 = .ok (.goto 4, 3) := by decide +kernel
theorem dX8_number_61 : decode cX8_number 61 = .ok (.iload_n 1, 1) := by decide +kernel
theorem dX8_number_62 : decode cX8_number 62 = .ok (.istore_n 3, 1) := by decide +kernel
theorem dX8_number_63 : decode cX8_number 63 = .ok (.aload_n 0, 1) := by decide +kernel
theorem dX8_number_64 : decode cX8_number 64 = .ok (.iconst 1, 1) := by decide +kernel
theorem dX8_number_65 : decode cX8_number 65 = .ok (.invokevirtual 127, 3) := by decide +kernel
theorem dX8_number_68 : decode cX8_number 68 = .ok (.iload_n 3, 1) := by decide +kernel
theorem dX8_number_69 : decode cX8_number 69 = .ok (.ireturn, 1) := by decide +kernel
theorem dX8_mustSign_0 : decode cX8_mustSign 0 = .ok (.aload_n 0, 1) := by decide +kernel
theorem dX8_mustSign_1 : decode cX8_mustSign 1 = .ok (.aload_n 0, 1) := by decide +kernel
theorem dX8_mustSign_2 : decode cX8_mustSign 2 = .ok (.getfield 117, 3) := by decide +kernel
theorem dX8_mustSign_5 : decode cX8_mustSign 5 = .ok (.iconst 4, 1) := by decide +kernel
theorem dX8_mustSign_6 : decode cX8_mustSign 6 = .ok (.if_icmp .ne 15, 3) := by decide +kernel
theorem dX8_mustSign_9 : decode cX8_mustSign 9 = .ok (.aload_n 0, 1) := by decide +kernel
theorem dX8_mustSign_10 : decode cX8_mustSign 10 = .ok (.getfield 106, 3) := by decide +kernel
theorem dX8_mustSign_13 : decode cX8_mustSign 13 = .ok (.iload_n 1, 1) := by decide +kernel
theorem dX8_mustSign_14 : decode cX8_mustSign 14 = .ok (.if_icmp .ne 7, 3) := by decide +kernel
theorem dX8_mustSign_17 : decode cX8_mustSign 17 = .ok (.iconst 1, 1) := by decide +kernel
theorem dX8_mustSign_18 : decode cX8_mustSign 18 = .ok (.goto 4, 3) := by decide +kernel
theorem dX8_mustSign_21 : decode cX8_mustSign 21 = .ok (.iconst 0, 1) := by decide +kernel
theorem dX8_mustSign_22 : decode cX8_mustSign 22 = .ok (.invokevirtual 127, 3) := by decide +kernel
theorem dX8_mustSign_25 : decode cX8_mustSign 25 = .ok (.return_, 1) := by decide +kernel
theorem dX8_begin_0 : decode cX8_begin 0 = .ok (.aload_n 0, 1) := by decide +kernel
theorem dX8_begin_1 : decode cX8_begin 1 = .ok (.iconst 0, 1) := by decide +kernel
theorem dX8_begin_2 : decode cX8_begin 2 = .ok (.putfield 102, 3) := by decide +kernel
theorem dX8_begin_5 : decode cX8_begin 5 = .ok (.aload_n 0, 1) := by decide +kernel
theorem dX8_begin_6 : decode cX8_begin 6 = .ok (.iconst 0, 1) := by decide +kernel
theorem dX8_begin_7 : decode cX8_begin 7 = .ok (.putfield 93, 3) := by decide +kernel
theorem dX8_begin_10 : decode cX8_begin 10 = .ok (.aload_n 0, 1) := by decide +kernel
theorem dX8_begin_11 : decode cX8_begin 11 = .ok (.invokevirtual 124, 3) := by decide +kernel
theorem dX8_begin_14 : decode cX8_begin 14 = .ok (.return_, 1) := by decide +kernel
theorem dX8_failed_0 : decode cX8_failed 0 = .ok (.aload_n 0, 1) := by decide +kernel
theorem dX8_failed_1 : decode cX8_failed 1 = .ok (.getfield 93, 3) := by decide +kernel
theorem dX8_failed_4 : decode cX8_failed 4 = .ok (.ifCond .ne 16, 3) := by decide +kernel
theorem dX8_failed_7 : decode cX8_failed 7 = .ok (.aload_n 0, 1) := by decide +kernel
theorem dX8_failed_8 : decode cX8_failed 8 = .ok (.getfield 117, 3) := by decide +kernel
theorem dX8_failed_11 : decode cX8_failed 11 = .ok (.iconst 1, 1) := by decide +kernel
theorem dX8_failed_12 : decode cX8_failed 12 = .ok (.if_icmp .eq 8, 3) := by decide +kernel
theorem dX8_failed_15 : decode cX8_failed 15 = .ok (.aload_n 0, 1) := by decide +kernel
theorem dX8_failed_16 : decode cX8_failed 16 = .ok (.iconst 1, 1) := by decide +kernel
theorem dX8_failed_17 : decode cX8_failed 17 = .ok (.invokevirtual 120, 3) := by decide +kernel
theorem dX8_failed_20 : decode cX8_failed 20 = .ok (.aload_n 0, 1) := by decide +kernel
theorem dX8_failed_21 : decode cX8_failed 21 = .ok (.iconst 0, 1) := by decide +kernel
theorem dX8_failed_22 : decode cX8_failed 22 = .ok (.putfield 89, 3) := by decide +kernel
theorem dX8_failed_25 : decode cX8_failed 25 = .ok (.aload_n 0, 1) := by decide +kernel
theorem dX8_failed_26 : decode cX8_failed 26 = .ok (.aload_n 0, 1) := by decide +kernel
theorem dX8_failed_27 : decode cX8_failed 27 = .ok (.getfield 93, 3) := by decide +kernel
theorem dX8_failed_30 : decode cX8_failed 30 = .ok (.ifCond .le 10, 3) := by decide +kernel
theorem dX8_failed_33 : decode cX8_failed 33 = .ok (.aload_n 0, 1) := by decide +kernel
theorem dX8_failed_34 : decode cX8_failed 34 = .ok (.getfield 93, 3) := by decide +kernel
theorem dX8_failed_37 : decode cX8_failed 37 = .ok (.goto 7, 3) := by decide +kernel
theorem dX8_failed_40 : decode cX8_failed 40 = .ok (.aload_n 0, 1) := by decide +kernel
theorem dX8_failed_41 : decode cX8_failed 41 = .ok (.getfield 131, 3) := by decide +kernel
theorem dX8_failed_44 : decode cX8_failed 44 = .ok (.putfield 131, 3) := by decide +kernel
theorem dX8_failed_47 : decode cX8_failed 47 = .ok (.aload_n 0, 1) := by decide +kernel
theorem dX8_failed_48 : decode cX8_failed 48 = .ok (.getfield 93, 3) := by decide +kernel
theorem dX8_failed_51 : decode cX8_failed 51 = .ok (.ifCond .le 7, 3) := by decide +kernel
theorem dX8_failed_54 : decode cX8_failed 54 = .ok (.iconst 1, 1) := by decide +kernel
theorem dX8_failed_55 : decode cX8_failed 55 = .ok (.goto 4, 3) := by decide +kernel
theorem dX8_failed_58 : decode cX8_failed 58 = .ok (.iconst 0, 1) := by decide +kernel
theorem dX8_failed_59 : decode cX8_failed 59 = .ok (.ireturn, 1) := by decide +kernel
theorem dX8_fault_0 : decode cX8_fault 0 = .ok (.aload_n 0, 1) := by decide +kernel
theorem dX8_fault_1 : decode cX8_fault 1 = .ok (.iconst 0, 1) := by decide +kernel
theorem dX8_fault_2 : decode cX8_fault 2 = .ok (.putfield 62, 3) := by decide +kernel
theorem dX8_fault_5 : decode cX8_fault 5 = .ok (.aload_n 0, 1) := by decide +kernel
theorem dX8_fault_6 : decode cX8_fault 6 = .ok (.getfield 131, 3) := by decide +kernel
theorem dX8_fault_9 : decode cX8_fault 9 = .ok (.ireturn, 1) := by decide +kernel
theorem dX8_kindBy_0 : decode cX8_kindBy 0 = .ok (.iload_n 0, 1) := by decide +kernel
theorem dX8_kindBy_1 : decode cX8_kindBy 1 = .ok (.bipush 111, 2) := by decide +kernel
theorem dX8_kindBy_3 : decode cX8_kindBy 3 = .ok (.if_icmp .ne 7, 3) := by decide +kernel
theorem dX8_kindBy_6 : decode cX8_kindBy 6 = .ok (.iconst 1, 1) := by decide +kernel
theorem dX8_kindBy_7 : decode cX8_kindBy 7 = .ok (.goto 45, 3) := by decide +kernel
theorem dX8_kindBy_10 : decode cX8_kindBy 10 = .ok (.iload_n 0, 1) := by decide +kernel
theorem dX8_kindBy_11 : decode cX8_kindBy 11 = .ok (.bipush 115, 2) := by decide +kernel
theorem dX8_kindBy_13 : decode cX8_kindBy 13 = .ok (.if_icmp .ne 7, 3) := by decide +kernel
theorem dX8_kindBy_16 : decode cX8_kindBy 16 = .ok (.iconst 2, 1) := by decide +kernel
theorem dX8_kindBy_17 : decode cX8_kindBy 17 = .ok (.goto 35, 3) := by decide +kernel
theorem dX8_kindBy_20 : decode cX8_kindBy 20 = .ok (.iload_n 0, 1) := by decide +kernel
theorem dX8_kindBy_21 : decode cX8_kindBy 21 = .ok (.bipush 104, 2) := by decide +kernel
theorem dX8_kindBy_23 : decode cX8_kindBy 23 = .ok (.if_icmp .ne 7, 3) := by decide +kernel
theorem dX8_kindBy_26 : decode cX8_kindBy 26 = .ok (.iconst 3, 1) := by decide +kernel
theorem dX8_kindBy_27 : decode cX8_kindBy 27 = .ok (.goto 25, 3) := by decide +kernel
theorem dX8_kindBy_30 : decode cX8_kindBy 30 = .ok (.iload_n 0, 1) := by decide +kernel
theorem dX8_kindBy_31 : decode cX8_kindBy 31 = .ok (.bipush 102, 2) := by decide +kernel
theorem dX8_kindBy_33 : decode cX8_kindBy 33 = .ok (.if_icmp .ne 7, 3) := by decide +kernel
theorem dX8_kindBy_36 : decode cX8_kindBy 36 = .ok (.iconst 4, 1) := by decide +kernel
theorem dX8_kindBy_37 : decode cX8_kindBy 37 = .ok (.goto 15, 3) := by decide +kernel
theorem dX8_kindBy_40 : decode cX8_kindBy 40 = .ok (.iload_n 0, 1) := by decide +kernel
theorem dX8_kindBy_41 : decode cX8_kindBy 41 = .ok (.bipush 99, 2) := by decide +kernel
theorem dX8_kindBy_43 : decode cX8_kindBy 43 = .ok (.if_icmp .ne 7, 3) := by decide +kernel
theorem dX8_kindBy_46 : decode cX8_kindBy 46 = .ok (.iconst 5, 1) := by decide +kernel
theorem dX8_kindBy_47 : decode cX8_kindBy 47 = .ok (.goto 5, 3) := by decide +kernel
theorem dX8_kindBy_50 : decode cX8_kindBy 50 = .ok (.ldc 105, 2) := by decide +kernel
theorem dX8_kindBy_52 : decode cX8_kindBy 52 = .ok (.ireturn, 1) := by decide +kernel
theorem dX8_isSort_0 : decode cX8_isSort 0 = .ok (.aload_n 0, 1) := by decide +kernel
theorem dX8_isSort_1 : decode cX8_isSort 1 = .ok (.getfield 93, 3) := by decide +kernel
theorem dX8_isSort_4 : decode cX8_isSort 4 = .ok (.ifCond .ne 27, 3) := by decide +kernel
theorem dX8_isSort_7 : decode cX8_isSort 7 = .ok (.aload_n 0, 1) := by decide +kernel
theorem dX8_isSort_8 : decode cX8_isSort 8 = .ok (.getfield 117, 3) := by decide +kernel
theorem dX8_isSort_11 : decode cX8_isSort 11 = .ok (.iconst 2, 1) := by decide +kernel
theorem dX8_isSort_12 : decode cX8_isSort 12 = .ok (.if_icmp .ne 19, 3) := by decide +kernel
theorem dX8_isSort_15 : decode cX8_isSort 15 = .ok (.aload_n 0, 1) := by decide +kernel
theorem dX8_isSort_16 : decode cX8_isSort 16 = .ok (.getfield 106, 3) := by decide +kernel
theorem dX8_isSort_19 : decode cX8_isSort 19 = .ok (.invokestatic 134, 3) := by decide +kernel
theorem dX8_isSort_22 : decode cX8_isSort 22 = .ok (.ldc 105, 2) := by decide +kernel
theorem dX8_isSort_24 : decode cX8_isSort 24 = .ok (.if_icmp .eq 7, 3) := by decide +kernel
theorem dX8_isSort_27 : decode cX8_isSort 27 = .ok (.iconst 1, 1) := by decide +kernel
theorem dX8_isSort_28 : decode cX8_isSort 28 = .ok (.goto 4, 3) := by decide +kernel
theorem dX8_isSort_31 : decode cX8_isSort 31 = .ok (.iconst 0, 1) := by decide +kernel
theorem dX8_isSort_32 : decode cX8_isSort 32 = .ok (.ireturn, 1) := by decide +kernel
theorem dX8_isGift_0 : decode cX8_isGift 0 = .ok (.aload_n 0, 1) := by decide +kernel
theorem dX8_isGift_1 : decode cX8_isGift 1 = .ok (.getfield 93, 3) := by decide +kernel
theorem dX8_isGift_4 : decode cX8_isGift 4 = .ok (.ifCond .ne 24, 3) := by decide +kernel
theorem dX8_isGift_7 : decode cX8_isGift 7 = .ok (.aload_n 0, 1) := by decide +kernel
theorem dX8_isGift_8 : decode cX8_isGift 8 = .ok (.getfield 117, 3) := by decide +kernel
theorem dX8_isGift_11 : decode cX8_isGift 11 = .ok (.iconst 2, 1) := by decide +kernel
theorem dX8_isGift_12 : decode cX8_isGift 12 = .ok (.if_icmp .ne 16, 3) := by decide +kernel
theorem dX8_isGift_15 : decode cX8_isGift 15 = .ok (.aload_n 0, 1) := by decide +kernel
theorem dX8_isGift_16 : decode cX8_isGift 16 = .ok (.getfield 106, 3) := by decide +kernel
theorem dX8_isGift_19 : decode cX8_isGift 19 = .ok (.bipush 103, 2) := by decide +kernel
theorem dX8_isGift_21 : decode cX8_isGift 21 = .ok (.if_icmp .ne 7, 3) := by decide +kernel
theorem dX8_isGift_24 : decode cX8_isGift 24 = .ok (.iconst 1, 1) := by decide +kernel
theorem dX8_isGift_25 : decode cX8_isGift 25 = .ok (.goto 4, 3) := by decide +kernel
theorem dX8_isGift_28 : decode cX8_isGift 28 = .ok (.iconst 0, 1) := by decide +kernel
theorem dX8_isGift_29 : decode cX8_isGift 29 = .ok (.ireturn, 1) := by decide +kernel
theorem dX8_readProject_0 : decode cX8_readProject 0 = .ok (.aload_n 0, 1) := by decide +kernel
theorem dX8_readProject_1 : decode cX8_readProject 1 = .ok (.getfield 106, 3) := by decide +kernel
theorem dX8_readProject_4 : decode cX8_readProject 4 = .ok (.invokestatic 134, 3) := by decide +kernel
theorem dX8_readProject_7 : decode cX8_readProject 7 = .ok (.istore_n 1, 1) := by decide +kernel
theorem dX8_readProject_8 : decode cX8_readProject 8 = .ok (.aload_n 0, 1) := by decide +kernel
theorem dX8_readProject_9 : decode cX8_readProject 9 = .ok (.getfield 22, 3) := by decide +kernel
theorem dX8_readProject_12 : decode cX8_readProject 12 = .ok (.iconst 0, 1) := by decide +kernel
theorem dX8_readProject_13 : decode cX8_readProject 13 = .ok (.iaload, 1) := by decide +kernel
theorem dX8_readProject_14 : decode cX8_readProject 14 = .ok (.bipush 6, 2) := by decide +kernel
theorem dX8_readProject_16 : decode cX8_readProject 16 = .ok (.if_icmp .ne 8, 3) := by decide +kernel
theorem dX8_readProject_19 : decode cX8_readProject 19 = .ok (.aload_n 0, 1) := by decide +kernel
theorem dX8_readProject_20 : decode cX8_readProject 20 = .ok (.iconst 3, 1) := by decide +kernel
theorem dX8_readProject_21 : decode cX8_readProject 21 = .ok (.invokevirtual 120, 3) := by decide +kernel
theorem dX8_readProject_24 : decode cX8_readProject 24 = .ok (.aload_n 0, 1) := by decide +kernel
theorem dX8_readProject_25 : decode cX8_readProject 25 = .ok (.iconst 1, 1) := by decide +kernel
theorem dX8_readProject_26 : decode cX8_readProject 26 = .ok (.invokevirtual 127, 3) := by decide +kernel
theorem dX8_readProject_29 : decode cX8_readProject 29 = .ok (.aload_n 0, 1) := by decide +kernel
theorem dX8_readProject_30 : decode cX8_readProject 30 = .ok (.bipush 59, 2) := by decide +kernel
theorem dX8_readProject_32 : decode cX8_readProject 32 = .ok (.invokevirtual 137, 3) := by decide +kernel
theorem dX8_readProject_35 : decode cX8_readProject 35 = .ok (.aload_n 0, 1) := by decide +kernel
theorem dX8_readProject_36 : decode cX8_readProject 36 = .ok (.getfield 93, 3) := by decide +kernel
theorem dX8_readProject_39 : decode cX8_readProject 39 = .ok (.ifCond .ne 27, 3) := by decide +kernel
theorem dX8_readProject_42 : decode cX8_readProject 42 = .ok (.aload_n 0, 1) := by decide +kernel
theorem dX8_readProject_43 : decode cX8_readProject 43 = .ok (.getfield 22, 3) := by decide +kernel
theorem dX8_readProject_46 : decode cX8_readProject 46 = .ok (.iconst 4, 1) := by decide +kernel
theorem dX8_readProject_47 : decode cX8_readProject 47 = .ok (.aload_n 0, 1) := by decide +kernel
theorem dX8_readProject_48 : decode cX8_readProject 48 = .ok (.getfield 22, 3) := by decide +kernel
theorem dX8_readProject_51 : decode cX8_readProject 51 = .ok (.iconst 0, 1) := by decide +kernel
theorem dX8_readProject_52 : decode cX8_readProject 52 = .ok (.iaload, 1) := by decide +kernel
theorem dX8_readProject_53 : decode cX8_readProject 53 = .ok (.iadd, 1) := by decide +kernel
theorem dX8_readProject_54 : decode cX8_readProject 54 = .ok (.iload_n 1, 1) := by decide +kernel
theorem dX8_readProject_55 : decode cX8_readProject 55 = .ok (.iastore, 1) := by decide +kernel
theorem dX8_readProject_56 : decode cX8_readProject 56 = .ok (.aload_n 0, 1) := by decide +kernel
theorem dX8_readProject_57 : decode cX8_readProject 57 = .ok (.getfield 22, 3) := by decide +kernel
theorem dX8_readProject_60 : decode cX8_readProject 60 = .ok (.iconst 0, 1) := by decide +kernel
theorem dX8_readProject_61 : decode cX8_readProject 61 = .ok (.dup2, 1) := by decide +kernel
theorem dX8_readProject_62 : decode cX8_readProject 62 = .ok (.iaload, 1) := by decide +kernel
theorem dX8_readProject_63 : decode cX8_readProject 63 = .ok (.iconst 1, 1) := by decide +kernel
theorem dX8_readProject_64 : decode cX8_readProject 64 = .ok (.iadd, 1) := by decide +kernel
theorem dX8_readProject_65 : decode cX8_readProject 65 = .ok (.iastore, 1) := by decide +kernel
theorem dX8_readProject_66 : decode cX8_readProject 66 = .ok (.return_, 1) := by decide +kernel
theorem dX8_readGift_0 : decode cX8_readGift 0 = .ok (.aload_n 0, 1) := by decide +kernel
theorem dX8_readGift_1 : decode cX8_readGift 1 = .ok (.getfield 22, 3) := by decide +kernel
theorem dX8_readGift_4 : decode cX8_readGift 4 = .ok (.iconst 3, 1) := by decide +kernel
theorem dX8_readGift_5 : decode cX8_readGift 5 = .ok (.iaload, 1) := by decide +kernel
theorem dX8_readGift_6 : decode cX8_readGift 6 = .ok (.bipush 20, 2) := by decide +kernel
theorem dX8_readGift_8 : decode cX8_readGift 8 = .ok (.if_icmp .ne 8, 3) := by decide +kernel
theorem dX8_readGift_11 : decode cX8_readGift 11 = .ok (.aload_n 0, 1) := by decide +kernel
theorem dX8_readGift_12 : decode cX8_readGift 12 = .ok (.iconst 3, 1) := by decide +kernel
theorem dX8_readGift_13 : decode cX8_readGift 13 = .ok (.invokevirtual 120, 3) := by decide +kernel
theorem dX8_readGift_16 : decode cX8_readGift 16 = .ok (.aload_n 0, 1) := by decide +kernel
theorem dX8_readGift_17 : decode cX8_readGift 17 = .ok (.iconst 1, 1) := by decide +kernel
theorem dX8_readGift_18 : decode cX8_readGift 18 = .ok (.invokevirtual 127, 3) := by decide +kernel
theorem dX8_readGift_21 : decode cX8_readGift 21 = .ok (.aload_n 0, 1) := by decide +kernel
theorem dX8_readGift_22 : decode cX8_readGift 22 = .ok (.iconst 0, 1) := by decide +kernel
theorem dX8_readGift_23 : decode cX8_readGift 23 = .ok (.bipush 9, 2) := by decide +kernel
theorem dX8_readGift_25 : decode cX8_readGift 25 = .ok (.invokevirtual 140, 3) := by decide +kernel
theorem dX8_readGift_28 : decode cX8_readGift 28 = .ok (.istore_n 1, 1) := by decide +kernel
theorem dX8_readGift_29 : decode cX8_readGift 29 = .ok (.aload_n 0, 1) := by decide +kernel
theorem dX8_readGift_30 : decode cX8_readGift 30 = .ok (.bipush 44, 2) := by decide +kernel
theorem dX8_readGift_32 : decode cX8_readGift 32 = .ok (.invokevirtual 137, 3) := by decide +kernel
theorem dX8_readGift_35 : decode cX8_readGift 35 = .ok (.aload_n 0, 1) := by decide +kernel
theorem dX8_readGift_36 : decode cX8_readGift 36 = .ok (.iconst 0, 1) := by decide +kernel
theorem dX8_readGift_37 : decode cX8_readGift 37 = .ok (.aload_n 0, 1) := by decide +kernel
theorem dX8_readGift_38 : decode cX8_readGift 38 = .ok (.getfield 22, 3) := by decide +kernel
theorem dX8_readGift_41 : decode cX8_readGift 41 = .ok (.iconst 0, 1) := by decide +kernel
theorem dX8_readGift_42 : decode cX8_readGift 42 = .ok (.iaload, 1) := by decide +kernel
theorem dX8_readGift_43 : decode cX8_readGift 43 = .ok (.iconst 1, 1) := by decide +kernel
theorem dX8_readGift_44 : decode cX8_readGift 44 = .ok (.isub, 1) := by decide +kernel
theorem dX8_readGift_45 : decode cX8_readGift 45 = .ok (.invokevirtual 140, 3) := by decide +kernel
theorem dX8_readGift_48 : decode cX8_readGift 48 = .ok (.istore_n 2, 1) := by decide +kernel
theorem dX8_readGift_49 : decode cX8_readGift 49 = .ok (.aload_n 0, 1) := by decide +kernel
theorem dX8_readGift_50 : decode cX8_readGift 50 = .ok (.bipush 44, 2) := by decide +kernel
theorem dX8_readGift_52 : decode cX8_readGift 52 = .ok (.invokevirtual 137, 3) := by decide +kernel
theorem dX8_readGift_55 : decode cX8_readGift 55 = .ok (.aload_n 0, 1) := by decide +kernel
theorem dX8_readGift_56 : decode cX8_readGift 56 = .ok (.iconst 1, 1) := by decide +kernel
theorem dX8_readGift_57 : decode cX8_readGift 57 = .ok (.bipush 99, 2) := by decide +kernel
theorem dX8_readGift_59 : decode cX8_readGift 59 = .ok (.invokevirtual 140, 3) := by decide +kernel
theorem dX8_readGift_62 : decode cX8_readGift 62 = .ok (.istore_n 3, 1) := by decide +kernel
theorem dX8_readGift_63 : decode cX8_readGift 63 = .ok (.aload_n 0, 1) := by decide +kernel
theorem dX8_readGift_64 : decode cX8_readGift 64 = .ok (.bipush 59, 2) := by decide +kernel
theorem dX8_readGift_66 : decode cX8_readGift 66 = .ok (.invokevirtual 137, 3) := by decide +kernel
theorem dX8_readGift_69 : decode cX8_readGift 69 = .ok (.aload_n 0, 1) := by decide +kernel
theorem dX8_readGift_70 : decode cX8_readGift 70 = .ok (.getfield 93, 3) := by decide +kernel
theorem dX8_readGift_73 : decode cX8_readGift 73 = .ok (.ifCond .ne 13, 3) := by decide +kernel
theorem dX8_readGift_76 : decode cX8_readGift 76 = .ok (.aload_n 0, 1) := by decide +kernel
theorem dX8_readGift_77 : decode cX8_readGift 77 = .ok (.getfield 22, 3) := by decide +kernel
theorem dX8_readGift_80 : decode cX8_readGift 80 = .ok (.iload_n 1, 1) := by decide +kernel
theorem dX8_readGift_81 : decode cX8_readGift 81 = .ok (.iload_n 2, 1) := by decide +kernel
theorem dX8_readGift_82 : decode cX8_readGift 82 = .ok (.iload_n 3, 1) := by decide +kernel
theorem dX8_readGift_83 : decode cX8_readGift 83 = .ok (.invokestatic 144, 3) := by decide +kernel
theorem dX8_readGift_86 : decode cX8_readGift 86 = .ok (.return_, 1) := by decide +kernel
theorem dX8_lay_0 : decode cX8_lay 0 = .ok (.aload_n 0, 1) := by decide +kernel
theorem dX8_lay_1 : decode cX8_lay 1 = .ok (.bipush 10, 2) := by decide +kernel
theorem dX8_lay_3 : decode cX8_lay 3 = .ok (.iconst 3, 1) := by decide +kernel
theorem dX8_lay_4 : decode cX8_lay 4 = .ok (.iload_n 1, 1) := by decide +kernel
theorem dX8_lay_5 : decode cX8_lay 5 = .ok (.imul, 1) := by decide +kernel
theorem dX8_lay_6 : decode cX8_lay 6 = .ok (.iadd, 1) := by decide +kernel
theorem dX8_lay_7 : decode cX8_lay 7 = .ok (.iload_n 2, 1) := by decide +kernel
theorem dX8_lay_8 : decode cX8_lay 8 = .ok (.iastore, 1) := by decide +kernel
theorem dX8_lay_9 : decode cX8_lay 9 = .ok (.aload_n 0, 1) := by decide +kernel
theorem dX8_lay_10 : decode cX8_lay 10 = .ok (.bipush 10, 2) := by decide +kernel
theorem dX8_lay_12 : decode cX8_lay 12 = .ok (.iconst 3, 1) := by decide +kernel
theorem dX8_lay_13 : decode cX8_lay 13 = .ok (.iload_n 1, 1) := by decide +kernel
theorem dX8_lay_14 : decode cX8_lay 14 = .ok (.imul, 1) := by decide +kernel
theorem dX8_lay_15 : decode cX8_lay 15 = .ok (.iadd, 1) := by decide +kernel
theorem dX8_lay_16 : decode cX8_lay 16 = .ok (.iconst 1, 1) := by decide +kernel
theorem dX8_lay_17 : decode cX8_lay 17 = .ok (.iadd, 1) := by decide +kernel
theorem dX8_lay_18 : decode cX8_lay 18 = .ok (.iload_n 3, 1) := by decide +kernel
theorem dX8_lay_19 : decode cX8_lay 19 = .ok (.iastore, 1) := by decide +kernel
theorem dX8_lay_20 : decode cX8_lay 20 = .ok (.aload_n 0, 1) := by decide +kernel
theorem dX8_lay_21 : decode cX8_lay 21 = .ok (.bipush 10, 2) := by decide +kernel
theorem dX8_lay_23 : decode cX8_lay 23 = .ok (.iconst 3, 1) := by decide +kernel
theorem dX8_lay_24 : decode cX8_lay 24 = .ok (.iload_n 1, 1) := by decide +kernel
theorem dX8_lay_25 : decode cX8_lay 25 = .ok (.imul, 1) := by decide +kernel
theorem dX8_lay_26 : decode cX8_lay 26 = .ok (.iadd, 1) := by decide +kernel
theorem dX8_lay_27 : decode cX8_lay 27 = .ok (.iconst 2, 1) := by decide +kernel
theorem dX8_lay_28 : decode cX8_lay 28 = .ok (.iadd, 1) := by decide +kernel
theorem dX8_lay_29 : decode cX8_lay 29 = .ok (.iload 4, 2) := by decide +kernel
theorem dX8_lay_31 : decode cX8_lay 31 = .ok (.iastore, 1) := by decide +kernel
theorem dX8_lay_32 : decode cX8_lay 32 = .ok (.return_, 1) := by decide +kernel
theorem dX8_fund_0 : decode cX8_fund 0 = .ok (.aload_n 0, 1) := by decide +kernel
theorem dX8_fund_1 : decode cX8_fund 1 = .ok (.iconst 0, 1) := by decide +kernel
theorem dX8_fund_2 : decode cX8_fund 2 = .ok (.putfield 62, 3) := by decide +kernel
theorem dX8_fund_5 : decode cX8_fund 5 = .ok (.aload_n 0, 1) := by decide +kernel
theorem dX8_fund_6 : decode cX8_fund 6 = .ok (.invokevirtual 148, 3) := by decide +kernel
theorem dX8_fund_9 : decode cX8_fund 9 = .ok (.iconst 0, 1) := by decide +kernel
theorem dX8_fund_10 : decode cX8_fund 10 = .ok (.istore_n 1, 1) := by decide +kernel
theorem dX8_fund_11 : decode cX8_fund 11 = .ok (.iload_n 1, 1) := by decide +kernel
theorem dX8_fund_12 : decode cX8_fund 12 = .ok (.bipush 80, 2) := by decide +kernel
theorem dX8_fund_14 : decode cX8_fund 14 = .ok (.if_icmp .ge 29, 3) := by decide +kernel
theorem dX8_fund_17 : decode cX8_fund 17 = .ok (.aload_n 0, 1) := by decide +kernel
theorem dX8_fund_18 : decode cX8_fund 18 = .ok (.getfield 22, 3) := by decide +kernel
theorem dX8_fund_21 : decode cX8_fund 21 = .ok (.iload_n 1, 1) := by decide +kernel
theorem dX8_fund_22 : decode cX8_fund 22 = .ok (.iload_n 1, 1) := by decide +kernel
theorem dX8_fund_23 : decode cX8_fund 23 = .ok (.bipush 70, 2) := by decide +kernel
theorem dX8_fund_25 : decode cX8_fund 25 = .ok (.if_icmp .lt 10, 3) := by decide +kernel
theorem dX8_fund_28 : decode cX8_fund 28 = .ok (.iload_n 1, 1) := by decide +kernel
theorem dX8_fund_29 : decode cX8_fund 29 = .ok (.bipush 70, 2) := by decide +kernel
theorem dX8_fund_31 : decode cX8_fund 31 = .ok (.isub, 1) := by decide +kernel
theorem dX8_fund_32 : decode cX8_fund 32 = .ok (.goto 4, 3) := by decide +kernel
theorem dX8_fund_35 : decode cX8_fund 35 = .ok (.iconst 0, 1) := by decide +kernel
theorem dX8_fund_36 : decode cX8_fund 36 = .ok (.iastore, 1) := by decide +kernel
theorem dX8_fund_37 : decode cX8_fund 37 = .ok (.iinc 1 1, 3) := by decide +kernel
theorem dX8_fund_40 : decode cX8_fund 40 = .ok (.goto (-29), 3) := by decide +kernel
theorem dX8_fund_43 : decode cX8_fund 43 = .ok (.aload_n 0, 1) := by decide +kernel
theorem dX8_fund_44 : decode cX8_fund 44 = .ok (.aload_n 0, 1) := by decide +kernel
theorem dX8_fund_45 : decode cX8_fund 45 = .ok (.bipush 109, 2) := by decide +kernel
theorem dX8_fund_47 : decode cX8_fund 47 = .ok (.invokevirtual 151, 3) := by decide +kernel
theorem dX8_fund_50 : decode cX8_fund 50 = .ok (.invokevirtual 127, 3) := by decide +kernel
theorem dX8_fund_53 : decode cX8_fund 53 = .ok (.aload_n 0, 1) := by decide +kernel
theorem dX8_fund_54 : decode cX8_fund 54 = .ok (.getfield 22, 3) := by decide +kernel
theorem dX8_fund_57 : decode cX8_fund 57 = .ok (.iconst 1, 1) := by decide +kernel
theorem dX8_fund_58 : decode cX8_fund 58 = .ok (.bipush 10, 2) := by decide +kernel
theorem dX8_fund_60 : decode cX8_fund 60 = .ok (.aload_n 0, 1) := by decide +kernel
theorem dX8_fund_61 : decode cX8_fund 61 = .ok (.iconst 0, 1) := by decide +kernel
theorem dX8_fund_62 : decode cX8_fund 62 = .ok (.bipush 99, 2) := by decide +kernel
theorem dX8_fund_64 : decode cX8_fund 64 = .ok (.invokevirtual 140, 3) := by decide +kernel
theorem dX8_fund_67 : decode cX8_fund 67 = .ok (.imul, 1) := by decide +kernel
theorem dX8_fund_68 : decode cX8_fund 68 = .ok (.iastore, 1) := by decide +kernel
theorem dX8_fund_69 : decode cX8_fund 69 = .ok (.aload_n 0, 1) := by decide +kernel
theorem dX8_fund_70 : decode cX8_fund 70 = .ok (.bipush 44, 2) := by decide +kernel
theorem dX8_fund_72 : decode cX8_fund 72 = .ok (.invokevirtual 137, 3) := by decide +kernel
theorem dX8_fund_75 : decode cX8_fund 75 = .ok (.aload_n 0, 1) := by decide +kernel
theorem dX8_fund_76 : decode cX8_fund 76 = .ok (.getfield 22, 3) := by decide +kernel
theorem dX8_fund_79 : decode cX8_fund 79 = .ok (.iconst 2, 1) := by decide +kernel
theorem dX8_fund_80 : decode cX8_fund 80 = .ok (.aload_n 0, 1) := by decide +kernel
theorem dX8_fund_81 : decode cX8_fund 81 = .ok (.iconst 1, 1) := by decide +kernel
theorem dX8_fund_82 : decode cX8_fund 82 = .ok (.bipush 99, 2) := by decide +kernel
theorem dX8_fund_84 : decode cX8_fund 84 = .ok (.invokevirtual 140, 3) := by decide +kernel
theorem dX8_fund_87 : decode cX8_fund 87 = .ok (.iastore, 1) := by decide +kernel
theorem dX8_fund_88 : decode cX8_fund 88 = .ok (.aload_n 0, 1) := by decide +kernel
theorem dX8_fund_89 : decode cX8_fund 89 = .ok (.bipush 59, 2) := by decide +kernel
theorem dX8_fund_91 : decode cX8_fund 91 = .ok (.invokevirtual 137, 3) := by decide +kernel
theorem dX8_fund_94 : decode cX8_fund 94 = .ok (.aload_n 0, 1) := by decide +kernel
theorem dX8_fund_95 : decode cX8_fund 95 = .ok (.invokevirtual 154, 3) := by decide +kernel
theorem dX8_fund_98 : decode cX8_fund 98 = .ok (.ifCond .ne 8, 3) := by decide +kernel
theorem dX8_fund_101 : decode cX8_fund 101 = .ok (.aload_n 0, 1) := by decide +kernel
theorem dX8_fund_102 : decode cX8_fund 102 = .ok (.iconst 1, 1) := by decide +kernel
theorem dX8_fund_103 : decode cX8_fund 103 = .ok (.invokevirtual 120, 3) := by decide +kernel
theorem dX8_fund_106 : decode cX8_fund 106 = .ok (.aload_n 0, 1) := by decide +kernel
theorem dX8_fund_107 : decode cX8_fund 107 = .ok (.invokevirtual 154, 3) := by decide +kernel
theorem dX8_fund_110 : decode cX8_fund 110 = .ok (.ifCond .eq 10, 3) := by decide +kernel
theorem dX8_fund_113 : decode cX8_fund 113 = .ok (.aload_n 0, 1) := by decide +kernel
theorem dX8_fund_114 : decode cX8_fund 114 = .ok (.invokevirtual 158, 3) := by decide +kernel
theorem dX8_fund_117 : decode cX8_fund 117 = .ok (.goto (-11), 3) := by decide +kernel
theorem dX8_fund_120 : decode cX8_fund 120 = .ok (.aload_n 0, 1) := by decide +kernel
theorem dX8_fund_121 : decode cX8_fund 121 = .ok (.invokevirtual 161, 3) := by decide +kernel
theorem dX8_fund_124 : decode cX8_fund 124 = .ok (.ifCond .eq 10, 3) := by decide +kernel
theorem dX8_fund_127 : decode cX8_fund 127 = .ok (.aload_n 0, 1) := by decide +kernel
theorem dX8_fund_128 : decode cX8_fund 128 = .ok (.invokevirtual 164, 3) := by decide +kernel
theorem dX8_fund_131 : decode cX8_fund 131 = .ok (.goto (-11), 3) := by decide +kernel
theorem dX8_fund_134 : decode cX8_fund 134 = .ok (.aload_n 0, 1) := by decide +kernel
theorem dX8_fund_135 : decode cX8_fund 135 = .ok (.invokevirtual 167, 3) := by decide +kernel
theorem dX8_fund_138 : decode cX8_fund 138 = .ok (.ifCond .eq 11, 3) := by decide +kernel
theorem dX8_fund_141 : decode cX8_fund 141 = .ok (.ldc 170, 2) := by decide +kernel
theorem dX8_fund_143 : decode cX8_fund 143 = .ok (.aload_n 0, 1) := by decide +kernel
theorem dX8_fund_144 : decode cX8_fund 144 = .ok (.getfield 99, 3) := by decide +kernel
theorem dX8_fund_147 : decode cX8_fund 147 = .ok (.isub, 1) := by decide +kernel
theorem dX8_fund_148 : decode cX8_fund 148 = .ok (.ireturn, 1) := by decide +kernel
theorem dX8_fund_149 : decode cX8_fund 149 = .ok (.aload_n 0, 1) := by decide +kernel
theorem dX8_fund_150 : decode cX8_fund 150 = .ok (.iconst 0, 1) := by decide +kernel
theorem dX8_fund_151 : decode cX8_fund 151 = .ok (.putfield 171, 3) := by decide +kernel
theorem dX8_fund_154 : decode cX8_fund 154 = .ok (.iconst 0, 1) := by decide +kernel
theorem dX8_fund_155 : decode cX8_fund 155 = .ok (.istore_n 1, 1) := by decide +kernel
theorem dX8_fund_156 : decode cX8_fund 156 = .ok (.iload_n 1, 1) := by decide +kernel
theorem dX8_fund_157 : decode cX8_fund 157 = .ok (.bipush 80, 2) := by decide +kernel
theorem dX8_fund_159 : decode cX8_fund 159 = .ok (.if_icmp .ge 21, 3) := by decide +kernel
theorem dX8_fund_162 : decode cX8_fund 162 = .ok (.aload_n 0, 1) := by decide +kernel
theorem dX8_fund_163 : decode cX8_fund 163 = .ok (.getfield 19, 3) := by decide +kernel
theorem dX8_fund_166 : decode cX8_fund 166 = .ok (.iload_n 1, 1) := by decide +kernel
theorem dX8_fund_167 : decode cX8_fund 167 = .ok (.aload_n 0, 1) := by decide +kernel
theorem dX8_fund_168 : decode cX8_fund 168 = .ok (.getfield 22, 3) := by decide +kernel
theorem dX8_fund_171 : decode cX8_fund 171 = .ok (.iload_n 1, 1) := by decide +kernel
theorem dX8_fund_172 : decode cX8_fund 172 = .ok (.iaload, 1) := by decide +kernel
theorem dX8_fund_173 : decode cX8_fund 173 = .ok (.iastore, 1) := by decide +kernel
theorem dX8_fund_174 : decode cX8_fund 174 = .ok (.iinc 1 1, 3) := by decide +kernel
theorem dX8_fund_177 : decode cX8_fund 177 = .ok (.goto (-21), 3) := by decide +kernel
theorem dX8_fund_180 : decode cX8_fund 180 = .ok (.aload_n 0, 1) := by decide +kernel
theorem dX8_fund_181 : decode cX8_fund 181 = .ok (.getfield 19, 3) := by decide +kernel
theorem dX8_fund_184 : decode cX8_fund 184 = .ok (.iconst 0, 1) := by decide +kernel
theorem dX8_fund_185 : decode cX8_fund 185 = .ok (.iaload, 1) := by decide +kernel
theorem dX8_fund_186 : decode cX8_fund 186 = .ok (.ireturn, 1) := by decide +kernel
theorem dX8_isThere_0 : decode cX8_isThere 0 = .ok (.aload_n 0, 1) := by decide +kernel
theorem dX8_isThere_1 : decode cX8_isThere 1 = .ok (.getfield 19, 3) := by decide +kernel
theorem dX8_isThere_4 : decode cX8_isThere 4 = .ok (.iconst 0, 1) := by decide +kernel
theorem dX8_isThere_5 : decode cX8_isThere 5 = .ok (.iaload, 1) := by decide +kernel
theorem dX8_isThere_6 : decode cX8_isThere 6 = .ok (.ifCond .le 7, 3) := by decide +kernel
theorem dX8_isThere_9 : decode cX8_isThere 9 = .ok (.iconst 1, 1) := by decide +kernel
theorem dX8_isThere_10 : decode cX8_isThere 10 = .ok (.goto 4, 3) := by decide +kernel
theorem dX8_isThere_13 : decode cX8_isThere 13 = .ok (.iconst 0, 1) := by decide +kernel
theorem dX8_isThere_14 : decode cX8_isThere 14 = .ok (.ireturn, 1) := by decide +kernel
theorem dX8_isProject_0 : decode cX8_isProject 0 = .ok (.iload_n 1, 1) := by decide +kernel
theorem dX8_isProject_1 : decode cX8_isProject 1 = .ok (.i2l, 1) := by decide +kernel
theorem dX8_isProject_2 : decode cX8_isProject 2 = .ok (.lconst 0, 1) := by decide +kernel
theorem dX8_isProject_3 : decode cX8_isProject 3 = .ok (.aload_n 0, 1) := by decide +kernel
theorem dX8_isProject_4 : decode cX8_isProject 4 = .ok (.getfield 19, 3) := by decide +kernel
theorem dX8_isProject_7 : decode cX8_isProject 7 = .ok (.iconst 0, 1) := by decide +kernel
theorem dX8_isProject_8 : decode cX8_isProject 8 = .ok (.iaload, 1) := by decide +kernel
theorem dX8_isProject_9 : decode cX8_isProject 9 = .ok (.iconst 1, 1) := by decide +kernel
theorem dX8_isProject_10 : decode cX8_isProject 10 = .ok (.isub, 1) := by decide +kernel
theorem dX8_isProject_11 : decode cX8_isProject 11 = .ok (.i2l, 1) := by decide +kernel
theorem dX8_isProject_12 : decode cX8_isProject 12 = .ok (.invokestatic 72, 3) := by decide +kernel
theorem dX8_isProject_15 : decode cX8_isProject 15 = .ok (.ireturn, 1) := by decide +kernel
theorem dX8_isGiver_0 : decode cX8_isGiver 0 = .ok (.aload_n 0, 1) := by decide +kernel
theorem dX8_isGiver_1 : decode cX8_isGiver 1 = .ok (.invokevirtual 174, 3) := by decide +kernel
theorem dX8_isGiver_4 : decode cX8_isGiver 4 = .ok (.ifCond .eq 19, 3) := by decide +kernel
theorem dX8_isGiver_7 : decode cX8_isGiver 7 = .ok (.iload_n 1, 1) := by decide +kernel
theorem dX8_isGiver_8 : decode cX8_isGiver 8 = .ok (.i2l, 1) := by decide +kernel
theorem dX8_isGiver_9 : decode cX8_isGiver 9 = .ok (.lconst 0, 1) := by decide +kernel
theorem dX8_isGiver_10 : decode cX8_isGiver 10 = .ok (.ldc2_w 177, 3) := by decide +kernel
theorem dX8_isGiver_13 : decode cX8_isGiver 13 = .ok (.invokestatic 72, 3) := by decide +kernel
theorem dX8_isGiver_16 : decode cX8_isGiver 16 = .ok (.ifCond .eq 7, 3) := by decide +kernel
theorem dX8_isGiver_19 : decode cX8_isGiver 19 = .ok (.iconst 1, 1) := by decide +kernel
theorem dX8_isGiver_20 : decode cX8_isGiver 20 = .ok (.goto 4, 3) := by decide +kernel
theorem dX8_isGiver_23 : decode cX8_isGiver 23 = .ok (.iconst 0, 1) := by decide +kernel
theorem dX8_isGiver_24 : decode cX8_isGiver 24 = .ok (.ireturn, 1) := by decide +kernel
theorem dX8_isGiftAt_0 : decode cX8_isGiftAt 0 = .ok (.iload_n 1, 1) := by decide +kernel
theorem dX8_isGiftAt_1 : decode cX8_isGiftAt 1 = .ok (.i2l, 1) := by decide +kernel
theorem dX8_isGiftAt_2 : decode cX8_isGiftAt 2 = .ok (.lconst 0, 1) := by decide +kernel
theorem dX8_isGiftAt_3 : decode cX8_isGiftAt 3 = .ok (.aload_n 0, 1) := by decide +kernel
theorem dX8_isGiftAt_4 : decode cX8_isGiftAt 4 = .ok (.getfield 19, 3) := by decide +kernel
theorem dX8_isGiftAt_7 : decode cX8_isGiftAt 7 = .ok (.iconst 3, 1) := by decide +kernel
theorem dX8_isGiftAt_8 : decode cX8_isGiftAt 8 = .ok (.iaload, 1) := by decide +kernel
theorem dX8_isGiftAt_9 : decode cX8_isGiftAt 9 = .ok (.iconst 1, 1) := by decide +kernel
theorem dX8_isGiftAt_10 : decode cX8_isGiftAt 10 = .ok (.isub, 1) := by decide +kernel
theorem dX8_isGiftAt_11 : decode cX8_isGiftAt 11 = .ok (.i2l, 1) := by decide +kernel
theorem dX8_isGiftAt_12 : decode cX8_isGiftAt 12 = .ok (.invokestatic 72, 3) := by decide +kernel
theorem dX8_isGiftAt_15 : decode cX8_isGiftAt 15 = .ok (.ireturn, 1) := by decide +kernel
theorem dX8_bits_0 : decode cX8_bits 0 = .ok (.iconst 0, 1) := by decide +kernel
theorem dX8_bits_1 : decode cX8_bits 1 = .ok (.istore_n 1, 1) := by decide +kernel
theorem dX8_bits_2 : decode cX8_bits 2 = .ok (.iconst 0, 1) := by decide +kernel
theorem dX8_bits_3 : decode cX8_bits 3 = .ok (.istore_n 2, 1) := by decide +kernel
theorem dX8_bits_4 : decode cX8_bits 4 = .ok (.iload_n 2, 1) := by decide +kernel
theorem dX8_bits_5 : decode cX8_bits 5 = .ok (.bipush 10, 2) := by decide +kernel
theorem dX8_bits_7 : decode cX8_bits 7 = .ok (.if_icmp .ge 17, 3) := by decide +kernel
theorem dX8_bits_10 : decode cX8_bits 10 = .ok (.iload_n 1, 1) := by decide +kernel
theorem dX8_bits_11 : decode cX8_bits 11 = .ok (.iload_n 0, 1) := by decide +kernel
theorem dX8_bits_12 : decode cX8_bits 12 = .ok (.iload_n 2, 1) := by decide +kernel
theorem dX8_bits_13 : decode cX8_bits 13 = .ok (.ishr, 1) := by decide +kernel
theorem dX8_bits_14 : decode cX8_bits 14 = .ok (.iconst 1, 1) := by decide +kernel
theorem dX8_bits_15 : decode cX8_bits 15 = .ok (.iand, 1) := by decide +kernel
theorem dX8_bits_16 : decode cX8_bits 16 = .ok (.iadd, 1) := by decide +kernel
theorem dX8_bits_17 : decode cX8_bits 17 = .ok (.istore_n 1, 1) := by decide +kernel
theorem dX8_bits_18 : decode cX8_bits 18 = .ok (.iinc 2 1, 3) := by decide +kernel
theorem dX8_bits_21 : decode cX8_bits 21 = .ok (.goto (-17), 3) := by decide +kernel
theorem dX8_bits_24 : decode cX8_bits 24 = .ok (.iload_n 1, 1) := by decide +kernel
theorem dX8_bits_25 : decode cX8_bits 25 = .ok (.ireturn, 1) := by decide +kernel
theorem dX8_has_0 : decode cX8_has 0 = .ok (.iload_n 0, 1) := by decide +kernel
theorem dX8_has_1 : decode cX8_has 1 = .ok (.iload_n 1, 1) := by decide +kernel
theorem dX8_has_2 : decode cX8_has 2 = .ok (.ishr, 1) := by decide +kernel
theorem dX8_has_3 : decode cX8_has 3 = .ok (.iconst 1, 1) := by decide +kernel
theorem dX8_has_4 : decode cX8_has 4 = .ok (.iand, 1) := by decide +kernel
theorem dX8_has_5 : decode cX8_has 5 = .ok (.iconst 1, 1) := by decide +kernel
theorem dX8_has_6 : decode cX8_has 6 = .ok (.if_icmp .ne 7, 3) := by decide +kernel
theorem dX8_has_9 : decode cX8_has 9 = .ok (.iconst 1, 1) := by decide +kernel
theorem dX8_has_10 : decode cX8_has 10 = .ok (.goto 4, 3) := by decide +kernel
theorem dX8_has_13 : decode cX8_has 13 = .ok (.iconst 0, 1) := by decide +kernel
theorem dX8_has_14 : decode cX8_has 14 = .ok (.ireturn, 1) := by decide +kernel
theorem dX8_of_0 : decode cX8_of 0 = .ok (.aload_n 0, 1) := by decide +kernel
theorem dX8_of_1 : decode cX8_of 1 = .ok (.bipush 10, 2) := by decide +kernel
theorem dX8_of_3 : decode cX8_of 3 = .ok (.iconst 3, 1) := by decide +kernel
theorem dX8_of_4 : decode cX8_of 4 = .ok (.iload_n 1, 1) := by decide +kernel
theorem dX8_of_5 : decode cX8_of 5 = .ok (.imul, 1) := by decide +kernel
theorem dX8_of_6 : decode cX8_of 6 = .ok (.iadd, 1) := by decide +kernel
theorem dX8_of_7 : decode cX8_of 7 = .ok (.iload_n 2, 1) := by decide +kernel
theorem dX8_of_8 : decode cX8_of 8 = .ok (.iadd, 1) := by decide +kernel
theorem dX8_of_9 : decode cX8_of 9 = .ok (.iaload, 1) := by decide +kernel
theorem dX8_of_10 : decode cX8_of 10 = .ok (.ireturn, 1) := by decide +kernel
theorem dX8_put_0 : decode cX8_put 0 = .ok (.aload_n 0, 1) := by decide +kernel
theorem dX8_put_1 : decode cX8_put 1 = .ok (.aload_n 0, 1) := by decide +kernel
theorem dX8_put_2 : decode cX8_put 2 = .ok (.iconst 3, 1) := by decide +kernel
theorem dX8_put_3 : decode cX8_put 3 = .ok (.iaload, 1) := by decide +kernel
theorem dX8_put_4 : decode cX8_put 4 = .ok (.iload_n 1, 1) := by decide +kernel
theorem dX8_put_5 : decode cX8_put 5 = .ok (.iload_n 2, 1) := by decide +kernel
theorem dX8_put_6 : decode cX8_put 6 = .ok (.iload_n 3, 1) := by decide +kernel
theorem dX8_put_7 : decode cX8_put 7 = .ok (.invokestatic 179, 3) := by decide +kernel
theorem dX8_put_10 : decode cX8_put 10 = .ok (.aload_n 0, 1) := by decide +kernel
theorem dX8_put_11 : decode cX8_put 11 = .ok (.iconst 3, 1) := by decide +kernel
theorem dX8_put_12 : decode cX8_put 12 = .ok (.dup2, 1) := by decide +kernel
theorem dX8_put_13 : decode cX8_put 13 = .ok (.iaload, 1) := by decide +kernel
theorem dX8_put_14 : decode cX8_put 14 = .ok (.iconst 1, 1) := by decide +kernel
theorem dX8_put_15 : decode cX8_put 15 = .ok (.iadd, 1) := by decide +kernel
theorem dX8_put_16 : decode cX8_put 16 = .ok (.iastore, 1) := by decide +kernel
theorem dX8_put_17 : decode cX8_put 17 = .ok (.return_, 1) := by decide +kernel
theorem dX8_rootOf_0 : decode cX8_rootOf 0 = .ok (.iconst 0, 1) := by decide +kernel
theorem dX8_rootOf_1 : decode cX8_rootOf 1 = .ok (.istore_n 1, 1) := by decide +kernel
theorem dX8_rootOf_2 : decode cX8_rootOf 2 = .ok (.sipush 4450, 3) := by decide +kernel
theorem dX8_rootOf_5 : decode cX8_rootOf 5 = .ok (.istore_n 2, 1) := by decide +kernel
theorem dX8_rootOf_6 : decode cX8_rootOf 6 = .ok (.iload_n 2, 1) := by decide +kernel
theorem dX8_rootOf_7 : decode cX8_rootOf 7 = .ok (.iload_n 1, 1) := by decide +kernel
theorem dX8_rootOf_8 : decode cX8_rootOf 8 = .ok (.isub, 1) := by decide +kernel
theorem dX8_rootOf_9 : decode cX8_rootOf 9 = .ok (.iconst 1, 1) := by decide +kernel
theorem dX8_rootOf_10 : decode cX8_rootOf 10 = .ok (.if_icmp .le 30, 3) := by decide +kernel
theorem dX8_rootOf_13 : decode cX8_rootOf 13 = .ok (.iload_n 1, 1) := by decide +kernel
theorem dX8_rootOf_14 : decode cX8_rootOf 14 = .ok (.iload_n 2, 1) := by decide +kernel
theorem dX8_rootOf_15 : decode cX8_rootOf 15 = .ok (.iadd, 1) := by decide +kernel
theorem dX8_rootOf_16 : decode cX8_rootOf 16 = .ok (.iconst 2, 1) := by decide +kernel
theorem dX8_rootOf_17 : decode cX8_rootOf 17 = .ok (.idiv, 1) := by decide +kernel
theorem dX8_rootOf_18 : decode cX8_rootOf 18 = .ok (.istore_n 3, 1) := by decide +kernel
theorem dX8_rootOf_19 : decode cX8_rootOf 19 = .ok (.iload_n 3, 1) := by decide +kernel
theorem dX8_rootOf_20 : decode cX8_rootOf 20 = .ok (.iload_n 3, 1) := by decide +kernel
theorem dX8_rootOf_21 : decode cX8_rootOf 21 = .ok (.imul, 1) := by decide +kernel
theorem dX8_rootOf_22 : decode cX8_rootOf 22 = .ok (.sipush 10000, 3) := by decide +kernel
theorem dX8_rootOf_25 : decode cX8_rootOf 25 = .ok (.iload_n 0, 1) := by decide +kernel
theorem dX8_rootOf_26 : decode cX8_rootOf 26 = .ok (.imul, 1) := by decide +kernel
theorem dX8_rootOf_27 : decode cX8_rootOf 27 = .ok (.if_icmp .gt 8, 3) := by decide +kernel
theorem dX8_rootOf_30 : decode cX8_rootOf 30 = .ok (.iload_n 3, 1) := by decide +kernel
theorem dX8_rootOf_31 : decode cX8_rootOf 31 = .ok (.istore_n 1, 1) := by decide +kernel
theorem dX8_rootOf_32 : decode cX8_rootOf 32 = .ok (.goto 5, 3) := by decide +kernel
theorem dX8_rootOf_35 : decode cX8_rootOf 35 = .ok (.iload_n 3, 1) := by decide +kernel
theorem dX8_rootOf_36 : decode cX8_rootOf 36 = .ok (.istore_n 2, 1) := by decide +kernel
theorem dX8_rootOf_37 : decode cX8_rootOf 37 = .ok (.goto (-31), 3) := by decide +kernel
theorem dX8_rootOf_40 : decode cX8_rootOf 40 = .ok (.iload_n 1, 1) := by decide +kernel
theorem dX8_rootOf_41 : decode cX8_rootOf 41 = .ok (.ireturn, 1) := by decide +kernel
theorem dX8_lookAt_0 : decode cX8_lookAt 0 = .ok (.iconst 0, 1) := by decide +kernel
theorem dX8_lookAt_1 : decode cX8_lookAt 1 = .ok (.istore_n 2, 1) := by decide +kernel
theorem dX8_lookAt_2 : decode cX8_lookAt 2 = .ok (.iload_n 2, 1) := by decide +kernel
theorem dX8_lookAt_3 : decode cX8_lookAt 3 = .ok (.bipush 60, 2) := by decide +kernel
theorem dX8_lookAt_5 : decode cX8_lookAt 5 = .ok (.if_icmp .ge 16, 3) := by decide +kernel
theorem dX8_lookAt_8 : decode cX8_lookAt 8 = .ok (.aload_n 0, 1) := by decide +kernel
theorem dX8_lookAt_9 : decode cX8_lookAt 9 = .ok (.getfield 34, 3) := by decide +kernel
theorem dX8_lookAt_12 : decode cX8_lookAt 12 = .ok (.iload_n 2, 1) := by decide +kernel
theorem dX8_lookAt_13 : decode cX8_lookAt 13 = .ok (.iconst 0, 1) := by decide +kernel
theorem dX8_lookAt_14 : decode cX8_lookAt 14 = .ok (.iastore, 1) := by decide +kernel
theorem dX8_lookAt_15 : decode cX8_lookAt 15 = .ok (.iinc 2 1, 3) := by decide +kernel
theorem dX8_lookAt_18 : decode cX8_lookAt 18 = .ok (.goto (-16), 3) := by decide +kernel
theorem dX8_lookAt_21 : decode cX8_lookAt 21 = .ok (.iconst 0, 1) := by decide +kernel
theorem dX8_lookAt_22 : decode cX8_lookAt 22 = .ok (.istore_n 2, 1) := by decide +kernel
theorem dX8_lookAt_23 : decode cX8_lookAt 23 = .ok (.iload_n 2, 1) := by decide +kernel
theorem dX8_lookAt_24 : decode cX8_lookAt 24 = .ok (.aload_n 1, 1) := by decide +kernel
theorem dX8_lookAt_25 : decode cX8_lookAt 25 = .ok (.iconst 3, 1) := by decide +kernel
theorem dX8_lookAt_26 : decode cX8_lookAt 26 = .ok (.iaload, 1) := by decide +kernel
theorem dX8_lookAt_27 : decode cX8_lookAt 27 = .ok (.if_icmp .ge 44, 3) := by decide +kernel
theorem dX8_lookAt_30 : decode cX8_lookAt 30 = .ok (.aload_n 0, 1) := by decide +kernel
theorem dX8_lookAt_31 : decode cX8_lookAt 31 = .ok (.getfield 34, 3) := by decide +kernel
theorem dX8_lookAt_34 : decode cX8_lookAt 34 = .ok (.bipush 6, 2) := by decide +kernel
theorem dX8_lookAt_36 : decode cX8_lookAt 36 = .ok (.aload_n 1, 1) := by decide +kernel
theorem dX8_lookAt_37 : decode cX8_lookAt 37 = .ok (.bipush 70, 2) := by decide +kernel
theorem dX8_lookAt_39 : decode cX8_lookAt 39 = .ok (.aload_n 1, 1) := by decide +kernel
theorem dX8_lookAt_40 : decode cX8_lookAt 40 = .ok (.iload_n 2, 1) := by decide +kernel
theorem dX8_lookAt_41 : decode cX8_lookAt 41 = .ok (.iconst 0, 1) := by decide +kernel
theorem dX8_lookAt_42 : decode cX8_lookAt 42 = .ok (.invokestatic 183, 3) := by decide +kernel
theorem dX8_lookAt_45 : decode cX8_lookAt 45 = .ok (.iadd, 1) := by decide +kernel
theorem dX8_lookAt_46 : decode cX8_lookAt 46 = .ok (.iaload, 1) := by decide +kernel
theorem dX8_lookAt_47 : decode cX8_lookAt 47 = .ok (.imul, 1) := by decide +kernel
theorem dX8_lookAt_48 : decode cX8_lookAt 48 = .ok (.aload_n 1, 1) := by decide +kernel
theorem dX8_lookAt_49 : decode cX8_lookAt 49 = .ok (.iload_n 2, 1) := by decide +kernel
theorem dX8_lookAt_50 : decode cX8_lookAt 50 = .ok (.iconst 1, 1) := by decide +kernel
theorem dX8_lookAt_51 : decode cX8_lookAt 51 = .ok (.invokestatic 183, 3) := by decide +kernel
theorem dX8_lookAt_54 : decode cX8_lookAt 54 = .ok (.iadd, 1) := by decide +kernel
theorem dX8_lookAt_55 : decode cX8_lookAt 55 = .ok (.dup2, 1) := by decide +kernel
theorem dX8_lookAt_56 : decode cX8_lookAt 56 = .ok (.iaload, 1) := by decide +kernel
theorem dX8_lookAt_57 : decode cX8_lookAt 57 = .ok (.aload_n 1, 1) := by decide +kernel
theorem dX8_lookAt_58 : decode cX8_lookAt 58 = .ok (.iload_n 2, 1) := by decide +kernel
theorem dX8_lookAt_59 : decode cX8_lookAt 59 = .ok (.iconst 2, 1) := by decide +kernel
theorem dX8_lookAt_60 : decode cX8_lookAt 60 = .ok (.invokestatic 183, 3) := by decide +kernel
theorem dX8_lookAt_63 : decode cX8_lookAt 63 = .ok (.iadd, 1) := by decide +kernel
theorem dX8_lookAt_64 : decode cX8_lookAt 64 = .ok (.iastore, 1) := by decide +kernel
theorem dX8_lookAt_65 : decode cX8_lookAt 65 = .ok (.iinc 2 1, 3) := by decide +kernel
theorem dX8_lookAt_68 : decode cX8_lookAt 68 = .ok (.goto (-45), 3) := by decide +kernel
theorem dX8_lookAt_71 : decode cX8_lookAt 71 = .ok (.iconst 0, 1) := by decide +kernel
theorem dX8_lookAt_72 : decode cX8_lookAt 72 = .ok (.istore_n 2, 1) := by decide +kernel
theorem dX8_lookAt_73 : decode cX8_lookAt 73 = .ok (.iload_n 2, 1) := by decide +kernel
theorem dX8_lookAt_74 : decode cX8_lookAt 74 = .ok (.bipush 60, 2) := by decide +kernel
theorem dX8_lookAt_76 : decode cX8_lookAt 76 = .ok (.if_icmp .ge 37, 3) := by decide +kernel
theorem dX8_lookAt_79 : decode cX8_lookAt 79 = .ok (.aload_n 0, 1) := by decide +kernel
theorem dX8_lookAt_80 : decode cX8_lookAt 80 = .ok (.getfield 37, 3) := by decide +kernel
theorem dX8_lookAt_83 : decode cX8_lookAt 83 = .ok (.iload_n 2, 1) := by decide +kernel
theorem dX8_lookAt_84 : decode cX8_lookAt 84 = .ok (.aload_n 0, 1) := by decide +kernel
theorem dX8_lookAt_85 : decode cX8_lookAt 85 = .ok (.getfield 34, 3) := by decide +kernel
theorem dX8_lookAt_88 : decode cX8_lookAt 88 = .ok (.iload_n 2, 1) := by decide +kernel
theorem dX8_lookAt_89 : decode cX8_lookAt 89 = .ok (.iaload, 1) := by decide +kernel
theorem dX8_lookAt_90 : decode cX8_lookAt 90 = .ok (.ifCond .ne 7, 3) := by decide +kernel
theorem dX8_lookAt_93 : decode cX8_lookAt 93 = .ok (.iconst 0, 1) := by decide +kernel
theorem dX8_lookAt_94 : decode cX8_lookAt 94 = .ok (.goto 12, 3) := by decide +kernel
theorem dX8_lookAt_97 : decode cX8_lookAt 97 = .ok (.aload_n 0, 1) := by decide +kernel
theorem dX8_lookAt_98 : decode cX8_lookAt 98 = .ok (.getfield 34, 3) := by decide +kernel
theorem dX8_lookAt_101 : decode cX8_lookAt 101 = .ok (.iload_n 2, 1) := by decide +kernel
theorem dX8_lookAt_102 : decode cX8_lookAt 102 = .ok (.iaload, 1) := by decide +kernel
theorem dX8_lookAt_103 : decode cX8_lookAt 103 = .ok (.invokestatic 187, 3) := by decide +kernel
theorem dX8_lookAt_106 : decode cX8_lookAt 106 = .ok (.iastore, 1) := by decide +kernel
theorem dX8_lookAt_107 : decode cX8_lookAt 107 = .ok (.iinc 2 1, 3) := by decide +kernel
theorem dX8_lookAt_110 : decode cX8_lookAt 110 = .ok (.goto (-37), 3) := by decide +kernel
theorem dX8_lookAt_113 : decode cX8_lookAt 113 = .ok (.iconst 0, 1) := by decide +kernel
theorem dX8_lookAt_114 : decode cX8_lookAt 114 = .ok (.istore_n 2, 1) := by decide +kernel
theorem dX8_lookAt_115 : decode cX8_lookAt 115 = .ok (.iload_n 2, 1) := by decide +kernel
theorem dX8_lookAt_116 : decode cX8_lookAt 116 = .ok (.bipush 10, 2) := by decide +kernel
theorem dX8_lookAt_118 : decode cX8_lookAt 118 = .ok (.if_icmp .ge 89, 3) := by decide +kernel
theorem dX8_lookAt_121 : decode cX8_lookAt 121 = .ok (.iconst 0, 1) := by decide +kernel
theorem dX8_lookAt_122 : decode cX8_lookAt 122 = .ok (.istore_n 3, 1) := by decide +kernel
theorem dX8_lookAt_123 : decode cX8_lookAt 123 = .ok (.iload_n 3, 1) := by decide +kernel
theorem dX8_lookAt_124 : decode cX8_lookAt 124 = .ok (.bipush 10, 2) := by decide +kernel
theorem dX8_lookAt_126 : decode cX8_lookAt 126 = .ok (.if_icmp .ge 75, 3) := by decide +kernel
theorem dX8_lookAt_129 : decode cX8_lookAt 129 = .ok (.iconst 0, 1) := by decide +kernel
theorem dX8_lookAt_130 : decode cX8_lookAt 130 = .ok (.istore 4, 2) := by decide +kernel
theorem dX8_lookAt_132 : decode cX8_lookAt 132 = .ok (.iconst 0, 1) := by decide +kernel
theorem dX8_lookAt_133 : decode cX8_lookAt 133 = .ok (.istore 5, 2) := by decide +kernel
theorem dX8_lookAt_135 : decode cX8_lookAt 135 = .ok (.iload 5, 2) := by decide +kernel
theorem dX8_lookAt_137 : decode cX8_lookAt 137 = .ok (.bipush 6, 2) := by decide +kernel
theorem dX8_lookAt_139 : decode cX8_lookAt 139 = .ok (.if_icmp .ge 39, 3) := by decide +kernel
theorem dX8_lookAt_142 : decode cX8_lookAt 142 = .ok (.iload 4, 2) := by decide +kernel
theorem dX8_lookAt_144 : decode cX8_lookAt 144 = .ok (.aload_n 0, 1) := by decide +kernel
theorem dX8_lookAt_145 : decode cX8_lookAt 145 = .ok (.getfield 37, 3) := by decide +kernel
theorem dX8_lookAt_148 : decode cX8_lookAt 148 = .ok (.bipush 6, 2) := by decide +kernel
theorem dX8_lookAt_150 : decode cX8_lookAt 150 = .ok (.iload_n 2, 1) := by decide +kernel
theorem dX8_lookAt_151 : decode cX8_lookAt 151 = .ok (.imul, 1) := by decide +kernel
theorem dX8_lookAt_152 : decode cX8_lookAt 152 = .ok (.iload 5, 2) := by decide +kernel
theorem dX8_lookAt_154 : decode cX8_lookAt 154 = .ok (.iadd, 1) := by decide +kernel
theorem dX8_lookAt_155 : decode cX8_lookAt 155 = .ok (.iaload, 1) := by decide +kernel
theorem dX8_lookAt_156 : decode cX8_lookAt 156 = .ok (.aload_n 0, 1) := by decide +kernel
theorem dX8_lookAt_157 : decode cX8_lookAt 157 = .ok (.getfield 37, 3) := by decide +kernel
theorem dX8_lookAt_160 : decode cX8_lookAt 160 = .ok (.bipush 6, 2) := by decide +kernel
theorem dX8_lookAt_162 : decode cX8_lookAt 162 = .ok (.iload_n 3, 1) := by decide +kernel
theorem dX8_lookAt_163 : decode cX8_lookAt 163 = .ok (.imul, 1) := by decide +kernel
theorem dX8_lookAt_164 : decode cX8_lookAt 164 = .ok (.iload 5, 2) := by decide +kernel
theorem dX8_lookAt_166 : decode cX8_lookAt 166 = .ok (.iadd, 1) := by decide +kernel
theorem dX8_lookAt_167 : decode cX8_lookAt 167 = .ok (.iaload, 1) := by decide +kernel
theorem dX8_lookAt_168 : decode cX8_lookAt 168 = .ok (.imul, 1) := by decide +kernel
theorem dX8_lookAt_169 : decode cX8_lookAt 169 = .ok (.iadd, 1) := by decide +kernel
theorem dX8_lookAt_170 : decode cX8_lookAt 170 = .ok (.istore 4, 2) := by decide +kernel
theorem dX8_lookAt_172 : decode cX8_lookAt 172 = .ok (.iinc 5 1, 3) := by decide +kernel
theorem dX8_lookAt_175 : decode cX8_lookAt 175 = .ok (.goto (-40), 3) := by decide +kernel
theorem dX8_lookAt_178 : decode cX8_lookAt 178 = .ok (.aload_n 0, 1) := by decide +kernel
theorem dX8_lookAt_179 : decode cX8_lookAt 179 = .ok (.getfield 40, 3) := by decide +kernel
theorem dX8_lookAt_182 : decode cX8_lookAt 182 = .ok (.bipush 10, 2) := by decide +kernel
theorem dX8_lookAt_184 : decode cX8_lookAt 184 = .ok (.iload_n 2, 1) := by decide +kernel
theorem dX8_lookAt_185 : decode cX8_lookAt 185 = .ok (.imul, 1) := by decide +kernel
theorem dX8_lookAt_186 : decode cX8_lookAt 186 = .ok (.iload_n 3, 1) := by decide +kernel
theorem dX8_lookAt_187 : decode cX8_lookAt 187 = .ok (.iadd, 1) := by decide +kernel
theorem dX8_lookAt_188 : decode cX8_lookAt 188 = .ok (.iload 4, 2) := by decide +kernel
theorem dX8_lookAt_190 : decode cX8_lookAt 190 = .ok (.sipush 10000, 3) := by decide +kernel
theorem dX8_lookAt_193 : decode cX8_lookAt 193 = .ok (.idiv, 1) := by decide +kernel
theorem dX8_lookAt_194 : decode cX8_lookAt 194 = .ok (.iastore, 1) := by decide +kernel
theorem dX8_lookAt_195 : decode cX8_lookAt 195 = .ok (.iinc 3 1, 3) := by decide +kernel
theorem dX8_lookAt_198 : decode cX8_lookAt 198 = .ok (.goto (-75), 3) := by decide +kernel
theorem dX8_lookAt_201 : decode cX8_lookAt 201 = .ok (.iinc 2 1, 3) := by decide +kernel
theorem dX8_lookAt_204 : decode cX8_lookAt 204 = .ok (.goto (-89), 3) := by decide +kernel
theorem dX8_lookAt_207 : decode cX8_lookAt 207 = .ok (.return_, 1) := by decide +kernel
theorem dX8_termOf_0 : decode cX8_termOf 0 = .ok (.ldc2_w 80, 3) := by decide +kernel
theorem dX8_termOf_3 : decode cX8_termOf 3 = .ok (.aload_n 0, 1) := by decide +kernel
theorem dX8_termOf_4 : decode cX8_termOf 4 = .ok (.getfield 37, 3) := by decide +kernel
theorem dX8_termOf_7 : decode cX8_termOf 7 = .ok (.bipush 6, 2) := by decide +kernel
theorem dX8_termOf_9 : decode cX8_termOf 9 = .ok (.iload_n 2, 1) := by decide +kernel
theorem dX8_termOf_10 : decode cX8_termOf 10 = .ok (.imul, 1) := by decide +kernel
theorem dX8_termOf_11 : decode cX8_termOf 11 = .ok (.iload 4, 2) := by decide +kernel
theorem dX8_termOf_13 : decode cX8_termOf 13 = .ok (.iadd, 1) := by decide +kernel
theorem dX8_termOf_14 : decode cX8_termOf 14 = .ok (.iaload, 1) := by decide +kernel
theorem dX8_termOf_15 : decode cX8_termOf 15 = .ok (.i2l, 1) := by decide +kernel
theorem dX8_termOf_16 : decode cX8_termOf 16 = .ok (.lmul, 1) := by decide +kernel
theorem dX8_termOf_17 : decode cX8_termOf 17 = .ok (.aload_n 0, 1) := by decide +kernel
theorem dX8_termOf_18 : decode cX8_termOf 18 = .ok (.getfield 37, 3) := by decide +kernel
theorem dX8_termOf_21 : decode cX8_termOf 21 = .ok (.bipush 6, 2) := by decide +kernel
theorem dX8_termOf_23 : decode cX8_termOf 23 = .ok (.iload_n 3, 1) := by decide +kernel
theorem dX8_termOf_24 : decode cX8_termOf 24 = .ok (.imul, 1) := by decide +kernel
theorem dX8_termOf_25 : decode cX8_termOf 25 = .ok (.iload 4, 2) := by decide +kernel
theorem dX8_termOf_27 : decode cX8_termOf 27 = .ok (.iadd, 1) := by decide +kernel
theorem dX8_termOf_28 : decode cX8_termOf 28 = .ok (.iaload, 1) := by decide +kernel
theorem dX8_termOf_29 : decode cX8_termOf 29 = .ok (.i2l, 1) := by decide +kernel
theorem dX8_termOf_30 : decode cX8_termOf 30 = .ok (.lmul, 1) := by decide +kernel
theorem dX8_termOf_31 : decode cX8_termOf 31 = .ok (.aload_n 1, 1) := by decide +kernel
theorem dX8_termOf_32 : decode cX8_termOf 32 = .ok (.iconst 2, 1) := by decide +kernel
theorem dX8_termOf_33 : decode cX8_termOf 33 = .ok (.iaload, 1) := by decide +kernel
theorem dX8_termOf_34 : decode cX8_termOf 34 = .ok (.i2l, 1) := by decide +kernel
theorem dX8_termOf_35 : decode cX8_termOf 35 = .ok (.lmul, 1) := by decide +kernel
theorem dX8_termOf_36 : decode cX8_termOf 36 = .ok (.lstore 5, 2) := by decide +kernel
theorem dX8_termOf_38 : decode cX8_termOf 38 = .ok (.lload 5, 2) := by decide +kernel
theorem dX8_termOf_40 : decode cX8_termOf 40 = .ok (.ldc2_w 190, 3) := by decide +kernel
theorem dX8_termOf_43 : decode cX8_termOf 43 = .ok (.aload_n 1, 1) := by decide +kernel
theorem dX8_termOf_44 : decode cX8_termOf 44 = .ok (.iconst 2, 1) := by decide +kernel
theorem dX8_termOf_45 : decode cX8_termOf 45 = .ok (.iaload, 1) := by decide +kernel
theorem dX8_termOf_46 : decode cX8_termOf 46 = .ok (.aload_n 0, 1) := by decide +kernel
theorem dX8_termOf_47 : decode cX8_termOf 47 = .ok (.getfield 40, 3) := by decide +kernel
theorem dX8_termOf_50 : decode cX8_termOf 50 = .ok (.bipush 10, 2) := by decide +kernel
theorem dX8_termOf_52 : decode cX8_termOf 52 = .ok (.iload_n 2, 1) := by decide +kernel
theorem dX8_termOf_53 : decode cX8_termOf 53 = .ok (.imul, 1) := by decide +kernel
theorem dX8_termOf_54 : decode cX8_termOf 54 = .ok (.iload_n 3, 1) := by decide +kernel
theorem dX8_termOf_55 : decode cX8_termOf 55 = .ok (.iadd, 1) := by decide +kernel
theorem dX8_termOf_56 : decode cX8_termOf 56 = .ok (.iaload, 1) := by decide +kernel
theorem dX8_termOf_57 : decode cX8_termOf 57 = .ok (.iadd, 1) := by decide +kernel
theorem dX8_termOf_58 : decode cX8_termOf 58 = .ok (.i2l, 1) := by decide +kernel
theorem dX8_termOf_59 : decode cX8_termOf 59 = .ok (.lmul, 1) := by decide +kernel
theorem dX8_termOf_60 : decode cX8_termOf 60 = .ok (.ldiv, 1) := by decide +kernel
theorem dX8_termOf_61 : decode cX8_termOf 61 = .ok (.l2i, 1) := by decide +kernel
theorem dX8_termOf_62 : decode cX8_termOf 62 = .ok (.ireturn, 1) := by decide +kernel
theorem dX8_sumsOf_0 : decode cX8_sumsOf 0 = .ok (.iconst 0, 1) := by decide +kernel
theorem dX8_sumsOf_1 : decode cX8_sumsOf 1 = .ok (.istore_n 2, 1) := by decide +kernel
theorem dX8_sumsOf_2 : decode cX8_sumsOf 2 = .ok (.iconst 0, 1) := by decide +kernel
theorem dX8_sumsOf_3 : decode cX8_sumsOf 3 = .ok (.istore_n 3, 1) := by decide +kernel
theorem dX8_sumsOf_4 : decode cX8_sumsOf 4 = .ok (.iload_n 3, 1) := by decide +kernel
theorem dX8_sumsOf_5 : decode cX8_sumsOf 5 = .ok (.bipush 10, 2) := by decide +kernel
theorem dX8_sumsOf_7 : decode cX8_sumsOf 7 = .ok (.if_icmp .ge 23, 3) := by decide +kernel
theorem dX8_sumsOf_10 : decode cX8_sumsOf 10 = .ok (.iload_n 2, 1) := by decide +kernel
theorem dX8_sumsOf_11 : decode cX8_sumsOf 11 = .ok (.aload_n 0, 1) := by decide +kernel
theorem dX8_sumsOf_12 : decode cX8_sumsOf 12 = .ok (.getfield 34, 3) := by decide +kernel
theorem dX8_sumsOf_15 : decode cX8_sumsOf 15 = .ok (.bipush 6, 2) := by decide +kernel
theorem dX8_sumsOf_17 : decode cX8_sumsOf 17 = .ok (.iload_n 3, 1) := by decide +kernel
theorem dX8_sumsOf_18 : decode cX8_sumsOf 18 = .ok (.imul, 1) := by decide +kernel
theorem dX8_sumsOf_19 : decode cX8_sumsOf 19 = .ok (.iload_n 1, 1) := by decide +kernel
theorem dX8_sumsOf_20 : decode cX8_sumsOf 20 = .ok (.iadd, 1) := by decide +kernel
theorem dX8_sumsOf_21 : decode cX8_sumsOf 21 = .ok (.iaload, 1) := by decide +kernel
theorem dX8_sumsOf_22 : decode cX8_sumsOf 22 = .ok (.iadd, 1) := by decide +kernel
theorem dX8_sumsOf_23 : decode cX8_sumsOf 23 = .ok (.istore_n 2, 1) := by decide +kernel
theorem dX8_sumsOf_24 : decode cX8_sumsOf 24 = .ok (.iinc 3 1, 3) := by decide +kernel
theorem dX8_sumsOf_27 : decode cX8_sumsOf 27 = .ok (.goto (-23), 3) := by decide +kernel
theorem dX8_sumsOf_30 : decode cX8_sumsOf 30 = .ok (.iload_n 2, 1) := by decide +kernel
theorem dX8_sumsOf_31 : decode cX8_sumsOf 31 = .ok (.ireturn, 1) := by decide +kernel
theorem dX8_giversOf_0 : decode cX8_giversOf 0 = .ok (.iconst 0, 1) := by decide +kernel
theorem dX8_giversOf_1 : decode cX8_giversOf 1 = .ok (.istore_n 2, 1) := by decide +kernel
theorem dX8_giversOf_2 : decode cX8_giversOf 2 = .ok (.iconst 0, 1) := by decide +kernel
theorem dX8_giversOf_3 : decode cX8_giversOf 3 = .ok (.istore_n 3, 1) := by decide +kernel
theorem dX8_giversOf_4 : decode cX8_giversOf 4 = .ok (.iload_n 3, 1) := by decide +kernel
theorem dX8_giversOf_5 : decode cX8_giversOf 5 = .ok (.bipush 10, 2) := by decide +kernel
theorem dX8_giversOf_7 : decode cX8_giversOf 7 = .ok (.if_icmp .ge 33, 3) := by decide +kernel
theorem dX8_giversOf_10 : decode cX8_giversOf 10 = .ok (.iload_n 2, 1) := by decide +kernel
theorem dX8_giversOf_11 : decode cX8_giversOf 11 = .ok (.aload_n 0, 1) := by decide +kernel
theorem dX8_giversOf_12 : decode cX8_giversOf 12 = .ok (.getfield 34, 3) := by decide +kernel
theorem dX8_giversOf_15 : decode cX8_giversOf 15 = .ok (.bipush 6, 2) := by decide +kernel
theorem dX8_giversOf_17 : decode cX8_giversOf 17 = .ok (.iload_n 3, 1) := by decide +kernel
theorem dX8_giversOf_18 : decode cX8_giversOf 18 = .ok (.imul, 1) := by decide +kernel
theorem dX8_giversOf_19 : decode cX8_giversOf 19 = .ok (.iload_n 1, 1) := by decide +kernel
theorem dX8_giversOf_20 : decode cX8_giversOf 20 = .ok (.iadd, 1) := by decide +kernel
theorem dX8_giversOf_21 : decode cX8_giversOf 21 = .ok (.iaload, 1) := by decide +kernel
theorem dX8_giversOf_22 : decode cX8_giversOf 22 = .ok (.ifCond .le 9, 3) := by decide +kernel
theorem dX8_giversOf_25 : decode cX8_giversOf 25 = .ok (.iconst 1, 1) := by decide +kernel
theorem dX8_giversOf_26 : decode cX8_giversOf 26 = .ok (.iload_n 3, 1) := by decide +kernel
theorem dX8_giversOf_27 : decode cX8_giversOf 27 = .ok (.ishl, 1) := by decide +kernel
theorem dX8_giversOf_28 : decode cX8_giversOf 28 = .ok (.goto 4, 3) := by decide +kernel
theorem dX8_giversOf_31 : decode cX8_giversOf 31 = .ok (.iconst 0, 1) := by decide +kernel
theorem dX8_giversOf_32 : decode cX8_giversOf 32 = .ok (.ior, 1) := by decide +kernel
theorem dX8_giversOf_33 : decode cX8_giversOf 33 = .ok (.istore_n 2, 1) := by decide +kernel
theorem dX8_giversOf_34 : decode cX8_giversOf 34 = .ok (.iinc 3 1, 3) := by decide +kernel
theorem dX8_giversOf_37 : decode cX8_giversOf 37 = .ok (.goto (-33), 3) := by decide +kernel
theorem dX8_giversOf_40 : decode cX8_giversOf 40 = .ok (.iload_n 2, 1) := by decide +kernel
theorem dX8_giversOf_41 : decode cX8_giversOf 41 = .ok (.ireturn, 1) := by decide +kernel
theorem dX8_openClaim_0 : decode cX8_openClaim 0 = .ok (.iconst 0, 1) := by decide +kernel
theorem dX8_openClaim_1 : decode cX8_openClaim 1 = .ok (.istore_n 3, 1) := by decide +kernel
theorem dX8_openClaim_2 : decode cX8_openClaim 2 = .ok (.iconst 0, 1) := by decide +kernel
theorem dX8_openClaim_3 : decode cX8_openClaim 3 = .ok (.istore 4, 2) := by decide +kernel
theorem dX8_openClaim_5 : decode cX8_openClaim 5 = .ok (.iload 4, 2) := by decide +kernel
theorem dX8_openClaim_7 : decode cX8_openClaim 7 = .ok (.bipush 10, 2) := by decide +kernel
theorem dX8_openClaim_9 : decode cX8_openClaim 9 = .ok (.if_icmp .ge 75, 3) := by decide +kernel
theorem dX8_openClaim_12 : decode cX8_openClaim 12 = .ok (.iload 4, 2) := by decide +kernel
theorem dX8_openClaim_14 : decode cX8_openClaim 14 = .ok (.iconst 1, 1) := by decide +kernel
theorem dX8_openClaim_15 : decode cX8_openClaim 15 = .ok (.iadd, 1) := by decide +kernel
theorem dX8_openClaim_16 : decode cX8_openClaim 16 = .ok (.istore 5, 2) := by decide +kernel
theorem dX8_openClaim_18 : decode cX8_openClaim 18 = .ok (.iload 5, 2) := by decide +kernel
theorem dX8_openClaim_20 : decode cX8_openClaim 20 = .ok (.bipush 10, 2) := by decide +kernel
theorem dX8_openClaim_22 : decode cX8_openClaim 22 = .ok (.if_icmp .ge 56, 3) := by decide +kernel
theorem dX8_openClaim_25 : decode cX8_openClaim 25 = .ok (.iload_n 3, 1) := by decide +kernel
theorem dX8_openClaim_26 : decode cX8_openClaim 26 = .ok (.aload_n 0, 1) := by decide +kernel
theorem dX8_openClaim_27 : decode cX8_openClaim 27 = .ok (.getfield 34, 3) := by decide +kernel
theorem dX8_openClaim_30 : decode cX8_openClaim 30 = .ok (.bipush 6, 2) := by decide +kernel
theorem dX8_openClaim_32 : decode cX8_openClaim 32 = .ok (.iload 4, 2) := by decide +kernel
theorem dX8_openClaim_34 : decode cX8_openClaim 34 = .ok (.imul, 1) := by decide +kernel
theorem dX8_openClaim_35 : decode cX8_openClaim 35 = .ok (.iload_n 2, 1) := by decide +kernel
theorem dX8_openClaim_36 : decode cX8_openClaim 36 = .ok (.iadd, 1) := by decide +kernel
theorem dX8_openClaim_37 : decode cX8_openClaim 37 = .ok (.iaload, 1) := by decide +kernel
theorem dX8_openClaim_38 : decode cX8_openClaim 38 = .ok (.ifCond .le 31, 3) := by decide +kernel
theorem dX8_openClaim_41 : decode cX8_openClaim 41 = .ok (.aload_n 0, 1) := by decide +kernel
theorem dX8_openClaim_42 : decode cX8_openClaim 42 = .ok (.getfield 34, 3) := by decide +kernel
theorem dX8_openClaim_45 : decode cX8_openClaim 45 = .ok (.bipush 6, 2) := by decide +kernel
theorem dX8_openClaim_47 : decode cX8_openClaim 47 = .ok (.iload 5, 2) := by decide +kernel
theorem dX8_openClaim_49 : decode cX8_openClaim 49 = .ok (.imul, 1) := by decide +kernel
theorem dX8_openClaim_50 : decode cX8_openClaim 50 = .ok (.iload_n 2, 1) := by decide +kernel
theorem dX8_openClaim_51 : decode cX8_openClaim 51 = .ok (.iadd, 1) := by decide +kernel
theorem dX8_openClaim_52 : decode cX8_openClaim 52 = .ok (.iaload, 1) := by decide +kernel
theorem dX8_openClaim_53 : decode cX8_openClaim 53 = .ok (.ifCond .le 16, 3) := by decide +kernel
theorem dX8_openClaim_56 : decode cX8_openClaim 56 = .ok (.aload_n 0, 1) := by decide +kernel
theorem dX8_openClaim_57 : decode cX8_openClaim 57 = .ok (.aload_n 1, 1) := by decide +kernel
theorem dX8_openClaim_58 : decode cX8_openClaim 58 = .ok (.iload 4, 2) := by decide +kernel
theorem dX8_openClaim_60 : decode cX8_openClaim 60 = .ok (.iload 5, 2) := by decide +kernel
theorem dX8_openClaim_62 : decode cX8_openClaim 62 = .ok (.iload_n 2, 1) := by decide +kernel
theorem dX8_openClaim_63 : decode cX8_openClaim 63 = .ok (.invokevirtual 192, 3) := by decide +kernel
theorem dX8_openClaim_66 : decode cX8_openClaim 66 = .ok (.goto 4, 3) := by decide +kernel
theorem dX8_openClaim_69 : decode cX8_openClaim 69 = .ok (.iconst 0, 1) := by decide +kernel
theorem dX8_openClaim_70 : decode cX8_openClaim 70 = .ok (.iadd, 1) := by decide +kernel
theorem dX8_openClaim_71 : decode cX8_openClaim 71 = .ok (.istore_n 3, 1) := by decide +kernel
theorem dX8_openClaim_72 : decode cX8_openClaim 72 = .ok (.iinc 5 1, 3) := by decide +kernel
theorem dX8_openClaim_75 : decode cX8_openClaim 75 = .ok (.goto (-57), 3) := by decide +kernel
theorem dX8_openClaim_78 : decode cX8_openClaim 78 = .ok (.iinc 4 1, 3) := by decide +kernel
theorem dX8_openClaim_81 : decode cX8_openClaim 81 = .ok (.goto (-76), 3) := by decide +kernel
theorem dX8_openClaim_84 : decode cX8_openClaim 84 = .ok (.iload_n 3, 1) := by decide +kernel
theorem dX8_openClaim_85 : decode cX8_openClaim 85 = .ok (.ireturn, 1) := by decide +kernel
theorem dX8_squareClaim_0 : decode cX8_squareClaim 0 = .ok (.lconst 0, 1) := by decide +kernel
theorem dX8_squareClaim_1 : decode cX8_squareClaim 1 = .ok (.lstore_n 2, 1) := by decide +kernel
theorem dX8_squareClaim_2 : decode cX8_squareClaim 2 = .ok (.iconst 0, 1) := by decide +kernel
theorem dX8_squareClaim_3 : decode cX8_squareClaim 3 = .ok (.istore 4, 2) := by decide +kernel
theorem dX8_squareClaim_5 : decode cX8_squareClaim 5 = .ok (.iload 4, 2) := by decide +kernel
theorem dX8_squareClaim_7 : decode cX8_squareClaim 7 = .ok (.bipush 10, 2) := by decide +kernel
theorem dX8_squareClaim_9 : decode cX8_squareClaim 9 = .ok (.if_icmp .ge 25, 3) := by decide +kernel
theorem dX8_squareClaim_12 : decode cX8_squareClaim 12 = .ok (.lload_n 2, 1) := by decide +kernel
theorem dX8_squareClaim_13 : decode cX8_squareClaim 13 = .ok (.aload_n 0, 1) := by decide +kernel
theorem dX8_squareClaim_14 : decode cX8_squareClaim 14 = .ok (.getfield 37, 3) := by decide +kernel
