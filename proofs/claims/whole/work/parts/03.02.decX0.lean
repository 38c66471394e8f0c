theorem dX0_init_0 : decode cX0_init 0 = .ok (.aload_n 0, 1) := by decide +kernel
theorem dX0_init_1 : decode cX0_init 1 = .ok (.invokespecial 1, 3) := by decide +kernel
theorem dX0_init_4 : decode cX0_init 4 = .ok (.aload_n 0, 1) := by decide +kernel
theorem dX0_init_5 : decode cX0_init 5 = .ok (.bipush 24, 2) := by decide +kernel
theorem dX0_init_7 : decode cX0_init 7 = .ok (.newarray .int, 2) := by decide +kernel
theorem dX0_init_9 : decode cX0_init 9 = .ok (.putfield 9, 3) := by decide +kernel
theorem dX0_init_12 : decode cX0_init 12 = .ok (.aload_n 0, 1) := by decide +kernel
theorem dX0_init_13 : decode cX0_init 13 = .ok (.bipush 24, 2) := by decide +kernel
theorem dX0_init_15 : decode cX0_init 15 = .ok (.newarray .int, 2) := by decide +kernel
theorem dX0_init_17 : decode cX0_init 17 = .ok (.putfield 13, 3) := by decide +kernel
theorem dX0_init_20 : decode cX0_init 20 = .ok (.aload_n 0, 1) := by decide +kernel
theorem dX0_init_21 : decode cX0_init 21 = .ok (.bipush 24, 2) := by decide +kernel
theorem dX0_init_23 : decode cX0_init 23 = .ok (.newarray .int, 2) := by decide +kernel
theorem dX0_init_25 : decode cX0_init 25 = .ok (.putfield 16, 3) := by decide +kernel
theorem dX0_init_28 : decode cX0_init 28 = .ok (.aload_n 0, 1) := by decide +kernel
theorem dX0_init_29 : decode cX0_init 29 = .ok (.bipush 24, 2) := by decide +kernel
theorem dX0_init_31 : decode cX0_init 31 = .ok (.newarray .int, 2) := by decide +kernel
theorem dX0_init_33 : decode cX0_init 33 = .ok (.putfield 19, 3) := by decide +kernel
theorem dX0_init_36 : decode cX0_init 36 = .ok (.aload_n 0, 1) := by decide +kernel
theorem dX0_init_37 : decode cX0_init 37 = .ok (.bipush 24, 2) := by decide +kernel
theorem dX0_init_39 : decode cX0_init 39 = .ok (.newarray .int, 2) := by decide +kernel
theorem dX0_init_41 : decode cX0_init 41 = .ok (.putfield 22, 3) := by decide +kernel
theorem dX0_init_44 : decode cX0_init 44 = .ok (.return_, 1) := by decide +kernel
theorem dX0_keep_0 : decode cX0_keep 0 = .ok (.aload_n 0, 1) := by decide +kernel
theorem dX0_keep_1 : decode cX0_keep 1 = .ok (.getfield 9, 3) := by decide +kernel
theorem dX0_keep_4 : decode cX0_keep 4 = .ok (.aload_n 0, 1) := by decide +kernel
theorem dX0_keep_5 : decode cX0_keep 5 = .ok (.getfield 25, 3) := by decide +kernel
theorem dX0_keep_8 : decode cX0_keep 8 = .ok (.iload_n 1, 1) := by decide +kernel
theorem dX0_keep_9 : decode cX0_keep 9 = .ok (.iastore, 1) := by decide +kernel
theorem dX0_keep_10 : decode cX0_keep 10 = .ok (.aload_n 0, 1) := by decide +kernel
theorem dX0_keep_11 : decode cX0_keep 11 = .ok (.getfield 13, 3) := by decide +kernel
theorem dX0_keep_14 : decode cX0_keep 14 = .ok (.aload_n 0, 1) := by decide +kernel
theorem dX0_keep_15 : decode cX0_keep 15 = .ok (.getfield 25, 3) := by decide +kernel
theorem dX0_keep_18 : decode cX0_keep 18 = .ok (.iload_n 2, 1) := by decide +kernel
theorem dX0_keep_19 : decode cX0_keep 19 = .ok (.iastore, 1) := by decide +kernel
theorem dX0_keep_20 : decode cX0_keep 20 = .ok (.aload_n 0, 1) := by decide +kernel
theorem dX0_keep_21 : decode cX0_keep 21 = .ok (.getfield 16, 3) := by decide +kernel
theorem dX0_keep_24 : decode cX0_keep 24 = .ok (.aload_n 0, 1) := by decide +kernel
theorem dX0_keep_25 : decode cX0_keep 25 = .ok (.getfield 25, 3) := by decide +kernel
theorem dX0_keep_28 : decode cX0_keep 28 = .ok (.iload_n 3, 1) := by decide +kernel
theorem dX0_keep_29 : decode cX0_keep 29 = .ok (.iastore, 1) := by decide +kernel
theorem dX0_keep_30 : decode cX0_keep 30 = .ok (.aload_n 0, 1) := by decide +kernel
theorem dX0_keep_31 : decode cX0_keep 31 = .ok (.getfield 19, 3) := by decide +kernel
theorem dX0_keep_34 : decode cX0_keep 34 = .ok (.aload_n 0, 1) := by decide +kernel
theorem dX0_keep_35 : decode cX0_keep 35 = .ok (.getfield 25, 3) := by decide +kernel
theorem dX0_keep_38 : decode cX0_keep 38 = .ok (.iload 4, 2) := by decide +kernel
theorem dX0_keep_40 : decode cX0_keep 40 = .ok (.iastore, 1) := by decide +kernel
theorem dX0_keep_41 : decode cX0_keep 41 = .ok (.aload_n 0, 1) := by decide +kernel
theorem dX0_keep_42 : decode cX0_keep 42 = .ok (.getfield 22, 3) := by decide +kernel
theorem dX0_keep_45 : decode cX0_keep 45 = .ok (.aload_n 0, 1) := by decide +kernel
theorem dX0_keep_46 : decode cX0_keep 46 = .ok (.getfield 25, 3) := by decide +kernel
theorem dX0_keep_49 : decode cX0_keep 49 = .ok (.iload 5, 2) := by decide +kernel
theorem dX0_keep_51 : decode cX0_keep 51 = .ok (.iastore, 1) := by decide +kernel
theorem dX0_keep_52 : decode cX0_keep 52 = .ok (.aload_n 0, 1) := by decide +kernel
theorem dX0_keep_53 : decode cX0_keep 53 = .ok (.aload_n 0, 1) := by decide +kernel
theorem dX0_keep_54 : decode cX0_keep 54 = .ok (.getfield 25, 3) := by decide +kernel
theorem dX0_keep_57 : decode cX0_keep 57 = .ok (.bipush 23, 2) := by decide +kernel
theorem dX0_keep_59 : decode cX0_keep 59 = .ok (.if_icmp .ne 7, 3) := by decide +kernel
theorem dX0_keep_62 : decode cX0_keep 62 = .ok (.iconst 0, 1) := by decide +kernel
theorem dX0_keep_63 : decode cX0_keep 63 = .ok (.goto 9, 3) := by decide +kernel
theorem dX0_keep_66 : decode cX0_keep 66 = .ok (.aload_n 0, 1) := by decide +kernel
theorem dX0_keep_67 : decode cX0_keep 67 = .ok (.getfield 25, 3) := by decide +kernel
theorem dX0_keep_70 : decode cX0_keep 70 = .ok (.iconst 1, 1) := by decide +kernel
theorem dX0_keep_71 : decode cX0_keep 71 = .ok (.iadd, 1) := by decide +kernel
theorem dX0_keep_72 : decode cX0_keep 72 = .ok (.putfield 25, 3) := by decide +kernel
theorem dX0_keep_75 : decode cX0_keep 75 = .ok (.aload_n 0, 1) := by decide +kernel
theorem dX0_keep_76 : decode cX0_keep 76 = .ok (.aload_n 0, 1) := by decide +kernel
theorem dX0_keep_77 : decode cX0_keep 77 = .ok (.getfield 29, 3) := by decide +kernel
theorem dX0_keep_80 : decode cX0_keep 80 = .ok (.iconst 1, 1) := by decide +kernel
theorem dX0_keep_81 : decode cX0_keep 81 = .ok (.iadd, 1) := by decide +kernel
theorem dX0_keep_82 : decode cX0_keep 82 = .ok (.bipush 24, 2) := by decide +kernel
theorem dX0_keep_84 : decode cX0_keep 84 = .ok (.invokestatic 32, 3) := by decide +kernel
theorem dX0_keep_87 : decode cX0_keep 87 = .ok (.putfield 29, 3) := by decide +kernel
theorem dX0_keep_90 : decode cX0_keep 90 = .ok (.return_, 1) := by decide +kernel
theorem dX0_forgetAll_0 : decode cX0_forgetAll 0 = .ok (.aload_n 0, 1) := by decide +kernel
theorem dX0_forgetAll_1 : decode cX0_forgetAll 1 = .ok (.iconst 0, 1) := by decide +kernel
theorem dX0_forgetAll_2 : decode cX0_forgetAll 2 = .ok (.putfield 29, 3) := by decide +kernel
theorem dX0_forgetAll_5 : decode cX0_forgetAll 5 = .ok (.return_, 1) := by decide +kernel
theorem dX0_revertLatest_0 : decode cX0_revertLatest 0 = .ok (.aload_n 0, 1) := by decide +kernel
theorem dX0_revertLatest_1 : decode cX0_revertLatest 1 = .ok (.aload_n 0, 1) := by decide +kernel
theorem dX0_revertLatest_2 : decode cX0_revertLatest 2 = .ok (.getfield 25, 3) := by decide +kernel
theorem dX0_revertLatest_5 : decode cX0_revertLatest 5 = .ok (.ifCond .ne 8, 3) := by decide +kernel
theorem dX0_revertLatest_8 : decode cX0_revertLatest 8 = .ok (.bipush 23, 2) := by decide +kernel
theorem dX0_revertLatest_10 : decode cX0_revertLatest 10 = .ok (.goto 9, 3) := by decide +kernel
theorem dX0_revertLatest_13 : decode cX0_revertLatest 13 = .ok (.aload_n 0, 1) := by decide +kernel
theorem dX0_revertLatest_14 : decode cX0_revertLatest 14 = .ok (.getfield 25, 3) := by decide +kernel
theorem dX0_revertLatest_17 : decode cX0_revertLatest 17 = .ok (.iconst 1, 1) := by decide +kernel
theorem dX0_revertLatest_18 : decode cX0_revertLatest 18 = .ok (.isub, 1) := by decide +kernel
theorem dX0_revertLatest_19 : decode cX0_revertLatest 19 = .ok (.putfield 25, 3) := by decide +kernel
theorem dX0_revertLatest_22 : decode cX0_revertLatest 22 = .ok (.aload_n 0, 1) := by decide +kernel
theorem dX0_revertLatest_23 : decode cX0_revertLatest 23 = .ok (.dup, 1) := by decide +kernel
theorem dX0_revertLatest_24 : decode cX0_revertLatest 24 = .ok (.getfield 29, 3) := by decide +kernel
theorem dX0_revertLatest_27 : decode cX0_revertLatest 27 = .ok (.iconst 1, 1) := by decide +kernel
theorem dX0_revertLatest_28 : decode cX0_revertLatest 28 = .ok (.isub, 1) := by decide +kernel
theorem dX0_revertLatest_29 : decode cX0_revertLatest 29 = .ok (.putfield 29, 3) := by decide +kernel
theorem dX0_revertLatest_32 : decode cX0_revertLatest 32 = .ok (.aload_n 0, 1) := by decide +kernel
theorem dX0_revertLatest_33 : decode cX0_revertLatest 33 = .ok (.getfield 9, 3) := by decide +kernel
theorem dX0_revertLatest_36 : decode cX0_revertLatest 36 = .ok (.aload_n 0, 1) := by decide +kernel
theorem dX0_revertLatest_37 : decode cX0_revertLatest 37 = .ok (.getfield 25, 3) := by decide +kernel
theorem dX0_revertLatest_40 : decode cX0_revertLatest 40 = .ok (.iaload, 1) := by decide +kernel
theorem dX0_revertLatest_41 : decode cX0_revertLatest 41 = .ok (.tableswitch 129 0 3 #[31, 44, 87, 103], 31) := by decide +kernel
theorem dX0_revertLatest_72 : decode cX0_revertLatest 72 = .ok (.aload_n 1, 1) := by decide +kernel
theorem dX0_revertLatest_73 : decode cX0_revertLatest 73 = .ok (.aload_n 1, 1) := by decide +kernel
theorem dX0_revertLatest_74 : decode cX0_revertLatest 74 = .ok (.getfield 38, 3) := by decide +kernel
theorem dX0_revertLatest_77 : decode cX0_revertLatest 77 = .ok (.iconst 1, 1) := by decide +kernel
theorem dX0_revertLatest_78 : decode cX0_revertLatest 78 = .ok (.isub, 1) := by decide +kernel
theorem dX0_revertLatest_79 : decode cX0_revertLatest 79 = .ok (.invokevirtual 43, 3) := by decide +kernel
theorem dX0_revertLatest_82 : decode cX0_revertLatest 82 = .ok (.goto 110, 3) := by decide +kernel
theorem dX0_revertLatest_85 : decode cX0_revertLatest 85 = .ok (.aload_n 1, 1) := by decide +kernel
theorem dX0_revertLatest_86 : decode cX0_revertLatest 86 = .ok (.aload_n 0, 1) := by decide +kernel
theorem dX0_revertLatest_87 : decode cX0_revertLatest 87 = .ok (.getfield 13, 3) := by decide +kernel
theorem dX0_revertLatest_90 : decode cX0_revertLatest 90 = .ok (.aload_n 0, 1) := by decide +kernel
theorem dX0_revertLatest_91 : decode cX0_revertLatest 91 = .ok (.getfield 25, 3) := by decide +kernel
theorem dX0_revertLatest_94 : decode cX0_revertLatest 94 = .ok (.iaload, 1) := by decide +kernel
theorem dX0_revertLatest_95 : decode cX0_revertLatest 95 = .ok (.aload_n 0, 1) := by decide +kernel
theorem dX0_revertLatest_96 : decode cX0_revertLatest 96 = .ok (.getfield 16, 3) := by decide +kernel
theorem dX0_revertLatest_99 : decode cX0_revertLatest 99 = .ok (.aload_n 0, 1) := by decide +kernel
theorem dX0_revertLatest_100 : decode cX0_revertLatest 100 = .ok (.getfield 25, 3) := by decide +kernel
theorem dX0_revertLatest_103 : decode cX0_revertLatest 103 = .ok (.iaload, 1) := by decide +kernel
theorem dX0_revertLatest_104 : decode cX0_revertLatest 104 = .ok (.aload_n 0, 1) := by decide +kernel
theorem dX0_revertLatest_105 : decode cX0_revertLatest 105 = .ok (.getfield 19, 3) := by decide +kernel
theorem dX0_revertLatest_108 : decode cX0_revertLatest 108 = .ok (.aload_n 0, 1) := by decide +kernel
theorem dX0_revertLatest_109 : decode cX0_revertLatest 109 = .ok (.getfield 25, 3) := by decide +kernel
theorem dX0_revertLatest_112 : decode cX0_revertLatest 112 = .ok (.iaload, 1) := by decide +kernel
theorem dX0_revertLatest_113 : decode cX0_revertLatest 113 = .ok (.aload_n 0, 1) := by decide +kernel
theorem dX0_revertLatest_114 : decode cX0_revertLatest 114 = .ok (.getfield 22, 3) := by decide +kernel
theorem dX0_revertLatest_117 : decode cX0_revertLatest 117 = .ok (.aload_n 0, 1) := by decide +kernel
theorem dX0_revertLatest_118 : decode cX0_revertLatest 118 = .ok (.getfield 25, 3) := by decide +kernel
theorem dX0_revertLatest_121 : decode cX0_revertLatest 121 = .ok (.iaload, 1) := by decide +kernel
theorem dX0_revertLatest_122 : decode cX0_revertLatest 122 = .ok (.invokevirtual 47, 3) := by decide +kernel
theorem dX0_revertLatest_125 : decode cX0_revertLatest 125 = .ok (.goto 67, 3) := by decide +kernel
theorem dX0_revertLatest_128 : decode cX0_revertLatest 128 = .ok (.aload_n 1, 1) := by decide +kernel
theorem dX0_revertLatest_129 : decode cX0_revertLatest 129 = .ok (.aload_n 0, 1) := by decide +kernel
theorem dX0_revertLatest_130 : decode cX0_revertLatest 130 = .ok (.getfield 13, 3) := by decide +kernel
theorem dX0_revertLatest_133 : decode cX0_revertLatest 133 = .ok (.aload_n 0, 1) := by decide +kernel
theorem dX0_revertLatest_134 : decode cX0_revertLatest 134 = .ok (.getfield 25, 3) := by decide +kernel
theorem dX0_revertLatest_137 : decode cX0_revertLatest 137 = .ok (.iaload, 1) := by decide +kernel
theorem dX0_revertLatest_138 : decode cX0_revertLatest 138 = .ok (.putfield 51, 3) := by decide +kernel
theorem dX0_revertLatest_141 : decode cX0_revertLatest 141 = .ok (.goto 51, 3) := by decide +kernel
theorem dX0_revertLatest_144 : decode cX0_revertLatest 144 = .ok (.aload_n 1, 1) := by decide +kernel
theorem dX0_revertLatest_145 : decode cX0_revertLatest 145 = .ok (.getfield 54, 3) := by decide +kernel
theorem dX0_revertLatest_148 : decode cX0_revertLatest 148 = .ok (.aload_n 0, 1) := by decide +kernel
theorem dX0_revertLatest_149 : decode cX0_revertLatest 149 = .ok (.getfield 13, 3) := by decide +kernel
theorem dX0_revertLatest_152 : decode cX0_revertLatest 152 = .ok (.aload_n 0, 1) := by decide +kernel
theorem dX0_revertLatest_153 : decode cX0_revertLatest 153 = .ok (.getfield 25, 3) := by decide +kernel
theorem dX0_revertLatest_156 : decode cX0_revertLatest 156 = .ok (.iaload, 1) := by decide +kernel
theorem dX0_revertLatest_157 : decode cX0_revertLatest 157 = .ok (.aload_n 0, 1) := by decide +kernel
theorem dX0_revertLatest_158 : decode cX0_revertLatest 158 = .ok (.getfield 16, 3) := by decide +kernel
theorem dX0_revertLatest_161 : decode cX0_revertLatest 161 = .ok (.aload_n 0, 1) := by decide +kernel
theorem dX0_revertLatest_162 : decode cX0_revertLatest 162 = .ok (.getfield 25, 3) := by decide +kernel
theorem dX0_revertLatest_165 : decode cX0_revertLatest 165 = .ok (.iaload, 1) := by decide +kernel
theorem dX0_revertLatest_166 : decode cX0_revertLatest 166 = .ok (.iastore, 1) := by decide +kernel
theorem dX0_revertLatest_167 : decode cX0_revertLatest 167 = .ok (.goto 25, 3) := by decide +kernel
theorem dX0_revertLatest_170 : decode cX0_revertLatest 170 = .ok (.aload_n 1, 1) := by decide +kernel
theorem dX0_revertLatest_171 : decode cX0_revertLatest 171 = .ok (.aload_n 0, 1) := by decide +kernel
theorem dX0_revertLatest_172 : decode cX0_revertLatest 172 = .ok (.getfield 13, 3) := by decide +kernel
theorem dX0_revertLatest_175 : decode cX0_revertLatest 175 = .ok (.aload_n 0, 1) := by decide +kernel
theorem dX0_revertLatest_176 : decode cX0_revertLatest 176 = .ok (.getfield 25, 3) := by decide +kernel
theorem dX0_revertLatest_179 : decode cX0_revertLatest 179 = .ok (.iaload, 1) := by decide +kernel
theorem dX0_revertLatest_180 : decode cX0_revertLatest 180 = .ok (.aload_n 0, 1) := by decide +kernel
theorem dX0_revertLatest_181 : decode cX0_revertLatest 181 = .ok (.getfield 16, 3) := by decide +kernel
theorem dX0_revertLatest_184 : decode cX0_revertLatest 184 = .ok (.aload_n 0, 1) := by decide +kernel
theorem dX0_revertLatest_185 : decode cX0_revertLatest 185 = .ok (.getfield 25, 3) := by decide +kernel
theorem dX0_revertLatest_188 : decode cX0_revertLatest 188 = .ok (.iaload, 1) := by decide +kernel
theorem dX0_revertLatest_189 : decode cX0_revertLatest 189 = .ok (.invokevirtual 57, 3) := by decide +kernel
theorem dX0_revertLatest_192 : decode cX0_revertLatest 192 = .ok (.return_, 1) := by decide +kernel
