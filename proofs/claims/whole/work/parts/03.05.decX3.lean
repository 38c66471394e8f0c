theorem dX3_init_0 : decode cX3_init 0 = .ok (.aload_n 0, 1) := by decide +kernel
theorem dX3_init_1 : decode cX3_init 1 = .ok (.invokespecial 3, 3) := by decide +kernel
theorem dX3_init_4 : decode cX3_init 4 = .ok (.aload_n 0, 1) := by decide +kernel
theorem dX3_init_5 : decode cX3_init 5 = .ok (.new 9, 3) := by decide +kernel
theorem dX3_init_8 : decode cX3_init 8 = .ok (.dup, 1) := by decide +kernel
theorem dX3_init_9 : decode cX3_init 9 = .ok (.invokespecial 11, 3) := by decide +kernel
theorem dX3_init_12 : decode cX3_init 12 = .ok (.putfield 12, 3) := by decide +kernel
theorem dX3_init_15 : decode cX3_init 15 = .ok (.aload_n 0, 1) := by decide +kernel
theorem dX3_init_16 : decode cX3_init 16 = .ok (.bipush 6, 2) := by decide +kernel
theorem dX3_init_18 : decode cX3_init 18 = .ok (.newarray .int, 2) := by decide +kernel
theorem dX3_init_20 : decode cX3_init 20 = .ok (.putfield 18, 3) := by decide +kernel
theorem dX3_init_23 : decode cX3_init 23 = .ok (.aload_n 0, 1) := by decide +kernel
theorem dX3_init_24 : decode cX3_init 24 = .ok (.bipush 6, 2) := by decide +kernel
theorem dX3_init_26 : decode cX3_init 26 = .ok (.newarray .int, 2) := by decide +kernel
theorem dX3_init_28 : decode cX3_init 28 = .ok (.putfield 22, 3) := by decide +kernel
theorem dX3_init_31 : decode cX3_init 31 = .ok (.aload_n 0, 1) := by decide +kernel
theorem dX3_init_32 : decode cX3_init 32 = .ok (.aload_n 1, 1) := by decide +kernel
theorem dX3_init_33 : decode cX3_init 33 = .ok (.putfield 25, 3) := by decide +kernel
theorem dX3_init_36 : decode cX3_init 36 = .ok (.aload_n 0, 1) := by decide +kernel
theorem dX3_init_37 : decode cX3_init 37 = .ok (.aload_n 2, 1) := by decide +kernel
theorem dX3_init_38 : decode cX3_init 38 = .ok (.putfield 28, 3) := by decide +kernel
theorem dX3_init_41 : decode cX3_init 41 = .ok (.return_, 1) := by decide +kernel
theorem dX3_paidWith_0 : decode cX3_paidWith 0 = .ok (.aload_n 0, 1) := by decide +kernel
theorem dX3_paidWith_1 : decode cX3_paidWith 1 = .ok (.getfield 28, 3) := by decide +kernel
theorem dX3_paidWith_4 : decode cX3_paidWith 4 = .ok (.aload_n 0, 1) := by decide +kernel
theorem dX3_paidWith_5 : decode cX3_paidWith 5 = .ok (.getfield 25, 3) := by decide +kernel
theorem dX3_paidWith_8 : decode cX3_paidWith 8 = .ok (.invokevirtual 32, 3) := by decide +kernel
theorem dX3_paidWith_11 : decode cX3_paidWith 11 = .ok (.aload_n 0, 1) := by decide +kernel
theorem dX3_paidWith_12 : decode cX3_paidWith 12 = .ok (.getfield 28, 3) := by decide +kernel
theorem dX3_paidWith_15 : decode cX3_paidWith 15 = .ok (.aload_n 0, 1) := by decide +kernel
theorem dX3_paidWith_16 : decode cX3_paidWith 16 = .ok (.getfield 25, 3) := by decide +kernel
theorem dX3_paidWith_19 : decode cX3_paidWith 19 = .ok (.getfield 38, 3) := by decide +kernel
theorem dX3_paidWith_22 : decode cX3_paidWith 22 = .ok (.iload_n 1, 1) := by decide +kernel
theorem dX3_paidWith_23 : decode cX3_paidWith 23 = .ok (.iaload, 1) := by decide +kernel
theorem dX3_paidWith_24 : decode cX3_paidWith 24 = .ok (.iload_n 2, 1) := by decide +kernel
theorem dX3_paidWith_25 : decode cX3_paidWith 25 = .ok (.iload_n 3, 1) := by decide +kernel
theorem dX3_paidWith_26 : decode cX3_paidWith 26 = .ok (.invokevirtual 41, 3) := by decide +kernel
theorem dX3_paidWith_29 : decode cX3_paidWith 29 = .ok (.aload_n 0, 1) := by decide +kernel
theorem dX3_paidWith_30 : decode cX3_paidWith 30 = .ok (.getfield 28, 3) := by decide +kernel
theorem dX3_paidWith_33 : decode cX3_paidWith 33 = .ok (.invokevirtual 45, 3) := by decide +kernel
theorem dX3_paidWith_36 : decode cX3_paidWith 36 = .ok (.aload_n 0, 1) := by decide +kernel
theorem dX3_paidWith_37 : decode cX3_paidWith 37 = .ok (.getfield 28, 3) := by decide +kernel
theorem dX3_paidWith_40 : decode cX3_paidWith 40 = .ok (.getfield 48, 3) := by decide +kernel
theorem dX3_paidWith_43 : decode cX3_paidWith 43 = .ok (.iload 4, 2) := by decide +kernel
theorem dX3_paidWith_45 : decode cX3_paidWith 45 = .ok (.iaload, 1) := by decide +kernel
theorem dX3_paidWith_46 : decode cX3_paidWith 46 = .ok (.ireturn, 1) := by decide +kernel
theorem dX3_bestTarget_0 : decode cX3_bestTarget 0 = .ok (.aload_n 0, 1) := by decide +kernel
theorem dX3_bestTarget_1 : decode cX3_bestTarget 1 = .ok (.getfield 25, 3) := by decide +kernel
theorem dX3_bestTarget_4 : decode cX3_bestTarget 4 = .ok (.getfield 38, 3) := by decide +kernel
theorem dX3_bestTarget_7 : decode cX3_bestTarget 7 = .ok (.iload_n 1, 1) := by decide +kernel
theorem dX3_bestTarget_8 : decode cX3_bestTarget 8 = .ok (.iaload, 1) := by decide +kernel
theorem dX3_bestTarget_9 : decode cX3_bestTarget 9 = .ok (.istore 4, 2) := by decide +kernel
theorem dX3_bestTarget_11 : decode cX3_bestTarget 11 = .ok (.aload_n 0, 1) := by decide +kernel
theorem dX3_bestTarget_12 : decode cX3_bestTarget 12 = .ok (.getfield 28, 3) := by decide +kernel
theorem dX3_bestTarget_15 : decode cX3_bestTarget 15 = .ok (.aload_n 0, 1) := by decide +kernel
theorem dX3_bestTarget_16 : decode cX3_bestTarget 16 = .ok (.getfield 25, 3) := by decide +kernel
theorem dX3_bestTarget_19 : decode cX3_bestTarget 19 = .ok (.invokevirtual 32, 3) := by decide +kernel
theorem dX3_bestTarget_22 : decode cX3_bestTarget 22 = .ok (.aload_n 0, 1) := by decide +kernel
theorem dX3_bestTarget_23 : decode cX3_bestTarget 23 = .ok (.getfield 28, 3) := by decide +kernel
theorem dX3_bestTarget_26 : decode cX3_bestTarget 26 = .ok (.invokevirtual 45, 3) := by decide +kernel
theorem dX3_bestTarget_29 : decode cX3_bestTarget 29 = .ok (.aload_n 0, 1) := by decide +kernel
theorem dX3_bestTarget_30 : decode cX3_bestTarget 30 = .ok (.getfield 28, 3) := by decide +kernel
theorem dX3_bestTarget_33 : decode cX3_bestTarget 33 = .ok (.getfield 48, 3) := by decide +kernel
theorem dX3_bestTarget_36 : decode cX3_bestTarget 36 = .ok (.iconst 0, 1) := by decide +kernel
theorem dX3_bestTarget_37 : decode cX3_bestTarget 37 = .ok (.aload_n 0, 1) := by decide +kernel
theorem dX3_bestTarget_38 : decode cX3_bestTarget 38 = .ok (.getfield 18, 3) := by decide +kernel
theorem dX3_bestTarget_41 : decode cX3_bestTarget 41 = .ok (.iconst 0, 1) := by decide +kernel
theorem dX3_bestTarget_42 : decode cX3_bestTarget 42 = .ok (.bipush 6, 2) := by decide +kernel
theorem dX3_bestTarget_44 : decode cX3_bestTarget 44 = .ok (.invokestatic 51, 3) := by decide +kernel
theorem dX3_bestTarget_47 : decode cX3_bestTarget 47 = .ok (.iconst 0, 1) := by decide +kernel
theorem dX3_bestTarget_48 : decode cX3_bestTarget 48 = .ok (.istore 5, 2) := by decide +kernel
theorem dX3_bestTarget_50 : decode cX3_bestTarget 50 = .ok (.iconst 0, 1) := by decide +kernel
theorem dX3_bestTarget_51 : decode cX3_bestTarget 51 = .ok (.istore 6, 2) := by decide +kernel
theorem dX3_bestTarget_53 : decode cX3_bestTarget 53 = .ok (.iconst 0, 1) := by decide +kernel
theorem dX3_bestTarget_54 : decode cX3_bestTarget 54 = .ok (.istore 7, 2) := by decide +kernel
theorem dX3_bestTarget_56 : decode cX3_bestTarget 56 = .ok (.iload 7, 2) := by decide +kernel
theorem dX3_bestTarget_58 : decode cX3_bestTarget 58 = .ok (.aload_n 0, 1) := by decide +kernel
theorem dX3_bestTarget_59 : decode cX3_bestTarget 59 = .ok (.getfield 25, 3) := by decide +kernel
theorem dX3_bestTarget_62 : decode cX3_bestTarget 62 = .ok (.getfield 57, 3) := by decide +kernel
theorem dX3_bestTarget_65 : decode cX3_bestTarget 65 = .ok (.if_icmp .ge 81, 3) := by decide +kernel
theorem dX3_bestTarget_68 : decode cX3_bestTarget 68 = .ok (.aload_n 0, 1) := by decide +kernel
theorem dX3_bestTarget_69 : decode cX3_bestTarget 69 = .ok (.getfield 28, 3) := by decide +kernel
theorem dX3_bestTarget_72 : decode cX3_bestTarget 72 = .ok (.iload 4, 2) := by decide +kernel
theorem dX3_bestTarget_74 : decode cX3_bestTarget 74 = .ok (.iload 7, 2) := by decide +kernel
theorem dX3_bestTarget_76 : decode cX3_bestTarget 76 = .ok (.iload_n 2, 1) := by decide +kernel
theorem dX3_bestTarget_77 : decode cX3_bestTarget 77 = .ok (.invokevirtual 41, 3) := by decide +kernel
theorem dX3_bestTarget_80 : decode cX3_bestTarget 80 = .ok (.aload_n 0, 1) := by decide +kernel
theorem dX3_bestTarget_81 : decode cX3_bestTarget 81 = .ok (.getfield 28, 3) := by decide +kernel
theorem dX3_bestTarget_84 : decode cX3_bestTarget 84 = .ok (.invokevirtual 45, 3) := by decide +kernel
theorem dX3_bestTarget_87 : decode cX3_bestTarget 87 = .ok (.aload_n 0, 1) := by decide +kernel
theorem dX3_bestTarget_88 : decode cX3_bestTarget 88 = .ok (.getfield 28, 3) := by decide +kernel
theorem dX3_bestTarget_91 : decode cX3_bestTarget 91 = .ok (.iload 4, 2) := by decide +kernel
theorem dX3_bestTarget_93 : decode cX3_bestTarget 93 = .ok (.iload 7, 2) := by decide +kernel
theorem dX3_bestTarget_95 : decode cX3_bestTarget 95 = .ok (.iload_n 2, 1) := by decide +kernel
theorem dX3_bestTarget_96 : decode cX3_bestTarget 96 = .ok (.ineg, 1) := by decide +kernel
theorem dX3_bestTarget_97 : decode cX3_bestTarget 97 = .ok (.invokevirtual 41, 3) := by decide +kernel
theorem dX3_bestTarget_100 : decode cX3_bestTarget 100 = .ok (.aload_n 0, 1) := by decide +kernel
theorem dX3_bestTarget_101 : decode cX3_bestTarget 101 = .ok (.getfield 28, 3) := by decide +kernel
theorem dX3_bestTarget_104 : decode cX3_bestTarget 104 = .ok (.getfield 48, 3) := by decide +kernel
theorem dX3_bestTarget_107 : decode cX3_bestTarget 107 = .ok (.iload 7, 2) := by decide +kernel
theorem dX3_bestTarget_109 : decode cX3_bestTarget 109 = .ok (.iaload, 1) := by decide +kernel
theorem dX3_bestTarget_110 : decode cX3_bestTarget 110 = .ok (.aload_n 0, 1) := by decide +kernel
theorem dX3_bestTarget_111 : decode cX3_bestTarget 111 = .ok (.getfield 18, 3) := by decide +kernel
theorem dX3_bestTarget_114 : decode cX3_bestTarget 114 = .ok (.iload 7, 2) := by decide +kernel
theorem dX3_bestTarget_116 : decode cX3_bestTarget 116 = .ok (.iaload, 1) := by decide +kernel
theorem dX3_bestTarget_117 : decode cX3_bestTarget 117 = .ok (.isub, 1) := by decide +kernel
theorem dX3_bestTarget_118 : decode cX3_bestTarget 118 = .ok (.istore 8, 2) := by decide +kernel
theorem dX3_bestTarget_120 : decode cX3_bestTarget 120 = .ok (.iload 7, 2) := by decide +kernel
theorem dX3_bestTarget_122 : decode cX3_bestTarget 122 = .ok (.ifCond .eq 10, 3) := by decide +kernel
theorem dX3_bestTarget_125 : decode cX3_bestTarget 125 = .ok (.iload 8, 2) := by decide +kernel
theorem dX3_bestTarget_127 : decode cX3_bestTarget 127 = .ok (.iload 6, 2) := by decide +kernel
theorem dX3_bestTarget_129 : decode cX3_bestTarget 129 = .ok (.if_icmp .le 11, 3) := by decide +kernel
theorem dX3_bestTarget_132 : decode cX3_bestTarget 132 = .ok (.iload 7, 2) := by decide +kernel
theorem dX3_bestTarget_134 : decode cX3_bestTarget 134 = .ok (.istore 5, 2) := by decide +kernel
theorem dX3_bestTarget_136 : decode cX3_bestTarget 136 = .ok (.iload 8, 2) := by decide +kernel
theorem dX3_bestTarget_138 : decode cX3_bestTarget 138 = .ok (.istore 6, 2) := by decide +kernel
theorem dX3_bestTarget_140 : decode cX3_bestTarget 140 = .ok (.iinc 7 1, 3) := by decide +kernel
theorem dX3_bestTarget_143 : decode cX3_bestTarget 143 = .ok (.goto (-87), 3) := by decide +kernel
theorem dX3_bestTarget_146 : decode cX3_bestTarget 146 = .ok (.iload_n 3, 1) := by decide +kernel
theorem dX3_bestTarget_147 : decode cX3_bestTarget 147 = .ok (.ifCond .ne 8, 3) := by decide +kernel
theorem dX3_bestTarget_150 : decode cX3_bestTarget 150 = .ok (.iload 5, 2) := by decide +kernel
theorem dX3_bestTarget_152 : decode cX3_bestTarget 152 = .ok (.goto 5, 3) := by decide +kernel
theorem dX3_bestTarget_155 : decode cX3_bestTarget 155 = .ok (.iload 6, 2) := by decide +kernel
theorem dX3_bestTarget_157 : decode cX3_bestTarget 157 = .ok (.ireturn, 1) := by decide +kernel
theorem dX3_leastCoins_0 : decode cX3_leastCoins 0 = .ok (.aload_n 0, 1) := by decide +kernel
theorem dX3_leastCoins_1 : decode cX3_leastCoins 1 = .ok (.getfield 25, 3) := by decide +kernel
theorem dX3_leastCoins_4 : decode cX3_leastCoins 4 = .ok (.getfield 38, 3) := by decide +kernel
theorem dX3_leastCoins_7 : decode cX3_leastCoins 7 = .ok (.iload_n 1, 1) := by decide +kernel
theorem dX3_leastCoins_8 : decode cX3_leastCoins 8 = .ok (.iaload, 1) := by decide +kernel
theorem dX3_leastCoins_9 : decode cX3_leastCoins 9 = .ok (.istore 4, 2) := by decide +kernel
theorem dX3_leastCoins_11 : decode cX3_leastCoins 11 = .ok (.aload_n 0, 1) := by decide +kernel
theorem dX3_leastCoins_12 : decode cX3_leastCoins 12 = .ok (.getfield 28, 3) := by decide +kernel
theorem dX3_leastCoins_15 : decode cX3_leastCoins 15 = .ok (.aload_n 0, 1) := by decide +kernel
theorem dX3_leastCoins_16 : decode cX3_leastCoins 16 = .ok (.getfield 25, 3) := by decide +kernel
theorem dX3_leastCoins_19 : decode cX3_leastCoins 19 = .ok (.invokevirtual 32, 3) := by decide +kernel
theorem dX3_leastCoins_22 : decode cX3_leastCoins 22 = .ok (.iconst 1, 1) := by decide +kernel
theorem dX3_leastCoins_23 : decode cX3_leastCoins 23 = .ok (.istore 5, 2) := by decide +kernel
theorem dX3_leastCoins_25 : decode cX3_leastCoins 25 = .ok (.iload 5, 2) := by decide +kernel
theorem dX3_leastCoins_27 : decode cX3_leastCoins 27 = .ok (.bipush 99, 2) := by decide +kernel
theorem dX3_leastCoins_29 : decode cX3_leastCoins 29 = .ok (.if_icmp .gt 35, 3) := by decide +kernel
theorem dX3_leastCoins_32 : decode cX3_leastCoins 32 = .ok (.aload_n 0, 1) := by decide +kernel
theorem dX3_leastCoins_33 : decode cX3_leastCoins 33 = .ok (.getfield 28, 3) := by decide +kernel
theorem dX3_leastCoins_36 : decode cX3_leastCoins 36 = .ok (.iload 4, 2) := by decide +kernel
theorem dX3_leastCoins_38 : decode cX3_leastCoins 38 = .ok (.iload_n 2, 1) := by decide +kernel
theorem dX3_leastCoins_39 : decode cX3_leastCoins 39 = .ok (.iconst 1, 1) := by decide +kernel
theorem dX3_leastCoins_40 : decode cX3_leastCoins 40 = .ok (.invokevirtual 41, 3) := by decide +kernel
theorem dX3_leastCoins_43 : decode cX3_leastCoins 43 = .ok (.aload_n 0, 1) := by decide +kernel
theorem dX3_leastCoins_44 : decode cX3_leastCoins 44 = .ok (.getfield 28, 3) := by decide +kernel
theorem dX3_leastCoins_47 : decode cX3_leastCoins 47 = .ok (.iload_n 2, 1) := by decide +kernel
theorem dX3_leastCoins_48 : decode cX3_leastCoins 48 = .ok (.invokevirtual 61, 3) := by decide +kernel
theorem dX3_leastCoins_51 : decode cX3_leastCoins 51 = .ok (.iload_n 3, 1) := by decide +kernel
theorem dX3_leastCoins_52 : decode cX3_leastCoins 52 = .ok (.if_icmp .lt 6, 3) := by decide +kernel
theorem dX3_leastCoins_55 : decode cX3_leastCoins 55 = .ok (.iload 5, 2) := by decide +kernel
theorem dX3_leastCoins_57 : decode cX3_leastCoins 57 = .ok (.ireturn, 1) := by decide +kernel
theorem dX3_leastCoins_58 : decode cX3_leastCoins 58 = .ok (.iinc 5 1, 3) := by decide +kernel
theorem dX3_leastCoins_61 : decode cX3_leastCoins 61 = .ok (.goto (-36), 3) := by decide +kernel
theorem dX3_leastCoins_64 : decode cX3_leastCoins 64 = .ok (.ldc 65, 2) := by decide +kernel
theorem dX3_leastCoins_66 : decode cX3_leastCoins 66 = .ok (.ireturn, 1) := by decide +kernel
theorem dX3_mostMissed_0 : decode cX3_mostMissed 0 = .ok (.ldc 65, 2) := by decide +kernel
theorem dX3_mostMissed_2 : decode cX3_mostMissed 2 = .ok (.istore_n 3, 1) := by decide +kernel
theorem dX3_mostMissed_3 : decode cX3_mostMissed 3 = .ok (.ldc 65, 2) := by decide +kernel
theorem dX3_mostMissed_5 : decode cX3_mostMissed 5 = .ok (.istore 4, 2) := by decide +kernel
theorem dX3_mostMissed_7 : decode cX3_mostMissed 7 = .ok (.aload_n 0, 1) := by decide +kernel
theorem dX3_mostMissed_8 : decode cX3_mostMissed 8 = .ok (.getfield 28, 3) := by decide +kernel
theorem dX3_mostMissed_11 : decode cX3_mostMissed 11 = .ok (.aload_n 0, 1) := by decide +kernel
theorem dX3_mostMissed_12 : decode cX3_mostMissed 12 = .ok (.getfield 25, 3) := by decide +kernel
theorem dX3_mostMissed_15 : decode cX3_mostMissed 15 = .ok (.invokevirtual 32, 3) := by decide +kernel
theorem dX3_mostMissed_18 : decode cX3_mostMissed 18 = .ok (.iconst 0, 1) := by decide +kernel
theorem dX3_mostMissed_19 : decode cX3_mostMissed 19 = .ok (.istore 5, 2) := by decide +kernel
theorem dX3_mostMissed_21 : decode cX3_mostMissed 21 = .ok (.iload 5, 2) := by decide +kernel
theorem dX3_mostMissed_23 : decode cX3_mostMissed 23 = .ok (.bipush 10, 2) := by decide +kernel
theorem dX3_mostMissed_25 : decode cX3_mostMissed 25 = .ok (.if_icmp .ge 83, 3) := by decide +kernel
theorem dX3_mostMissed_28 : decode cX3_mostMissed 28 = .ok (.aload_n 0, 1) := by decide +kernel
theorem dX3_mostMissed_29 : decode cX3_mostMissed 29 = .ok (.getfield 28, 3) := by decide +kernel
theorem dX3_mostMissed_32 : decode cX3_mostMissed 32 = .ok (.iload 5, 2) := by decide +kernel
theorem dX3_mostMissed_34 : decode cX3_mostMissed 34 = .ok (.invokevirtual 66, 3) := by decide +kernel
theorem dX3_mostMissed_37 : decode cX3_mostMissed 37 = .ok (.ifCond .ne 6, 3) := by decide +kernel
theorem dX3_mostMissed_40 : decode cX3_mostMissed 40 = .ok (.goto 62, 3) := by decide +kernel
theorem dX3_mostMissed_43 : decode cX3_mostMissed 43 = .ok (.aload_n 0, 1) := by decide +kernel
theorem dX3_mostMissed_44 : decode cX3_mostMissed 44 = .ok (.getfield 28, 3) := by decide +kernel
theorem dX3_mostMissed_47 : decode cX3_mostMissed 47 = .ok (.iload 5, 2) := by decide +kernel
theorem dX3_mostMissed_49 : decode cX3_mostMissed 49 = .ok (.invokevirtual 70, 3) := by decide +kernel
theorem dX3_mostMissed_52 : decode cX3_mostMissed 52 = .ok (.aload_n 0, 1) := by decide +kernel
theorem dX3_mostMissed_53 : decode cX3_mostMissed 53 = .ok (.getfield 28, 3) := by decide +kernel
theorem dX3_mostMissed_56 : decode cX3_mostMissed 56 = .ok (.invokevirtual 45, 3) := by decide +kernel
theorem dX3_mostMissed_59 : decode cX3_mostMissed 59 = .ok (.aload_n 0, 1) := by decide +kernel
theorem dX3_mostMissed_60 : decode cX3_mostMissed 60 = .ok (.getfield 28, 3) := by decide +kernel
theorem dX3_mostMissed_63 : decode cX3_mostMissed 63 = .ok (.iload 5, 2) := by decide +kernel
theorem dX3_mostMissed_65 : decode cX3_mostMissed 65 = .ok (.invokevirtual 74, 3) := by decide +kernel
theorem dX3_mostMissed_68 : decode cX3_mostMissed 68 = .ok (.iload_n 3, 1) := by decide +kernel
theorem dX3_mostMissed_69 : decode cX3_mostMissed 69 = .ok (.ldc 65, 2) := by decide +kernel
theorem dX3_mostMissed_71 : decode cX3_mostMissed 71 = .ok (.if_icmp .eq 17, 3) := by decide +kernel
theorem dX3_mostMissed_74 : decode cX3_mostMissed 74 = .ok (.aload_n 0, 1) := by decide +kernel
theorem dX3_mostMissed_75 : decode cX3_mostMissed 75 = .ok (.getfield 28, 3) := by decide +kernel
theorem dX3_mostMissed_78 : decode cX3_mostMissed 78 = .ok (.getfield 48, 3) := by decide +kernel
theorem dX3_mostMissed_81 : decode cX3_mostMissed 81 = .ok (.iload_n 1, 1) := by decide +kernel
theorem dX3_mostMissed_82 : decode cX3_mostMissed 82 = .ok (.iaload, 1) := by decide +kernel
theorem dX3_mostMissed_83 : decode cX3_mostMissed 83 = .ok (.iload 4, 2) := by decide +kernel
theorem dX3_mostMissed_85 : decode cX3_mostMissed 85 = .ok (.if_icmp .ge 17, 3) := by decide +kernel
theorem dX3_mostMissed_88 : decode cX3_mostMissed 88 = .ok (.iload 5, 2) := by decide +kernel
theorem dX3_mostMissed_90 : decode cX3_mostMissed 90 = .ok (.istore_n 3, 1) := by decide +kernel
theorem dX3_mostMissed_91 : decode cX3_mostMissed 91 = .ok (.aload_n 0, 1) := by decide +kernel
theorem dX3_mostMissed_92 : decode cX3_mostMissed 92 = .ok (.getfield 28, 3) := by decide +kernel
theorem dX3_mostMissed_95 : decode cX3_mostMissed 95 = .ok (.getfield 48, 3) := by decide +kernel
theorem dX3_mostMissed_98 : decode cX3_mostMissed 98 = .ok (.iload_n 1, 1) := by decide +kernel
theorem dX3_mostMissed_99 : decode cX3_mostMissed 99 = .ok (.iaload, 1) := by decide +kernel
theorem dX3_mostMissed_100 : decode cX3_mostMissed 100 = .ok (.istore 4, 2) := by decide +kernel
theorem dX3_mostMissed_102 : decode cX3_mostMissed 102 = .ok (.iinc 5 1, 3) := by decide +kernel
theorem dX3_mostMissed_105 : decode cX3_mostMissed 105 = .ok (.goto (-84), 3) := by decide +kernel
theorem dX3_mostMissed_108 : decode cX3_mostMissed 108 = .ok (.iload_n 2, 1) := by decide +kernel
theorem dX3_mostMissed_109 : decode cX3_mostMissed 109 = .ok (.ifCond .ne 7, 3) := by decide +kernel
theorem dX3_mostMissed_112 : decode cX3_mostMissed 112 = .ok (.iload_n 3, 1) := by decide +kernel
theorem dX3_mostMissed_113 : decode cX3_mostMissed 113 = .ok (.goto 5, 3) := by decide +kernel
theorem dX3_mostMissed_116 : decode cX3_mostMissed 116 = .ok (.iload 4, 2) := by decide +kernel
theorem dX3_mostMissed_118 : decode cX3_mostMissed 118 = .ok (.ireturn, 1) := by decide +kernel
theorem dX3_likestRing_0 : decode cX3_likestRing 0 = .ok (.ldc 65, 2) := by decide +kernel
theorem dX3_likestRing_2 : decode cX3_likestRing 2 = .ok (.istore_n 2, 1) := by decide +kernel
theorem dX3_likestRing_3 : decode cX3_likestRing 3 = .ok (.ldc 65, 2) := by decide +kernel
theorem dX3_likestRing_5 : decode cX3_likestRing 5 = .ok (.istore_n 3, 1) := by decide +kernel
theorem dX3_likestRing_6 : decode cX3_likestRing 6 = .ok (.iconst 0, 1) := by decide +kernel
theorem dX3_likestRing_7 : decode cX3_likestRing 7 = .ok (.istore 4, 2) := by decide +kernel
theorem dX3_likestRing_9 : decode cX3_likestRing 9 = .ok (.aload_n 0, 1) := by decide +kernel
theorem dX3_likestRing_10 : decode cX3_likestRing 10 = .ok (.getfield 28, 3) := by decide +kernel
theorem dX3_likestRing_13 : decode cX3_likestRing 13 = .ok (.aload_n 0, 1) := by decide +kernel
theorem dX3_likestRing_14 : decode cX3_likestRing 14 = .ok (.getfield 25, 3) := by decide +kernel
theorem dX3_likestRing_17 : decode cX3_likestRing 17 = .ok (.invokevirtual 77, 3) := by decide +kernel
theorem dX3_likestRing_20 : decode cX3_likestRing 20 = .ok (.iconst 0, 1) := by decide +kernel
theorem dX3_likestRing_21 : decode cX3_likestRing 21 = .ok (.istore 5, 2) := by decide +kernel
theorem dX3_likestRing_23 : decode cX3_likestRing 23 = .ok (.iload 5, 2) := by decide +kernel
theorem dX3_likestRing_25 : decode cX3_likestRing 25 = .ok (.bipush 10, 2) := by decide +kernel
theorem dX3_likestRing_27 : decode cX3_likestRing 27 = .ok (.if_icmp .ge 58, 3) := by decide +kernel
theorem dX3_likestRing_30 : decode cX3_likestRing 30 = .ok (.iload 5, 2) := by decide +kernel
theorem dX3_likestRing_32 : decode cX3_likestRing 32 = .ok (.iconst 1, 1) := by decide +kernel
theorem dX3_likestRing_33 : decode cX3_likestRing 33 = .ok (.iadd, 1) := by decide +kernel
theorem dX3_likestRing_34 : decode cX3_likestRing 34 = .ok (.istore 6, 2) := by decide +kernel
theorem dX3_likestRing_36 : decode cX3_likestRing 36 = .ok (.iload 6, 2) := by decide +kernel
theorem dX3_likestRing_38 : decode cX3_likestRing 38 = .ok (.bipush 10, 2) := by decide +kernel
theorem dX3_likestRing_40 : decode cX3_likestRing 40 = .ok (.if_icmp .ge 39, 3) := by decide +kernel
theorem dX3_likestRing_43 : decode cX3_likestRing 43 = .ok (.aload_n 0, 1) := by decide +kernel
theorem dX3_likestRing_44 : decode cX3_likestRing 44 = .ok (.getfield 28, 3) := by decide +kernel
theorem dX3_likestRing_47 : decode cX3_likestRing 47 = .ok (.iload 5, 2) := by decide +kernel
theorem dX3_likestRing_49 : decode cX3_likestRing 49 = .ok (.iload 6, 2) := by decide +kernel
theorem dX3_likestRing_51 : decode cX3_likestRing 51 = .ok (.invokevirtual 80, 3) := by decide +kernel
theorem dX3_likestRing_54 : decode cX3_likestRing 54 = .ok (.istore 7, 2) := by decide +kernel
theorem dX3_likestRing_56 : decode cX3_likestRing 56 = .ok (.iload 7, 2) := by decide +kernel
theorem dX3_likestRing_58 : decode cX3_likestRing 58 = .ok (.iload 4, 2) := by decide +kernel
theorem dX3_likestRing_60 : decode cX3_likestRing 60 = .ok (.if_icmp .le 13, 3) := by decide +kernel
theorem dX3_likestRing_63 : decode cX3_likestRing 63 = .ok (.iload 5, 2) := by decide +kernel
theorem dX3_likestRing_65 : decode cX3_likestRing 65 = .ok (.istore_n 2, 1) := by decide +kernel
theorem dX3_likestRing_66 : decode cX3_likestRing 66 = .ok (.iload 6, 2) := by decide +kernel
theorem dX3_likestRing_68 : decode cX3_likestRing 68 = .ok (.istore_n 3, 1) := by decide +kernel
theorem dX3_likestRing_69 : decode cX3_likestRing 69 = .ok (.iload 7, 2) := by decide +kernel
theorem dX3_likestRing_71 : decode cX3_likestRing 71 = .ok (.istore 4, 2) := by decide +kernel
theorem dX3_likestRing_73 : decode cX3_likestRing 73 = .ok (.iinc 6 1, 3) := by decide +kernel
theorem dX3_likestRing_76 : decode cX3_likestRing 76 = .ok (.goto (-40), 3) := by decide +kernel
theorem dX3_likestRing_79 : decode cX3_likestRing 79 = .ok (.iinc 5 1, 3) := by decide +kernel
theorem dX3_likestRing_82 : decode cX3_likestRing 82 = .ok (.goto (-59), 3) := by decide +kernel
theorem dX3_likestRing_85 : decode cX3_likestRing 85 = .ok (.iload 4, 2) := by decide +kernel
theorem dX3_likestRing_87 : decode cX3_likestRing 87 = .ok (.ifCond .ne 6, 3) := by decide +kernel
theorem dX3_likestRing_90 : decode cX3_likestRing 90 = .ok (.ldc 65, 2) := by decide +kernel
theorem dX3_likestRing_92 : decode cX3_likestRing 92 = .ok (.ireturn, 1) := by decide +kernel
theorem dX3_likestRing_93 : decode cX3_likestRing 93 = .ok (.iload_n 1, 1) := by decide +kernel
theorem dX3_likestRing_94 : decode cX3_likestRing 94 = .ok (.iconst 2, 1) := by decide +kernel
theorem dX3_likestRing_95 : decode cX3_likestRing 95 = .ok (.if_icmp .ne 6, 3) := by decide +kernel
theorem dX3_likestRing_98 : decode cX3_likestRing 98 = .ok (.iload 4, 2) := by decide +kernel
theorem dX3_likestRing_100 : decode cX3_likestRing 100 = .ok (.ireturn, 1) := by decide +kernel
theorem dX3_likestRing_101 : decode cX3_likestRing 101 = .ok (.iload_n 1, 1) := by decide +kernel
theorem dX3_likestRing_102 : decode cX3_likestRing 102 = .ok (.ifCond .ne 7, 3) := by decide +kernel
theorem dX3_likestRing_105 : decode cX3_likestRing 105 = .ok (.iload_n 2, 1) := by decide +kernel
theorem dX3_likestRing_106 : decode cX3_likestRing 106 = .ok (.goto 4, 3) := by decide +kernel
theorem dX3_likestRing_109 : decode cX3_likestRing 109 = .ok (.iload_n 3, 1) := by decide +kernel
theorem dX3_likestRing_110 : decode cX3_likestRing 110 = .ok (.ireturn, 1) := by decide +kernel
theorem dX3_bestHalves_0 : decode cX3_bestHalves 0 = .ok (.aload_n 0, 1) := by decide +kernel
theorem dX3_bestHalves_1 : decode cX3_bestHalves 1 = .ok (.getfield 25, 3) := by decide +kernel
theorem dX3_bestHalves_4 : decode cX3_bestHalves 4 = .ok (.getfield 38, 3) := by decide +kernel
theorem dX3_bestHalves_7 : decode cX3_bestHalves 7 = .ok (.iload_n 1, 1) := by decide +kernel
theorem dX3_bestHalves_8 : decode cX3_bestHalves 8 = .ok (.iaload, 1) := by decide +kernel
theorem dX3_bestHalves_9 : decode cX3_bestHalves 9 = .ok (.istore 6, 2) := by decide +kernel
theorem dX3_bestHalves_11 : decode cX3_bestHalves 11 = .ok (.iconst 0, 1) := by decide +kernel
theorem dX3_bestHalves_12 : decode cX3_bestHalves 12 = .ok (.istore 7, 2) := by decide +kernel
theorem dX3_bestHalves_14 : decode cX3_bestHalves 14 = .ok (.iconst 0, 1) := by decide +kernel
theorem dX3_bestHalves_15 : decode cX3_bestHalves 15 = .ok (.istore 8, 2) := by decide +kernel
theorem dX3_bestHalves_17 : decode cX3_bestHalves 17 = .ok (.aload_n 0, 1) := by decide +kernel
theorem dX3_bestHalves_18 : decode cX3_bestHalves 18 = .ok (.getfield 28, 3) := by decide +kernel
theorem dX3_bestHalves_21 : decode cX3_bestHalves 21 = .ok (.aload_n 0, 1) := by decide +kernel
theorem dX3_bestHalves_22 : decode cX3_bestHalves 22 = .ok (.getfield 25, 3) := by decide +kernel
theorem dX3_bestHalves_25 : decode cX3_bestHalves 25 = .ok (.invokevirtual 32, 3) := by decide +kernel
theorem dX3_bestHalves_28 : decode cX3_bestHalves 28 = .ok (.aload_n 0, 1) := by decide +kernel
theorem dX3_bestHalves_29 : decode cX3_bestHalves 29 = .ok (.getfield 28, 3) := by decide +kernel
theorem dX3_bestHalves_32 : decode cX3_bestHalves 32 = .ok (.iload 6, 2) := by decide +kernel
theorem dX3_bestHalves_34 : decode cX3_bestHalves 34 = .ok (.iload 4, 2) := by decide +kernel
theorem dX3_bestHalves_36 : decode cX3_bestHalves 36 = .ok (.iload_n 2, 1) := by decide +kernel
theorem dX3_bestHalves_37 : decode cX3_bestHalves 37 = .ok (.invokevirtual 41, 3) := by decide +kernel
theorem dX3_bestHalves_40 : decode cX3_bestHalves 40 = .ok (.iconst 0, 1) := by decide +kernel
theorem dX3_bestHalves_41 : decode cX3_bestHalves 41 = .ok (.istore 9, 2) := by decide +kernel
theorem dX3_bestHalves_43 : decode cX3_bestHalves 43 = .ok (.iload 9, 2) := by decide +kernel
theorem dX3_bestHalves_45 : decode cX3_bestHalves 45 = .ok (.iload_n 2, 1) := by decide +kernel
theorem dX3_bestHalves_46 : decode cX3_bestHalves 46 = .ok (.if_icmp .gt 97, 3) := by decide +kernel
theorem dX3_bestHalves_49 : decode cX3_bestHalves 49 = .ok (.aload_n 0, 1) := by decide +kernel
theorem dX3_bestHalves_50 : decode cX3_bestHalves 50 = .ok (.getfield 28, 3) := by decide +kernel
theorem dX3_bestHalves_53 : decode cX3_bestHalves 53 = .ok (.invokevirtual 45, 3) := by decide +kernel
theorem dX3_bestHalves_56 : decode cX3_bestHalves 56 = .ok (.aload_n 0, 1) := by decide +kernel
theorem dX3_bestHalves_57 : decode cX3_bestHalves 57 = .ok (.getfield 28, 3) := by decide +kernel
theorem dX3_bestHalves_60 : decode cX3_bestHalves 60 = .ok (.getfield 48, 3) := by decide +kernel
theorem dX3_bestHalves_63 : decode cX3_bestHalves 63 = .ok (.iload_n 3, 1) := by decide +kernel
theorem dX3_bestHalves_64 : decode cX3_bestHalves 64 = .ok (.iaload, 1) := by decide +kernel
theorem dX3_bestHalves_65 : decode cX3_bestHalves 65 = .ok (.iload_n 3, 1) := by decide +kernel
theorem dX3_bestHalves_66 : decode cX3_bestHalves 66 = .ok (.iload 4, 2) := by decide +kernel
theorem dX3_bestHalves_68 : decode cX3_bestHalves 68 = .ok (.if_icmp .ne 7, 3) := by decide +kernel
theorem dX3_bestHalves_71 : decode cX3_bestHalves 71 = .ok (.iconst 0, 1) := by decide +kernel
theorem dX3_bestHalves_72 : decode cX3_bestHalves 72 = .ok (.goto 13, 3) := by decide +kernel
theorem dX3_bestHalves_75 : decode cX3_bestHalves 75 = .ok (.aload_n 0, 1) := by decide +kernel
theorem dX3_bestHalves_76 : decode cX3_bestHalves 76 = .ok (.getfield 28, 3) := by decide +kernel
theorem dX3_bestHalves_79 : decode cX3_bestHalves 79 = .ok (.getfield 48, 3) := by decide +kernel
theorem dX3_bestHalves_82 : decode cX3_bestHalves 82 = .ok (.iload 4, 2) := by decide +kernel
theorem dX3_bestHalves_84 : decode cX3_bestHalves 84 = .ok (.iaload, 1) := by decide +kernel
theorem dX3_bestHalves_85 : decode cX3_bestHalves 85 = .ok (.iadd, 1) := by decide +kernel
theorem dX3_bestHalves_86 : decode cX3_bestHalves 86 = .ok (.istore 10, 2) := by decide +kernel
theorem dX3_bestHalves_88 : decode cX3_bestHalves 88 = .ok (.iload 9, 2) := by decide +kernel
theorem dX3_bestHalves_90 : decode cX3_bestHalves 90 = .ok (.ifCond .eq 10, 3) := by decide +kernel
theorem dX3_bestHalves_93 : decode cX3_bestHalves 93 = .ok (.iload 10, 2) := by decide +kernel
theorem dX3_bestHalves_95 : decode cX3_bestHalves 95 = .ok (.iload 8, 2) := by decide +kernel
theorem dX3_bestHalves_97 : decode cX3_bestHalves 97 = .ok (.if_icmp .le 11, 3) := by decide +kernel
theorem dX3_bestHalves_100 : decode cX3_bestHalves 100 = .ok (.iload 9, 2) := by decide +kernel
theorem dX3_bestHalves_102 : decode cX3_bestHalves 102 = .ok (.istore 7, 2) := by decide +kernel
theorem dX3_bestHalves_104 : decode cX3_bestHalves 104 = .ok (.iload 10, 2) := by decide +kernel
theorem dX3_bestHalves_106 : decode cX3_bestHalves 106 = .ok (.istore 8, 2) := by decide +kernel
theorem dX3_bestHalves_108 : decode cX3_bestHalves 108 = .ok (.iload 9, 2) := by decide +kernel
theorem dX3_bestHalves_110 : decode cX3_bestHalves 110 = .ok (.iload_n 2, 1) := by decide +kernel
theorem dX3_bestHalves_111 : decode cX3_bestHalves 111 = .ok (.if_icmp .ge 26, 3) := by decide +kernel
theorem dX3_bestHalves_114 : decode cX3_bestHalves 114 = .ok (.aload_n 0, 1) := by decide +kernel
theorem dX3_bestHalves_115 : decode cX3_bestHalves 115 = .ok (.getfield 28, 3) := by decide +kernel
theorem dX3_bestHalves_118 : decode cX3_bestHalves 118 = .ok (.iload 6, 2) := by decide +kernel
theorem dX3_bestHalves_120 : decode cX3_bestHalves 120 = .ok (.iload_n 3, 1) := by decide +kernel
theorem dX3_bestHalves_121 : decode cX3_bestHalves 121 = .ok (.iconst 1, 1) := by decide +kernel
theorem dX3_bestHalves_122 : decode cX3_bestHalves 122 = .ok (.invokevirtual 41, 3) := by decide +kernel
theorem dX3_bestHalves_125 : decode cX3_bestHalves 125 = .ok (.aload_n 0, 1) := by decide +kernel
theorem dX3_bestHalves_126 : decode cX3_bestHalves 126 = .ok (.getfield 28, 3) := by decide +kernel
theorem dX3_bestHalves_129 : decode cX3_bestHalves 129 = .ok (.iload 6, 2) := by decide +kernel
theorem dX3_bestHalves_131 : decode cX3_bestHalves 131 = .ok (.iload 4, 2) := by decide +kernel
theorem dX3_bestHalves_133 : decode cX3_bestHalves 133 = .ok (.iconst (-1), 1) := by decide +kernel
theorem dX3_bestHalves_134 : decode cX3_bestHalves 134 = .ok (.invokevirtual 41, 3) := by decide +kernel
theorem dX3_bestHalves_137 : decode cX3_bestHalves 137 = .ok (.iinc 9 1, 3) := by decide +kernel
theorem dX3_bestHalves_140 : decode cX3_bestHalves 140 = .ok (.goto (-97), 3) := by decide +kernel
theorem dX3_bestHalves_143 : decode cX3_bestHalves 143 = .ok (.iload 5, 2) := by decide +kernel
theorem dX3_bestHalves_145 : decode cX3_bestHalves 145 = .ok (.ifCond .ne 8, 3) := by decide +kernel
theorem dX3_bestHalves_148 : decode cX3_bestHalves 148 = .ok (.iload 7, 2) := by decide +kernel
theorem dX3_bestHalves_150 : decode cX3_bestHalves 150 = .ok (.goto 5, 3) := by decide +kernel
theorem dX3_bestHalves_153 : decode cX3_bestHalves 153 = .ok (.iload 8, 2) := by decide +kernel
theorem dX3_bestHalves_155 : decode cX3_bestHalves 155 = .ok (.ireturn, 1) := by decide +kernel
theorem dX3_setsPaid_0 : decode cX3_setsPaid 0 = .ok (.iconst 0, 1) := by decide +kernel
theorem dX3_setsPaid_1 : decode cX3_setsPaid 1 = .ok (.istore_n 3, 1) := by decide +kernel
theorem dX3_setsPaid_2 : decode cX3_setsPaid 2 = .ok (.iconst 0, 1) := by decide +kernel
theorem dX3_setsPaid_3 : decode cX3_setsPaid 3 = .ok (.istore 4, 2) := by decide +kernel
theorem dX3_setsPaid_5 : decode cX3_setsPaid 5 = .ok (.iconst 1, 1) := by decide +kernel
theorem dX3_setsPaid_6 : decode cX3_setsPaid 6 = .ok (.aload_n 0, 1) := by decide +kernel
theorem dX3_setsPaid_7 : decode cX3_setsPaid 7 = .ok (.getfield 25, 3) := by decide +kernel
theorem dX3_setsPaid_10 : decode cX3_setsPaid 10 = .ok (.getfield 57, 3) := by decide +kernel
theorem dX3_setsPaid_13 : decode cX3_setsPaid 13 = .ok (.ishl, 1) := by decide +kernel
theorem dX3_setsPaid_14 : decode cX3_setsPaid 14 = .ok (.iconst 1, 1) := by decide +kernel
theorem dX3_setsPaid_15 : decode cX3_setsPaid 15 = .ok (.isub, 1) := by decide +kernel
theorem dX3_setsPaid_16 : decode cX3_setsPaid 16 = .ok (.istore 5, 2) := by decide +kernel
theorem dX3_setsPaid_18 : decode cX3_setsPaid 18 = .ok (.aload_n 0, 1) := by decide +kernel
theorem dX3_setsPaid_19 : decode cX3_setsPaid 19 = .ok (.getfield 28, 3) := by decide +kernel
theorem dX3_setsPaid_22 : decode cX3_setsPaid 22 = .ok (.aload_n 0, 1) := by decide +kernel
theorem dX3_setsPaid_23 : decode cX3_setsPaid 23 = .ok (.getfield 25, 3) := by decide +kernel
theorem dX3_setsPaid_26 : decode cX3_setsPaid 26 = .ok (.invokevirtual 32, 3) := by decide +kernel
theorem dX3_setsPaid_29 : decode cX3_setsPaid 29 = .ok (.aload_n 0, 1) := by decide +kernel
theorem dX3_setsPaid_30 : decode cX3_setsPaid 30 = .ok (.getfield 28, 3) := by decide +kernel
theorem dX3_setsPaid_33 : decode cX3_setsPaid 33 = .ok (.invokevirtual 45, 3) := by decide +kernel
theorem dX3_setsPaid_36 : decode cX3_setsPaid 36 = .ok (.iconst 0, 1) := by decide +kernel
theorem dX3_setsPaid_37 : decode cX3_setsPaid 37 = .ok (.istore 6, 2) := by decide +kernel
theorem dX3_setsPaid_39 : decode cX3_setsPaid 39 = .ok (.iload 6, 2) := by decide +kernel
theorem dX3_setsPaid_41 : decode cX3_setsPaid 41 = .ok (.iconst 1, 1) := by decide +kernel
theorem dX3_setsPaid_42 : decode cX3_setsPaid 42 = .ok (.aload_n 0, 1) := by decide +kernel
theorem dX3_setsPaid_43 : decode cX3_setsPaid 43 = .ok (.getfield 25, 3) := by decide +kernel
theorem dX3_setsPaid_46 : decode cX3_setsPaid 46 = .ok (.getfield 57, 3) := by decide +kernel
theorem dX3_setsPaid_49 : decode cX3_setsPaid 49 = .ok (.ishl, 1) := by decide +kernel
theorem dX3_setsPaid_50 : decode cX3_setsPaid 50 = .ok (.if_icmp .ge 36, 3) := by decide +kernel
theorem dX3_setsPaid_53 : decode cX3_setsPaid 53 = .ok (.aload_n 0, 1) := by decide +kernel
theorem dX3_setsPaid_54 : decode cX3_setsPaid 54 = .ok (.iload 6, 2) := by decide +kernel
theorem dX3_setsPaid_56 : decode cX3_setsPaid 56 = .ok (.invokevirtual 84, 3) := by decide +kernel
theorem dX3_setsPaid_59 : decode cX3_setsPaid 59 = .ok (.iload_n 1, 1) := by decide +kernel
theorem dX3_setsPaid_60 : decode cX3_setsPaid 60 = .ok (.if_icmp .ne 20, 3) := by decide +kernel
theorem dX3_setsPaid_63 : decode cX3_setsPaid 63 = .ok (.iinc 3 1, 3) := by decide +kernel
theorem dX3_setsPaid_66 : decode cX3_setsPaid 66 = .ok (.iload 4, 2) := by decide +kernel
theorem dX3_setsPaid_68 : decode cX3_setsPaid 68 = .ok (.iload 6, 2) := by decide +kernel
theorem dX3_setsPaid_70 : decode cX3_setsPaid 70 = .ok (.ior, 1) := by decide +kernel
theorem dX3_setsPaid_71 : decode cX3_setsPaid 71 = .ok (.istore 4, 2) := by decide +kernel
theorem dX3_setsPaid_73 : decode cX3_setsPaid 73 = .ok (.iload 5, 2) := by decide +kernel
theorem dX3_setsPaid_75 : decode cX3_setsPaid 75 = .ok (.iload 6, 2) := by decide +kernel
theorem dX3_setsPaid_77 : decode cX3_setsPaid 77 = .ok (.iand, 1) := by decide +kernel
theorem dX3_setsPaid_78 : decode cX3_setsPaid 78 = .ok (.istore 5, 2) := by decide +kernel
theorem dX3_setsPaid_80 : decode cX3_setsPaid 80 = .ok (.iinc 6 1, 3) := by decide +kernel
theorem dX3_setsPaid_83 : decode cX3_setsPaid 83 = .ok (.goto (-44), 3) := by decide +kernel
theorem dX3_setsPaid_86 : decode cX3_setsPaid 86 = .ok (.iload_n 2, 1) := by decide +kernel
theorem dX3_setsPaid_87 : decode cX3_setsPaid 87 = .ok (.ifCond .ne 5, 3) := by decide +kernel
theorem dX3_setsPaid_90 : decode cX3_setsPaid 90 = .ok (.iload_n 3, 1) := by decide +kernel
theorem dX3_setsPaid_91 : decode cX3_setsPaid 91 = .ok (.ireturn, 1) := by decide +kernel
theorem dX3_setsPaid_92 : decode cX3_setsPaid 92 = .ok (.iload_n 2, 1) := by decide +kernel
theorem dX3_setsPaid_93 : decode cX3_setsPaid 93 = .ok (.iconst 2, 1) := by decide +kernel
theorem dX3_setsPaid_94 : decode cX3_setsPaid 94 = .ok (.if_icmp .ne 6, 3) := by decide +kernel
theorem dX3_setsPaid_97 : decode cX3_setsPaid 97 = .ok (.iload 4, 2) := by decide +kernel
theorem dX3_setsPaid_99 : decode cX3_setsPaid 99 = .ok (.ireturn, 1) := by decide +kernel
theorem dX3_setsPaid_100 : decode cX3_setsPaid 100 = .ok (.iload_n 3, 1) := by decide +kernel
theorem dX3_setsPaid_101 : decode cX3_setsPaid 101 = .ok (.ifCond .ne 7, 3) := by decide +kernel
theorem dX3_setsPaid_104 : decode cX3_setsPaid 104 = .ok (.iconst 0, 1) := by decide +kernel
theorem dX3_setsPaid_105 : decode cX3_setsPaid 105 = .ok (.goto 5, 3) := by decide +kernel
theorem dX3_setsPaid_108 : decode cX3_setsPaid 108 = .ok (.iload 5, 2) := by decide +kernel
theorem dX3_setsPaid_110 : decode cX3_setsPaid 110 = .ok (.ireturn, 1) := by decide +kernel
theorem dX3_paidTogether_0 : decode cX3_paidTogether 0 = .ok (.iconst 0, 1) := by decide +kernel
theorem dX3_paidTogether_1 : decode cX3_paidTogether 1 = .ok (.istore_n 2, 1) := by decide +kernel
theorem dX3_paidTogether_2 : decode cX3_paidTogether 2 = .ok (.iconst 0, 1) := by decide +kernel
theorem dX3_paidTogether_3 : decode cX3_paidTogether 3 = .ok (.istore_n 3, 1) := by decide +kernel
theorem dX3_paidTogether_4 : decode cX3_paidTogether 4 = .ok (.iload_n 3, 1) := by decide +kernel
theorem dX3_paidTogether_5 : decode cX3_paidTogether 5 = .ok (.aload_n 0, 1) := by decide +kernel
theorem dX3_paidTogether_6 : decode cX3_paidTogether 6 = .ok (.getfield 25, 3) := by decide +kernel
theorem dX3_paidTogether_9 : decode cX3_paidTogether 9 = .ok (.getfield 57, 3) := by decide +kernel
theorem dX3_paidTogether_12 : decode cX3_paidTogether 12 = .ok (.if_icmp .ge 27, 3) := by decide +kernel
theorem dX3_paidTogether_15 : decode cX3_paidTogether 15 = .ok (.iload_n 2, 1) := by decide +kernel
theorem dX3_paidTogether_16 : decode cX3_paidTogether 16 = .ok (.iload_n 1, 1) := by decide +kernel
theorem dX3_paidTogether_17 : decode cX3_paidTogether 17 = .ok (.iload_n 3, 1) := by decide +kernel
theorem dX3_paidTogether_18 : decode cX3_paidTogether 18 = .ok (.ishr, 1) := by decide +kernel
theorem dX3_paidTogether_19 : decode cX3_paidTogether 19 = .ok (.iconst 1, 1) := by decide +kernel
theorem dX3_paidTogether_20 : decode cX3_paidTogether 20 = .ok (.iand, 1) := by decide +kernel
theorem dX3_paidTogether_21 : decode cX3_paidTogether 21 = .ok (.aload_n 0, 1) := by decide +kernel
theorem dX3_paidTogether_22 : decode cX3_paidTogether 22 = .ok (.getfield 28, 3) := by decide +kernel
theorem dX3_paidTogether_25 : decode cX3_paidTogether 25 = .ok (.getfield 48, 3) := by decide +kernel
theorem dX3_paidTogether_28 : decode cX3_paidTogether 28 = .ok (.iload_n 3, 1) := by decide +kernel
theorem dX3_paidTogether_29 : decode cX3_paidTogether 29 = .ok (.iaload, 1) := by decide +kernel
theorem dX3_paidTogether_30 : decode cX3_paidTogether 30 = .ok (.imul, 1) := by decide +kernel
theorem dX3_paidTogether_31 : decode cX3_paidTogether 31 = .ok (.iadd, 1) := by decide +kernel
theorem dX3_paidTogether_32 : decode cX3_paidTogether 32 = .ok (.istore_n 2, 1) := by decide +kernel
theorem dX3_paidTogether_33 : decode cX3_paidTogether 33 = .ok (.iinc 3 1, 3) := by decide +kernel
theorem dX3_paidTogether_36 : decode cX3_paidTogether 36 = .ok (.goto (-32), 3) := by decide +kernel
theorem dX3_paidTogether_39 : decode cX3_paidTogether 39 = .ok (.iload_n 2, 1) := by decide +kernel
theorem dX3_paidTogether_40 : decode cX3_paidTogether 40 = .ok (.ireturn, 1) := by decide +kernel
theorem dX3_outcomeOfTurns_0 : decode cX3_outcomeOfTurns 0 = .ok (.aload_n 0, 1) := by decide +kernel
theorem dX3_outcomeOfTurns_1 : decode cX3_outcomeOfTurns 1 = .ok (.getfield 28, 3) := by decide +kernel
theorem dX3_outcomeOfTurns_4 : decode cX3_outcomeOfTurns 4 = .ok (.aload_n 0, 1) := by decide +kernel
theorem dX3_outcomeOfTurns_5 : decode cX3_outcomeOfTurns 5 = .ok (.getfield 25, 3) := by decide +kernel
theorem dX3_outcomeOfTurns_8 : decode cX3_outcomeOfTurns 8 = .ok (.invokevirtual 32, 3) := by decide +kernel
theorem dX3_outcomeOfTurns_11 : decode cX3_outcomeOfTurns 11 = .ok (.aload_n 0, 1) := by decide +kernel
theorem dX3_outcomeOfTurns_12 : decode cX3_outcomeOfTurns 12 = .ok (.aload_n 0, 1) := by decide +kernel
theorem dX3_outcomeOfTurns_13 : decode cX3_outcomeOfTurns 13 = .ok (.getfield 25, 3) := by decide +kernel
theorem dX3_outcomeOfTurns_16 : decode cX3_outcomeOfTurns 16 = .ok (.getfield 38, 3) := by decide +kernel
theorem dX3_outcomeOfTurns_19 : decode cX3_outcomeOfTurns 19 = .ok (.iload_n 1, 1) := by decide +kernel
theorem dX3_outcomeOfTurns_20 : decode cX3_outcomeOfTurns 20 = .ok (.iaload, 1) := by decide +kernel
theorem dX3_outcomeOfTurns_21 : decode cX3_outcomeOfTurns 21 = .ok (.aload_n 0, 1) := by decide +kernel
theorem dX3_outcomeOfTurns_22 : decode cX3_outcomeOfTurns 22 = .ok (.getfield 25, 3) := by decide +kernel
theorem dX3_outcomeOfTurns_25 : decode cX3_outcomeOfTurns 25 = .ok (.getfield 38, 3) := by decide +kernel
theorem dX3_outcomeOfTurns_28 : decode cX3_outcomeOfTurns 28 = .ok (.iload_n 2, 1) := by decide +kernel
theorem dX3_outcomeOfTurns_29 : decode cX3_outcomeOfTurns 29 = .ok (.iaload, 1) := by decide +kernel
theorem dX3_outcomeOfTurns_30 : decode cX3_outcomeOfTurns 30 = .ok (.iload_n 3, 1) := by decide +kernel
theorem dX3_outcomeOfTurns_31 : decode cX3_outcomeOfTurns 31 = .ok (.iload 4, 2) := by decide +kernel
theorem dX3_outcomeOfTurns_33 : decode cX3_outcomeOfTurns 33 = .ok (.iconst 1, 1) := by decide +kernel
theorem dX3_outcomeOfTurns_34 : decode cX3_outcomeOfTurns 34 = .ok (.invokevirtual 87, 3) := by decide +kernel
theorem dX3_outcomeOfTurns_37 : decode cX3_outcomeOfTurns 37 = .ok (.ireturn, 1) := by decide +kernel
theorem dX3_turnsFrom_0 : decode cX3_turnsFrom 0 = .ok (.aload_n 0, 1) := by decide +kernel
theorem dX3_turnsFrom_1 : decode cX3_turnsFrom 1 = .ok (.getfield 25, 3) := by decide +kernel
theorem dX3_turnsFrom_4 : decode cX3_turnsFrom 4 = .ok (.getfield 57, 3) := by decide +kernel
theorem dX3_turnsFrom_7 : decode cX3_turnsFrom 7 = .ok (.iconst 1, 1) := by decide +kernel
theorem dX3_turnsFrom_8 : decode cX3_turnsFrom 8 = .ok (.isub, 1) := by decide +kernel
theorem dX3_turnsFrom_9 : decode cX3_turnsFrom 9 = .ok (.istore 6, 2) := by decide +kernel
theorem dX3_turnsFrom_11 : decode cX3_turnsFrom 11 = .ok (.iload_n 3, 1) := by decide +kernel
theorem dX3_turnsFrom_12 : decode cX3_turnsFrom 12 = .ok (.ifCond .le 8, 3) := by decide +kernel
theorem dX3_turnsFrom_15 : decode cX3_turnsFrom 15 = .ok (.iload_n 3, 1) := by decide +kernel
theorem dX3_turnsFrom_16 : decode cX3_turnsFrom 16 = .ok (.iconst 4, 1) := by decide +kernel
theorem dX3_turnsFrom_17 : decode cX3_turnsFrom 17 = .ok (.if_icmp .le 31, 3) := by decide +kernel
theorem dX3_turnsFrom_20 : decode cX3_turnsFrom 20 = .ok (.aload_n 0, 1) := by decide +kernel
theorem dX3_turnsFrom_21 : decode cX3_turnsFrom 21 = .ok (.getfield 28, 3) := by decide +kernel
theorem dX3_turnsFrom_24 : decode cX3_turnsFrom 24 = .ok (.invokevirtual 45, 3) := by decide +kernel
theorem dX3_turnsFrom_27 : decode cX3_turnsFrom 27 = .ok (.aload_n 0, 1) := by decide +kernel
theorem dX3_turnsFrom_28 : decode cX3_turnsFrom 28 = .ok (.getfield 28, 3) := by decide +kernel
theorem dX3_turnsFrom_31 : decode cX3_turnsFrom 31 = .ok (.getfield 48, 3) := by decide +kernel
theorem dX3_turnsFrom_34 : decode cX3_turnsFrom 34 = .ok (.iconst 0, 1) := by decide +kernel
theorem dX3_turnsFrom_35 : decode cX3_turnsFrom 35 = .ok (.iaload, 1) := by decide +kernel
theorem dX3_turnsFrom_36 : decode cX3_turnsFrom 36 = .ok (.aload_n 0, 1) := by decide +kernel
theorem dX3_turnsFrom_37 : decode cX3_turnsFrom 37 = .ok (.getfield 28, 3) := by decide +kernel
theorem dX3_turnsFrom_40 : decode cX3_turnsFrom 40 = .ok (.getfield 48, 3) := by decide +kernel
theorem dX3_turnsFrom_43 : decode cX3_turnsFrom 43 = .ok (.iload 6, 2) := by decide +kernel
theorem dX3_turnsFrom_45 : decode cX3_turnsFrom 45 = .ok (.iaload, 1) := by decide +kernel
theorem dX3_turnsFrom_46 : decode cX3_turnsFrom 46 = .ok (.isub, 1) := by decide +kernel
theorem dX3_turnsFrom_47 : decode cX3_turnsFrom 47 = .ok (.ireturn, 1) := by decide +kernel
theorem dX3_turnsFrom_48 : decode cX3_turnsFrom 48 = .ok (.aload_n 0, 1) := by decide +kernel
theorem dX3_turnsFrom_49 : decode cX3_turnsFrom 49 = .ok (.iload_n 2, 1) := by decide +kernel
theorem dX3_turnsFrom_50 : decode cX3_turnsFrom 50 = .ok (.iload_n 1, 1) := by decide +kernel
theorem dX3_turnsFrom_51 : decode cX3_turnsFrom 51 = .ok (.iload_n 3, 1) := by decide +kernel
theorem dX3_turnsFrom_52 : decode cX3_turnsFrom 52 = .ok (.iconst 1, 1) := by decide +kernel
theorem dX3_turnsFrom_53 : decode cX3_turnsFrom 53 = .ok (.isub, 1) := by decide +kernel
theorem dX3_turnsFrom_54 : decode cX3_turnsFrom 54 = .ok (.iload 4, 2) := by decide +kernel
theorem dX3_turnsFrom_56 : decode cX3_turnsFrom 56 = .ok (.iload 5, 2) := by decide +kernel
theorem dX3_turnsFrom_58 : decode cX3_turnsFrom 58 = .ok (.ifCond .ne 7, 3) := by decide +kernel
theorem dX3_turnsFrom_61 : decode cX3_turnsFrom 61 = .ok (.iconst 1, 1) := by decide +kernel
theorem dX3_turnsFrom_62 : decode cX3_turnsFrom 62 = .ok (.goto 4, 3) := by decide +kernel
theorem dX3_turnsFrom_65 : decode cX3_turnsFrom 65 = .ok (.iconst 0, 1) := by decide +kernel
theorem dX3_turnsFrom_66 : decode cX3_turnsFrom 66 = .ok (.invokevirtual 87, 3) := by decide +kernel
theorem dX3_turnsFrom_69 : decode cX3_turnsFrom 69 = .ok (.istore 7, 2) := by decide +kernel
theorem dX3_turnsFrom_71 : decode cX3_turnsFrom 71 = .ok (.aload_n 0, 1) := by decide +kernel
theorem dX3_turnsFrom_72 : decode cX3_turnsFrom 72 = .ok (.getfield 28, 3) := by decide +kernel
theorem dX3_turnsFrom_75 : decode cX3_turnsFrom 75 = .ok (.iload_n 1, 1) := by decide +kernel
theorem dX3_turnsFrom_76 : decode cX3_turnsFrom 76 = .ok (.iconst 0, 1) := by decide +kernel
theorem dX3_turnsFrom_77 : decode cX3_turnsFrom 77 = .ok (.iload 4, 2) := by decide +kernel
theorem dX3_turnsFrom_79 : decode cX3_turnsFrom 79 = .ok (.invokevirtual 41, 3) := by decide +kernel
theorem dX3_turnsFrom_82 : decode cX3_turnsFrom 82 = .ok (.aload_n 0, 1) := by decide +kernel
theorem dX3_turnsFrom_83 : decode cX3_turnsFrom 83 = .ok (.iload_n 2, 1) := by decide +kernel
theorem dX3_turnsFrom_84 : decode cX3_turnsFrom 84 = .ok (.iload_n 1, 1) := by decide +kernel
theorem dX3_turnsFrom_85 : decode cX3_turnsFrom 85 = .ok (.iload_n 3, 1) := by decide +kernel
theorem dX3_turnsFrom_86 : decode cX3_turnsFrom 86 = .ok (.iconst 1, 1) := by decide +kernel
theorem dX3_turnsFrom_87 : decode cX3_turnsFrom 87 = .ok (.isub, 1) := by decide +kernel
theorem dX3_turnsFrom_88 : decode cX3_turnsFrom 88 = .ok (.iload 4, 2) := by decide +kernel
theorem dX3_turnsFrom_90 : decode cX3_turnsFrom 90 = .ok (.iload 5, 2) := by decide +kernel
theorem dX3_turnsFrom_92 : decode cX3_turnsFrom 92 = .ok (.ifCond .ne 7, 3) := by decide +kernel
theorem dX3_turnsFrom_95 : decode cX3_turnsFrom 95 = .ok (.iconst 1, 1) := by decide +kernel
theorem dX3_turnsFrom_96 : decode cX3_turnsFrom 96 = .ok (.goto 4, 3) := by decide +kernel
theorem dX3_turnsFrom_99 : decode cX3_turnsFrom 99 = .ok (.iconst 0, 1) := by decide +kernel
theorem dX3_turnsFrom_100 : decode cX3_turnsFrom 100 = .ok (.invokevirtual 87, 3) := by decide +kernel
theorem dX3_turnsFrom_103 : decode cX3_turnsFrom 103 = .ok (.istore 8, 2) := by decide +kernel
theorem dX3_turnsFrom_105 : decode cX3_turnsFrom 105 = .ok (.aload_n 0, 1) := by decide +kernel
theorem dX3_turnsFrom_106 : decode cX3_turnsFrom 106 = .ok (.getfield 28, 3) := by decide +kernel
theorem dX3_turnsFrom_109 : decode cX3_turnsFrom 109 = .ok (.iload_n 1, 1) := by decide +kernel
theorem dX3_turnsFrom_110 : decode cX3_turnsFrom 110 = .ok (.iconst 0, 1) := by decide +kernel
theorem dX3_turnsFrom_111 : decode cX3_turnsFrom 111 = .ok (.iload 4, 2) := by decide +kernel
theorem dX3_turnsFrom_113 : decode cX3_turnsFrom 113 = .ok (.ineg, 1) := by decide +kernel
theorem dX3_turnsFrom_114 : decode cX3_turnsFrom 114 = .ok (.invokevirtual 41, 3) := by decide +kernel
theorem dX3_turnsFrom_117 : decode cX3_turnsFrom 117 = .ok (.aload_n 0, 1) := by decide +kernel
theorem dX3_turnsFrom_118 : decode cX3_turnsFrom 118 = .ok (.getfield 28, 3) := by decide +kernel
theorem dX3_turnsFrom_121 : decode cX3_turnsFrom 121 = .ok (.iload_n 1, 1) := by decide +kernel
theorem dX3_turnsFrom_122 : decode cX3_turnsFrom 122 = .ok (.iload 6, 2) := by decide +kernel
theorem dX3_turnsFrom_124 : decode cX3_turnsFrom 124 = .ok (.iload 4, 2) := by decide +kernel
theorem dX3_turnsFrom_126 : decode cX3_turnsFrom 126 = .ok (.invokevirtual 41, 3) := by decide +kernel
theorem dX3_turnsFrom_129 : decode cX3_turnsFrom 129 = .ok (.aload_n 0, 1) := by decide +kernel
theorem dX3_turnsFrom_130 : decode cX3_turnsFrom 130 = .ok (.iload_n 2, 1) := by decide +kernel
theorem dX3_turnsFrom_131 : decode cX3_turnsFrom 131 = .ok (.iload_n 1, 1) := by decide +kernel
theorem dX3_turnsFrom_132 : decode cX3_turnsFrom 132 = .ok (.iload_n 3, 1) := by decide +kernel
theorem dX3_turnsFrom_133 : decode cX3_turnsFrom 133 = .ok (.iconst 1, 1) := by decide +kernel
theorem dX3_turnsFrom_134 : decode cX3_turnsFrom 134 = .ok (.isub, 1) := by decide +kernel
theorem dX3_turnsFrom_135 : decode cX3_turnsFrom 135 = .ok (.iload 4, 2) := by decide +kernel
theorem dX3_turnsFrom_137 : decode cX3_turnsFrom 137 = .ok (.iload 5, 2) := by decide +kernel
theorem dX3_turnsFrom_139 : decode cX3_turnsFrom 139 = .ok (.ifCond .ne 7, 3) := by decide +kernel
theorem dX3_turnsFrom_142 : decode cX3_turnsFrom 142 = .ok (.iconst 1, 1) := by decide +kernel
theorem dX3_turnsFrom_143 : decode cX3_turnsFrom 143 = .ok (.goto 4, 3) := by decide +kernel
theorem dX3_turnsFrom_146 : decode cX3_turnsFrom 146 = .ok (.iconst 0, 1) := by decide +kernel
theorem dX3_turnsFrom_147 : decode cX3_turnsFrom 147 = .ok (.invokevirtual 87, 3) := by decide +kernel
theorem dX3_turnsFrom_150 : decode cX3_turnsFrom 150 = .ok (.istore 9, 2) := by decide +kernel
theorem dX3_turnsFrom_152 : decode cX3_turnsFrom 152 = .ok (.aload_n 0, 1) := by decide +kernel
theorem dX3_turnsFrom_153 : decode cX3_turnsFrom 153 = .ok (.getfield 28, 3) := by decide +kernel
theorem dX3_turnsFrom_156 : decode cX3_turnsFrom 156 = .ok (.iload_n 1, 1) := by decide +kernel
theorem dX3_turnsFrom_157 : decode cX3_turnsFrom 157 = .ok (.iload 6, 2) := by decide +kernel
theorem dX3_turnsFrom_159 : decode cX3_turnsFrom 159 = .ok (.iload 4, 2) := by decide +kernel
theorem dX3_turnsFrom_161 : decode cX3_turnsFrom 161 = .ok (.ineg, 1) := by decide +kernel
theorem dX3_turnsFrom_162 : decode cX3_turnsFrom 162 = .ok (.invokevirtual 41, 3) := by decide +kernel
theorem dX3_turnsFrom_165 : decode cX3_turnsFrom 165 = .ok (.iload 5, 2) := by decide +kernel
theorem dX3_turnsFrom_167 : decode cX3_turnsFrom 167 = .ok (.ifCond .eq 18, 3) := by decide +kernel
theorem dX3_turnsFrom_170 : decode cX3_turnsFrom 170 = .ok (.iload 7, 2) := by decide +kernel
theorem dX3_turnsFrom_172 : decode cX3_turnsFrom 172 = .ok (.iload 8, 2) := by decide +kernel
theorem dX3_turnsFrom_174 : decode cX3_turnsFrom 174 = .ok (.iload 9, 2) := by decide +kernel
theorem dX3_turnsFrom_176 : decode cX3_turnsFrom 176 = .ok (.invokestatic 91, 3) := by decide +kernel
theorem dX3_turnsFrom_179 : decode cX3_turnsFrom 179 = .ok (.invokestatic 91, 3) := by decide +kernel
theorem dX3_turnsFrom_182 : decode cX3_turnsFrom 182 = .ok (.goto 15, 3) := by decide +kernel
theorem dX3_turnsFrom_185 : decode cX3_turnsFrom 185 = .ok (.iload 7, 2) := by decide +kernel
theorem dX3_turnsFrom_187 : decode cX3_turnsFrom 187 = .ok (.iload 8, 2) := by decide +kernel
theorem dX3_turnsFrom_189 : decode cX3_turnsFrom 189 = .ok (.iload 9, 2) := by decide +kernel
theorem dX3_turnsFrom_191 : decode cX3_turnsFrom 191 = .ok (.invokestatic 96, 3) := by decide +kernel
theorem dX3_turnsFrom_194 : decode cX3_turnsFrom 194 = .ok (.invokestatic 96, 3) := by decide +kernel
theorem dX3_turnsFrom_197 : decode cX3_turnsFrom 197 = .ok (.ireturn, 1) := by decide +kernel
theorem dX3_expect_0 : decode cX3_expect 0 = .ok (.iconst 0, 1) := by decide +kernel
theorem dX3_expect_1 : decode cX3_expect 1 = .ok (.istore 4, 2) := by decide +kernel
theorem dX3_expect_3 : decode cX3_expect 3 = .ok (.iload 4, 2) := by decide +kernel
theorem dX3_expect_5 : decode cX3_expect 5 = .ok (.aload_n 0, 1) := by decide +kernel
theorem dX3_expect_6 : decode cX3_expect 6 = .ok (.getfield 25, 3) := by decide +kernel
theorem dX3_expect_9 : decode cX3_expect 9 = .ok (.getfield 57, 3) := by decide +kernel
theorem dX3_expect_12 : decode cX3_expect 12 = .ok (.if_icmp .ge 25, 3) := by decide +kernel
theorem dX3_expect_15 : decode cX3_expect 15 = .ok (.aload_n 0, 1) := by decide +kernel
theorem dX3_expect_16 : decode cX3_expect 16 = .ok (.getfield 22, 3) := by decide +kernel
theorem dX3_expect_19 : decode cX3_expect 19 = .ok (.iload 4, 2) := by decide +kernel
theorem dX3_expect_21 : decode cX3_expect 21 = .ok (.aload_n 1, 1) := by decide +kernel
theorem dX3_expect_22 : decode cX3_expect 22 = .ok (.iload_n 2, 1) := by decide +kernel
theorem dX3_expect_23 : decode cX3_expect 23 = .ok (.iload_n 3, 1) := by decide +kernel
theorem dX3_expect_24 : decode cX3_expect 24 = .ok (.iload 4, 2) := by decide +kernel
theorem dX3_expect_26 : decode cX3_expect 26 = .ok (.iadd, 1) := by decide +kernel
theorem dX3_expect_27 : decode cX3_expect 27 = .ok (.invokevirtual 99, 3) := by decide +kernel
theorem dX3_expect_30 : decode cX3_expect 30 = .ok (.iastore, 1) := by decide +kernel
theorem dX3_expect_31 : decode cX3_expect 31 = .ok (.iinc 4 1, 3) := by decide +kernel
theorem dX3_expect_34 : decode cX3_expect 34 = .ok (.goto (-31), 3) := by decide +kernel
theorem dX3_expect_37 : decode cX3_expect 37 = .ok (.return_, 1) := by decide +kernel
theorem dX3_isAsExpected_0 : decode cX3_isAsExpected 0 = .ok (.iconst 0, 1) := by decide +kernel
theorem dX3_isAsExpected_1 : decode cX3_isAsExpected 1 = .ok (.istore_n 1, 1) := by decide +kernel
theorem dX3_isAsExpected_2 : decode cX3_isAsExpected 2 = .ok (.iload_n 1, 1) := by decide +kernel
theorem dX3_isAsExpected_3 : decode cX3_isAsExpected 3 = .ok (.aload_n 0, 1) := by decide +kernel
theorem dX3_isAsExpected_4 : decode cX3_isAsExpected 4 = .ok (.getfield 25, 3) := by decide +kernel
theorem dX3_isAsExpected_7 : decode cX3_isAsExpected 7 = .ok (.getfield 57, 3) := by decide +kernel
theorem dX3_isAsExpected_10 : decode cX3_isAsExpected 10 = .ok (.if_icmp .ge 29, 3) := by decide +kernel
theorem dX3_isAsExpected_13 : decode cX3_isAsExpected 13 = .ok (.aload_n 0, 1) := by decide +kernel
theorem dX3_isAsExpected_14 : decode cX3_isAsExpected 14 = .ok (.getfield 28, 3) := by decide +kernel
theorem dX3_isAsExpected_17 : decode cX3_isAsExpected 17 = .ok (.getfield 48, 3) := by decide +kernel
theorem dX3_isAsExpected_20 : decode cX3_isAsExpected 20 = .ok (.iload_n 1, 1) := by decide +kernel
theorem dX3_isAsExpected_21 : decode cX3_isAsExpected 21 = .ok (.iaload, 1) := by decide +kernel
theorem dX3_isAsExpected_22 : decode cX3_isAsExpected 22 = .ok (.aload_n 0, 1) := by decide +kernel
theorem dX3_isAsExpected_23 : decode cX3_isAsExpected 23 = .ok (.getfield 22, 3) := by decide +kernel
theorem dX3_isAsExpected_26 : decode cX3_isAsExpected 26 = .ok (.iload_n 1, 1) := by decide +kernel
theorem dX3_isAsExpected_27 : decode cX3_isAsExpected 27 = .ok (.iaload, 1) := by decide +kernel
theorem dX3_isAsExpected_28 : decode cX3_isAsExpected 28 = .ok (.if_icmp .eq 5, 3) := by decide +kernel
theorem dX3_isAsExpected_31 : decode cX3_isAsExpected 31 = .ok (.iconst 0, 1) := by decide +kernel
theorem dX3_isAsExpected_32 : decode cX3_isAsExpected 32 = .ok (.ireturn, 1) := by decide +kernel
theorem dX3_isAsExpected_33 : decode cX3_isAsExpected 33 = .ok (.iinc 1 1, 3) := by decide +kernel
theorem dX3_isAsExpected_36 : decode cX3_isAsExpected 36 = .ok (.goto (-34), 3) := by decide +kernel
theorem dX3_isAsExpected_39 : decode cX3_isAsExpected 39 = .ok (.iconst 1, 1) := by decide +kernel
theorem dX3_isAsExpected_40 : decode cX3_isAsExpected 40 = .ok (.ireturn, 1) := by decide +kernel
theorem dX3_fittingPots_0 : decode cX3_fittingPots 0 = .ok (.iconst 0, 1) := by decide +kernel
theorem dX3_fittingPots_1 : decode cX3_fittingPots 1 = .ok (.istore_n 2, 1) := by decide +kernel
theorem dX3_fittingPots_2 : decode cX3_fittingPots 2 = .ok (.aload_n 0, 1) := by decide +kernel
theorem dX3_fittingPots_3 : decode cX3_fittingPots 3 = .ok (.getfield 28, 3) := by decide +kernel
theorem dX3_fittingPots_6 : decode cX3_fittingPots 6 = .ok (.aload_n 0, 1) := by decide +kernel
theorem dX3_fittingPots_7 : decode cX3_fittingPots 7 = .ok (.getfield 25, 3) := by decide +kernel
theorem dX3_fittingPots_10 : decode cX3_fittingPots 10 = .ok (.invokevirtual 32, 3) := by decide +kernel
theorem dX3_fittingPots_13 : decode cX3_fittingPots 13 = .ok (.aload_n 0, 1) := by decide +kernel
theorem dX3_fittingPots_14 : decode cX3_fittingPots 14 = .ok (.getfield 28, 3) := by decide +kernel
theorem dX3_fittingPots_17 : decode cX3_fittingPots 17 = .ok (.invokevirtual 45, 3) := by decide +kernel
theorem dX3_fittingPots_20 : decode cX3_fittingPots 20 = .ok (.iconst 0, 1) := by decide +kernel
theorem dX3_fittingPots_21 : decode cX3_fittingPots 21 = .ok (.istore_n 3, 1) := by decide +kernel
theorem dX3_fittingPots_22 : decode cX3_fittingPots 22 = .ok (.iload_n 3, 1) := by decide +kernel
theorem dX3_fittingPots_23 : decode cX3_fittingPots 23 = .ok (.sipush 999, 3) := by decide +kernel
theorem dX3_fittingPots_26 : decode cX3_fittingPots 26 = .ok (.if_icmp .gt 33, 3) := by decide +kernel
theorem dX3_fittingPots_29 : decode cX3_fittingPots 29 = .ok (.aload_n 0, 1) := by decide +kernel
theorem dX3_fittingPots_30 : decode cX3_fittingPots 30 = .ok (.getfield 28, 3) := by decide +kernel
theorem dX3_fittingPots_33 : decode cX3_fittingPots 33 = .ok (.iload_n 3, 1) := by decide +kernel
theorem dX3_fittingPots_34 : decode cX3_fittingPots 34 = .ok (.invokevirtual 104, 3) := by decide +kernel
theorem dX3_fittingPots_37 : decode cX3_fittingPots 37 = .ok (.aload_n 0, 1) := by decide +kernel
theorem dX3_fittingPots_38 : decode cX3_fittingPots 38 = .ok (.invokevirtual 107, 3) := by decide +kernel
theorem dX3_fittingPots_41 : decode cX3_fittingPots 41 = .ok (.ifCond .eq 12, 3) := by decide +kernel
theorem dX3_fittingPots_44 : decode cX3_fittingPots 44 = .ok (.iload_n 1, 1) := by decide +kernel
theorem dX3_fittingPots_45 : decode cX3_fittingPots 45 = .ok (.ifCond .eq 5, 3) := by decide +kernel
theorem dX3_fittingPots_48 : decode cX3_fittingPots 48 = .ok (.iload_n 3, 1) := by decide +kernel
theorem dX3_fittingPots_49 : decode cX3_fittingPots 49 = .ok (.ireturn, 1) := by decide +kernel
theorem dX3_fittingPots_50 : decode cX3_fittingPots 50 = .ok (.iinc 2 1, 3) := by decide +kernel
theorem dX3_fittingPots_53 : decode cX3_fittingPots 53 = .ok (.iinc 3 1, 3) := by decide +kernel
theorem dX3_fittingPots_56 : decode cX3_fittingPots 56 = .ok (.goto (-34), 3) := by decide +kernel
theorem dX3_fittingPots_59 : decode cX3_fittingPots 59 = .ok (.iload_n 1, 1) := by decide +kernel
theorem dX3_fittingPots_60 : decode cX3_fittingPots 60 = .ok (.ifCond .eq 8, 3) := by decide +kernel
theorem dX3_fittingPots_63 : decode cX3_fittingPots 63 = .ok (.ldc 65, 2) := by decide +kernel
theorem dX3_fittingPots_65 : decode cX3_fittingPots 65 = .ok (.goto 4, 3) := by decide +kernel
theorem dX3_fittingPots_68 : decode cX3_fittingPots 68 = .ok (.iload_n 2, 1) := by decide +kernel
theorem dX3_fittingPots_69 : decode cX3_fittingPots 69 = .ok (.ireturn, 1) := by decide +kernel
theorem dX3_fittingKinds_0 : decode cX3_fittingKinds 0 = .ok (.iconst 0, 1) := by decide +kernel
theorem dX3_fittingKinds_1 : decode cX3_fittingKinds 1 = .ok (.istore_n 2, 1) := by decide +kernel
theorem dX3_fittingKinds_2 : decode cX3_fittingKinds 2 = .ok (.aload_n 0, 1) := by decide +kernel
theorem dX3_fittingKinds_3 : decode cX3_fittingKinds 3 = .ok (.getfield 28, 3) := by decide +kernel
theorem dX3_fittingKinds_6 : decode cX3_fittingKinds 6 = .ok (.aload_n 0, 1) := by decide +kernel
theorem dX3_fittingKinds_7 : decode cX3_fittingKinds 7 = .ok (.getfield 25, 3) := by decide +kernel
theorem dX3_fittingKinds_10 : decode cX3_fittingKinds 10 = .ok (.invokevirtual 32, 3) := by decide +kernel
theorem dX3_fittingKinds_13 : decode cX3_fittingKinds 13 = .ok (.iconst 1, 1) := by decide +kernel
theorem dX3_fittingKinds_14 : decode cX3_fittingKinds 14 = .ok (.istore_n 3, 1) := by decide +kernel
theorem dX3_fittingKinds_15 : decode cX3_fittingKinds 15 = .ok (.iload_n 3, 1) := by decide +kernel
theorem dX3_fittingKinds_16 : decode cX3_fittingKinds 16 = .ok (.iconst 5, 1) := by decide +kernel
theorem dX3_fittingKinds_17 : decode cX3_fittingKinds 17 = .ok (.if_icmp .gt 39, 3) := by decide +kernel
theorem dX3_fittingKinds_20 : decode cX3_fittingKinds 20 = .ok (.aload_n 0, 1) := by decide +kernel
theorem dX3_fittingKinds_21 : decode cX3_fittingKinds 21 = .ok (.getfield 28, 3) := by decide +kernel
theorem dX3_fittingKinds_24 : decode cX3_fittingKinds 24 = .ok (.getfield 111, 3) := by decide +kernel
theorem dX3_fittingKinds_27 : decode cX3_fittingKinds 27 = .ok (.iload_n 1, 1) := by decide +kernel
theorem dX3_fittingKinds_28 : decode cX3_fittingKinds 28 = .ok (.iload_n 3, 1) := by decide +kernel
theorem dX3_fittingKinds_29 : decode cX3_fittingKinds 29 = .ok (.iastore, 1) := by decide +kernel
theorem dX3_fittingKinds_30 : decode cX3_fittingKinds 30 = .ok (.aload_n 0, 1) := by decide +kernel
theorem dX3_fittingKinds_31 : decode cX3_fittingKinds 31 = .ok (.getfield 28, 3) := by decide +kernel
theorem dX3_fittingKinds_34 : decode cX3_fittingKinds 34 = .ok (.invokevirtual 45, 3) := by decide +kernel
theorem dX3_fittingKinds_37 : decode cX3_fittingKinds 37 = .ok (.aload_n 0, 1) := by decide +kernel
theorem dX3_fittingKinds_38 : decode cX3_fittingKinds 38 = .ok (.invokevirtual 107, 3) := by decide +kernel
theorem dX3_fittingKinds_41 : decode cX3_fittingKinds 41 = .ok (.ifCond .eq 9, 3) := by decide +kernel
theorem dX3_fittingKinds_44 : decode cX3_fittingKinds 44 = .ok (.iload_n 2, 1) := by decide +kernel
theorem dX3_fittingKinds_45 : decode cX3_fittingKinds 45 = .ok (.iconst 1, 1) := by decide +kernel
theorem dX3_fittingKinds_46 : decode cX3_fittingKinds 46 = .ok (.iload_n 3, 1) := by decide +kernel
theorem dX3_fittingKinds_47 : decode cX3_fittingKinds 47 = .ok (.ishl, 1) := by decide +kernel
theorem dX3_fittingKinds_48 : decode cX3_fittingKinds 48 = .ok (.ior, 1) := by decide +kernel
theorem dX3_fittingKinds_49 : decode cX3_fittingKinds 49 = .ok (.istore_n 2, 1) := by decide +kernel
theorem dX3_fittingKinds_50 : decode cX3_fittingKinds 50 = .ok (.iinc 3 1, 3) := by decide +kernel
theorem dX3_fittingKinds_53 : decode cX3_fittingKinds 53 = .ok (.goto (-38), 3) := by decide +kernel
theorem dX3_fittingKinds_56 : decode cX3_fittingKinds 56 = .ok (.iload_n 2, 1) := by decide +kernel
theorem dX3_fittingKinds_57 : decode cX3_fittingKinds 57 = .ok (.ireturn, 1) := by decide +kernel
theorem dX3_fittingCoins_0 : decode cX3_fittingCoins 0 = .ok (.iconst 0, 1) := by decide +kernel
theorem dX3_fittingCoins_1 : decode cX3_fittingCoins 1 = .ok (.istore_n 3, 1) := by decide +kernel
theorem dX3_fittingCoins_2 : decode cX3_fittingCoins 2 = .ok (.aload_n 0, 1) := by decide +kernel
theorem dX3_fittingCoins_3 : decode cX3_fittingCoins 3 = .ok (.getfield 25, 3) := by decide +kernel
theorem dX3_fittingCoins_6 : decode cX3_fittingCoins 6 = .ok (.getfield 38, 3) := by decide +kernel
theorem dX3_fittingCoins_9 : decode cX3_fittingCoins 9 = .ok (.aload_n 0, 1) := by decide +kernel
theorem dX3_fittingCoins_10 : decode cX3_fittingCoins 10 = .ok (.getfield 25, 3) := by decide +kernel
theorem dX3_fittingCoins_13 : decode cX3_fittingCoins 13 = .ok (.getfield 114, 3) := by decide +kernel
theorem dX3_fittingCoins_16 : decode cX3_fittingCoins 16 = .ok (.iload_n 1, 1) := by decide +kernel
theorem dX3_fittingCoins_17 : decode cX3_fittingCoins 17 = .ok (.iaload, 1) := by decide +kernel
theorem dX3_fittingCoins_18 : decode cX3_fittingCoins 18 = .ok (.iaload, 1) := by decide +kernel
theorem dX3_fittingCoins_19 : decode cX3_fittingCoins 19 = .ok (.istore 4, 2) := by decide +kernel
theorem dX3_fittingCoins_21 : decode cX3_fittingCoins 21 = .ok (.aload_n 0, 1) := by decide +kernel
theorem dX3_fittingCoins_22 : decode cX3_fittingCoins 22 = .ok (.getfield 25, 3) := by decide +kernel
theorem dX3_fittingCoins_25 : decode cX3_fittingCoins 25 = .ok (.getfield 117, 3) := by decide +kernel
theorem dX3_fittingCoins_28 : decode cX3_fittingCoins 28 = .ok (.iload_n 1, 1) := by decide +kernel
theorem dX3_fittingCoins_29 : decode cX3_fittingCoins 29 = .ok (.iaload, 1) := by decide +kernel
theorem dX3_fittingCoins_30 : decode cX3_fittingCoins 30 = .ok (.istore 5, 2) := by decide +kernel
theorem dX3_fittingCoins_32 : decode cX3_fittingCoins 32 = .ok (.aload_n 0, 1) := by decide +kernel
theorem dX3_fittingCoins_33 : decode cX3_fittingCoins 33 = .ok (.getfield 28, 3) := by decide +kernel
theorem dX3_fittingCoins_36 : decode cX3_fittingCoins 36 = .ok (.aload_n 0, 1) := by decide +kernel
theorem dX3_fittingCoins_37 : decode cX3_fittingCoins 37 = .ok (.getfield 25, 3) := by decide +kernel
theorem dX3_fittingCoins_40 : decode cX3_fittingCoins 40 = .ok (.invokevirtual 32, 3) := by decide +kernel
theorem dX3_fittingCoins_43 : decode cX3_fittingCoins 43 = .ok (.aload_n 0, 1) := by decide +kernel
theorem dX3_fittingCoins_44 : decode cX3_fittingCoins 44 = .ok (.getfield 28, 3) := by decide +kernel
theorem dX3_fittingCoins_47 : decode cX3_fittingCoins 47 = .ok (.iload 4, 2) := by decide +kernel
theorem dX3_fittingCoins_49 : decode cX3_fittingCoins 49 = .ok (.iload 5, 2) := by decide +kernel
theorem dX3_fittingCoins_51 : decode cX3_fittingCoins 51 = .ok (.aload_n 0, 1) := by decide +kernel
theorem dX3_fittingCoins_52 : decode cX3_fittingCoins 52 = .ok (.getfield 25, 3) := by decide +kernel
theorem dX3_fittingCoins_55 : decode cX3_fittingCoins 55 = .ok (.getfield 120, 3) := by decide +kernel
theorem dX3_fittingCoins_58 : decode cX3_fittingCoins 58 = .ok (.iload_n 1, 1) := by decide +kernel
theorem dX3_fittingCoins_59 : decode cX3_fittingCoins 59 = .ok (.iaload, 1) := by decide +kernel
theorem dX3_fittingCoins_60 : decode cX3_fittingCoins 60 = .ok (.ineg, 1) := by decide +kernel
theorem dX3_fittingCoins_61 : decode cX3_fittingCoins 61 = .ok (.invokevirtual 41, 3) := by decide +kernel
theorem dX3_fittingCoins_64 : decode cX3_fittingCoins 64 = .ok (.iconst 1, 1) := by decide +kernel
theorem dX3_fittingCoins_65 : decode cX3_fittingCoins 65 = .ok (.istore 6, 2) := by decide +kernel
theorem dX3_fittingCoins_67 : decode cX3_fittingCoins 67 = .ok (.iload 6, 2) := by decide +kernel
theorem dX3_fittingCoins_69 : decode cX3_fittingCoins 69 = .ok (.bipush 99, 2) := by decide +kernel
theorem dX3_fittingCoins_71 : decode cX3_fittingCoins 71 = .ok (.if_icmp .gt 45, 3) := by decide +kernel
theorem dX3_fittingCoins_74 : decode cX3_fittingCoins 74 = .ok (.aload_n 0, 1) := by decide +kernel
theorem dX3_fittingCoins_75 : decode cX3_fittingCoins 75 = .ok (.getfield 28, 3) := by decide +kernel
theorem dX3_fittingCoins_78 : decode cX3_fittingCoins 78 = .ok (.iload 4, 2) := by decide +kernel
theorem dX3_fittingCoins_80 : decode cX3_fittingCoins 80 = .ok (.iload 5, 2) := by decide +kernel
theorem dX3_fittingCoins_82 : decode cX3_fittingCoins 82 = .ok (.iconst 1, 1) := by decide +kernel
theorem dX3_fittingCoins_83 : decode cX3_fittingCoins 83 = .ok (.invokevirtual 41, 3) := by decide +kernel
theorem dX3_fittingCoins_86 : decode cX3_fittingCoins 86 = .ok (.aload_n 0, 1) := by decide +kernel
theorem dX3_fittingCoins_87 : decode cX3_fittingCoins 87 = .ok (.getfield 28, 3) := by decide +kernel
theorem dX3_fittingCoins_90 : decode cX3_fittingCoins 90 = .ok (.invokevirtual 45, 3) := by decide +kernel
theorem dX3_fittingCoins_93 : decode cX3_fittingCoins 93 = .ok (.aload_n 0, 1) := by decide +kernel
theorem dX3_fittingCoins_94 : decode cX3_fittingCoins 94 = .ok (.invokevirtual 107, 3) := by decide +kernel
theorem dX3_fittingCoins_97 : decode cX3_fittingCoins 97 = .ok (.ifCond .eq 13, 3) := by decide +kernel
theorem dX3_fittingCoins_100 : decode cX3_fittingCoins 100 = .ok (.iload_n 2, 1) := by decide +kernel
theorem dX3_fittingCoins_101 : decode cX3_fittingCoins 101 = .ok (.ifCond .eq 6, 3) := by decide +kernel
theorem dX3_fittingCoins_104 : decode cX3_fittingCoins 104 = .ok (.iload 6, 2) := by decide +kernel
theorem dX3_fittingCoins_106 : decode cX3_fittingCoins 106 = .ok (.ireturn, 1) := by decide +kernel
theorem dX3_fittingCoins_107 : decode cX3_fittingCoins 107 = .ok (.iinc 3 1, 3) := by decide +kernel
theorem dX3_fittingCoins_110 : decode cX3_fittingCoins 110 = .ok (.iinc 6 1, 3) := by decide +kernel
theorem dX3_fittingCoins_113 : decode cX3_fittingCoins 113 = .ok (.goto (-46), 3) := by decide +kernel
theorem dX3_fittingCoins_116 : decode cX3_fittingCoins 116 = .ok (.iload_n 2, 1) := by decide +kernel
theorem dX3_fittingCoins_117 : decode cX3_fittingCoins 117 = .ok (.ifCond .eq 8, 3) := by decide +kernel
theorem dX3_fittingCoins_120 : decode cX3_fittingCoins 120 = .ok (.ldc 65, 2) := by decide +kernel
theorem dX3_fittingCoins_122 : decode cX3_fittingCoins 122 = .ok (.goto 4, 3) := by decide +kernel
theorem dX3_fittingCoins_125 : decode cX3_fittingCoins 125 = .ok (.iload_n 3, 1) := by decide +kernel
theorem dX3_fittingCoins_126 : decode cX3_fittingCoins 126 = .ok (.ireturn, 1) := by decide +kernel
theorem dX3_chance_0 : decode cX3_chance 0 = .ok (.aload_n 0, 1) := by decide +kernel
theorem dX3_chance_1 : decode cX3_chance 1 = .ok (.getfield 28, 3) := by decide +kernel
theorem dX3_chance_4 : decode cX3_chance 4 = .ok (.aload_n 0, 1) := by decide +kernel
theorem dX3_chance_5 : decode cX3_chance 5 = .ok (.getfield 25, 3) := by decide +kernel
theorem dX3_chance_8 : decode cX3_chance 8 = .ok (.invokevirtual 32, 3) := by decide +kernel
theorem dX3_chance_11 : decode cX3_chance 11 = .ok (.aload_n 0, 1) := by decide +kernel
theorem dX3_chance_12 : decode cX3_chance 12 = .ok (.iconst 0, 1) := by decide +kernel
theorem dX3_chance_13 : decode cX3_chance 13 = .ok (.iload_n 1, 1) := by decide +kernel
theorem dX3_chance_14 : decode cX3_chance 14 = .ok (.iload_n 2, 1) := by decide +kernel
theorem dX3_chance_15 : decode cX3_chance 15 = .ok (.iload_n 3, 1) := by decide +kernel
theorem dX3_chance_16 : decode cX3_chance 16 = .ok (.invokevirtual 123, 3) := by decide +kernel
theorem dX3_chance_19 : decode cX3_chance 19 = .ok (.lstore 5, 2) := by decide +kernel
theorem dX3_chance_21 : decode cX3_chance 21 = .ok (.lconst 1, 1) := by decide +kernel
theorem dX3_chance_22 : decode cX3_chance 22 = .ok (.lstore 7, 2) := by decide +kernel
theorem dX3_chance_24 : decode cX3_chance 24 = .ok (.iconst 0, 1) := by decide +kernel
theorem dX3_chance_25 : decode cX3_chance 25 = .ok (.istore 9, 2) := by decide +kernel
theorem dX3_chance_27 : decode cX3_chance 27 = .ok (.iload 9, 2) := by decide +kernel
theorem dX3_chance_29 : decode cX3_chance 29 = .ok (.bipush 10, 2) := by decide +kernel
theorem dX3_chance_31 : decode cX3_chance 31 = .ok (.if_icmp .ge 33, 3) := by decide +kernel
theorem dX3_chance_34 : decode cX3_chance 34 = .ok (.lload 7, 2) := by decide +kernel
theorem dX3_chance_36 : decode cX3_chance 36 = .ok (.aload_n 0, 1) := by decide +kernel
theorem dX3_chance_37 : decode cX3_chance 37 = .ok (.getfield 28, 3) := by decide +kernel
theorem dX3_chance_40 : decode cX3_chance 40 = .ok (.iload 9, 2) := by decide +kernel
theorem dX3_chance_42 : decode cX3_chance 42 = .ok (.invokevirtual 66, 3) := by decide +kernel
theorem dX3_chance_45 : decode cX3_chance 45 = .ok (.ifCond .eq 9, 3) := by decide +kernel
theorem dX3_chance_48 : decode cX3_chance 48 = .ok (.ldc2_w 127, 3) := by decide +kernel
theorem dX3_chance_51 : decode cX3_chance 51 = .ok (.goto 4, 3) := by decide +kernel
theorem dX3_chance_54 : decode cX3_chance 54 = .ok (.lconst 1, 1) := by decide +kernel
theorem dX3_chance_55 : decode cX3_chance 55 = .ok (.lmul, 1) := by decide +kernel
theorem dX3_chance_56 : decode cX3_chance 56 = .ok (.lstore 7, 2) := by decide +kernel
theorem dX3_chance_58 : decode cX3_chance 58 = .ok (.iinc 9 1, 3) := by decide +kernel
theorem dX3_chance_61 : decode cX3_chance 61 = .ok (.goto (-34), 3) := by decide +kernel
theorem dX3_chance_64 : decode cX3_chance 64 = .ok (.lload 5, 2) := by decide +kernel
theorem dX3_chance_66 : decode cX3_chance 66 = .ok (.lload 7, 2) := by decide +kernel
theorem dX3_chance_68 : decode cX3_chance 68 = .ok (.invokestatic 129, 3) := by decide +kernel
theorem dX3_chance_71 : decode cX3_chance 71 = .ok (.lstore 9, 2) := by decide +kernel
theorem dX3_chance_73 : decode cX3_chance 73 = .ok (.lload 9, 2) := by decide +kernel
theorem dX3_chance_75 : decode cX3_chance 75 = .ok (.lconst 0, 1) := by decide +kernel
theorem dX3_chance_76 : decode cX3_chance 76 = .ok (.lcmp, 1) := by decide +kernel
theorem dX3_chance_77 : decode cX3_chance 77 = .ok (.ifCond .gt 7, 3) := by decide +kernel
theorem dX3_chance_80 : decode cX3_chance 80 = .ok (.ldc2_w 133, 3) := by decide +kernel
theorem dX3_chance_83 : decode cX3_chance 83 = .ok (.lreturn, 1) := by decide +kernel
theorem dX3_chance_84 : decode cX3_chance 84 = .ok (.iload 4, 2) := by decide +kernel
theorem dX3_chance_86 : decode cX3_chance 86 = .ok (.ifCond .ne 8, 3) := by decide +kernel
theorem dX3_chance_89 : decode cX3_chance 89 = .ok (.lload 5, 2) := by decide +kernel
theorem dX3_chance_91 : decode cX3_chance 91 = .ok (.goto 5, 3) := by decide +kernel
theorem dX3_chance_94 : decode cX3_chance 94 = .ok (.lload 7, 2) := by decide +kernel
theorem dX3_chance_96 : decode cX3_chance 96 = .ok (.lload 9, 2) := by decide +kernel
theorem dX3_chance_98 : decode cX3_chance 98 = .ok (.ldiv, 1) := by decide +kernel
theorem dX3_chance_99 : decode cX3_chance 99 = .ok (.lreturn, 1) := by decide +kernel
theorem dX3_casesPaid_0 : decode cX3_casesPaid 0 = .ok (.iload_n 1, 1) := by decide +kernel
theorem dX3_casesPaid_1 : decode cX3_casesPaid 1 = .ok (.bipush 10, 2) := by decide +kernel
theorem dX3_casesPaid_3 : decode cX3_casesPaid 3 = .ok (.if_icmp .lt 29, 3) := by decide +kernel
theorem dX3_casesPaid_6 : decode cX3_casesPaid 6 = .ok (.aload_n 0, 1) := by decide +kernel
theorem dX3_casesPaid_7 : decode cX3_casesPaid 7 = .ok (.getfield 28, 3) := by decide +kernel
theorem dX3_casesPaid_10 : decode cX3_casesPaid 10 = .ok (.invokevirtual 45, 3) := by decide +kernel
theorem dX3_casesPaid_13 : decode cX3_casesPaid 13 = .ok (.aload_n 0, 1) := by decide +kernel
theorem dX3_casesPaid_14 : decode cX3_casesPaid 14 = .ok (.getfield 28, 3) := by decide +kernel
theorem dX3_casesPaid_17 : decode cX3_casesPaid 17 = .ok (.getfield 48, 3) := by decide +kernel
theorem dX3_casesPaid_20 : decode cX3_casesPaid 20 = .ok (.iload_n 2, 1) := by decide +kernel
theorem dX3_casesPaid_21 : decode cX3_casesPaid 21 = .ok (.iaload, 1) := by decide +kernel
theorem dX3_casesPaid_22 : decode cX3_casesPaid 22 = .ok (.iload_n 3, 1) := by decide +kernel
theorem dX3_casesPaid_23 : decode cX3_casesPaid 23 = .ok (.if_icmp .lt 7, 3) := by decide +kernel
theorem dX3_casesPaid_26 : decode cX3_casesPaid 26 = .ok (.lconst 1, 1) := by decide +kernel
theorem dX3_casesPaid_27 : decode cX3_casesPaid 27 = .ok (.goto 4, 3) := by decide +kernel
theorem dX3_casesPaid_30 : decode cX3_casesPaid 30 = .ok (.lconst 0, 1) := by decide +kernel
theorem dX3_casesPaid_31 : decode cX3_casesPaid 31 = .ok (.lreturn, 1) := by decide +kernel
theorem dX3_casesPaid_32 : decode cX3_casesPaid 32 = .ok (.aload_n 0, 1) := by decide +kernel
theorem dX3_casesPaid_33 : decode cX3_casesPaid 33 = .ok (.getfield 28, 3) := by decide +kernel
theorem dX3_casesPaid_36 : decode cX3_casesPaid 36 = .ok (.iload_n 1, 1) := by decide +kernel
theorem dX3_casesPaid_37 : decode cX3_casesPaid 37 = .ok (.invokevirtual 66, 3) := by decide +kernel
theorem dX3_casesPaid_40 : decode cX3_casesPaid 40 = .ok (.ifCond .ne 15, 3) := by decide +kernel
theorem dX3_casesPaid_43 : decode cX3_casesPaid 43 = .ok (.aload_n 0, 1) := by decide +kernel
theorem dX3_casesPaid_44 : decode cX3_casesPaid 44 = .ok (.iload_n 1, 1) := by decide +kernel
theorem dX3_casesPaid_45 : decode cX3_casesPaid 45 = .ok (.iconst 1, 1) := by decide +kernel
theorem dX3_casesPaid_46 : decode cX3_casesPaid 46 = .ok (.iadd, 1) := by decide +kernel
theorem dX3_casesPaid_47 : decode cX3_casesPaid 47 = .ok (.iload_n 2, 1) := by decide +kernel
theorem dX3_casesPaid_48 : decode cX3_casesPaid 48 = .ok (.iload_n 3, 1) := by decide +kernel
theorem dX3_casesPaid_49 : decode cX3_casesPaid 49 = .ok (.iload 4, 2) := by decide +kernel
theorem dX3_casesPaid_51 : decode cX3_casesPaid 51 = .ok (.invokevirtual 123, 3) := by decide +kernel
theorem dX3_casesPaid_54 : decode cX3_casesPaid 54 = .ok (.lreturn, 1) := by decide +kernel
theorem dX3_casesPaid_55 : decode cX3_casesPaid 55 = .ok (.lconst 0, 1) := by decide +kernel
theorem dX3_casesPaid_56 : decode cX3_casesPaid 56 = .ok (.lstore 5, 2) := by decide +kernel
theorem dX3_casesPaid_58 : decode cX3_casesPaid 58 = .ok (.iload 4, 2) := by decide +kernel
theorem dX3_casesPaid_60 : decode cX3_casesPaid 60 = .ok (.bipush 10, 2) := by decide +kernel
theorem dX3_casesPaid_62 : decode cX3_casesPaid 62 = .ok (.if_icmp .ge 26, 3) := by decide +kernel
theorem dX3_casesPaid_65 : decode cX3_casesPaid 65 = .ok (.lload 5, 2) := by decide +kernel
theorem dX3_casesPaid_67 : decode cX3_casesPaid 67 = .ok (.bipush 10, 2) := by decide +kernel
theorem dX3_casesPaid_69 : decode cX3_casesPaid 69 = .ok (.iload 4, 2) := by decide +kernel
theorem dX3_casesPaid_71 : decode cX3_casesPaid 71 = .ok (.isub, 1) := by decide +kernel
theorem dX3_casesPaid_72 : decode cX3_casesPaid 72 = .ok (.i2l, 1) := by decide +kernel
theorem dX3_casesPaid_73 : decode cX3_casesPaid 73 = .ok (.aload_n 0, 1) := by decide +kernel
theorem dX3_casesPaid_74 : decode cX3_casesPaid 74 = .ok (.iload_n 1, 1) := by decide +kernel
theorem dX3_casesPaid_75 : decode cX3_casesPaid 75 = .ok (.iconst 1, 1) := by decide +kernel
theorem dX3_casesPaid_76 : decode cX3_casesPaid 76 = .ok (.iadd, 1) := by decide +kernel
theorem dX3_casesPaid_77 : decode cX3_casesPaid 77 = .ok (.iload_n 2, 1) := by decide +kernel
theorem dX3_casesPaid_78 : decode cX3_casesPaid 78 = .ok (.iload_n 3, 1) := by decide +kernel
theorem dX3_casesPaid_79 : decode cX3_casesPaid 79 = .ok (.iload 4, 2) := by decide +kernel
theorem dX3_casesPaid_81 : decode cX3_casesPaid 81 = .ok (.invokevirtual 123, 3) := by decide +kernel
theorem dX3_casesPaid_84 : decode cX3_casesPaid 84 = .ok (.lmul, 1) := by decide +kernel
theorem dX3_casesPaid_85 : decode cX3_casesPaid 85 = .ok (.ladd, 1) := by decide +kernel
theorem dX3_casesPaid_86 : decode cX3_casesPaid 86 = .ok (.lstore 5, 2) := by decide +kernel
theorem dX3_casesPaid_88 : decode cX3_casesPaid 88 = .ok (.iload 4, 2) := by decide +kernel
theorem dX3_casesPaid_90 : decode cX3_casesPaid 90 = .ok (.ifCond .le 39, 3) := by decide +kernel
theorem dX3_casesPaid_93 : decode cX3_casesPaid 93 = .ok (.aload_n 0, 1) := by decide +kernel
theorem dX3_casesPaid_94 : decode cX3_casesPaid 94 = .ok (.getfield 28, 3) := by decide +kernel
theorem dX3_casesPaid_97 : decode cX3_casesPaid 97 = .ok (.iload_n 1, 1) := by decide +kernel
theorem dX3_casesPaid_98 : decode cX3_casesPaid 98 = .ok (.invokevirtual 70, 3) := by decide +kernel
theorem dX3_casesPaid_101 : decode cX3_casesPaid 101 = .ok (.lload 5, 2) := by decide +kernel
theorem dX3_casesPaid_103 : decode cX3_casesPaid 103 = .ok (.iload 4, 2) := by decide +kernel
theorem dX3_casesPaid_105 : decode cX3_casesPaid 105 = .ok (.i2l, 1) := by decide +kernel
theorem dX3_casesPaid_106 : decode cX3_casesPaid 106 = .ok (.aload_n 0, 1) := by decide +kernel
theorem dX3_casesPaid_107 : decode cX3_casesPaid 107 = .ok (.iload_n 1, 1) := by decide +kernel
theorem dX3_casesPaid_108 : decode cX3_casesPaid 108 = .ok (.iconst 1, 1) := by decide +kernel
theorem dX3_casesPaid_109 : decode cX3_casesPaid 109 = .ok (.iadd, 1) := by decide +kernel
theorem dX3_casesPaid_110 : decode cX3_casesPaid 110 = .ok (.iload_n 2, 1) := by decide +kernel
theorem dX3_casesPaid_111 : decode cX3_casesPaid 111 = .ok (.iload_n 3, 1) := by decide +kernel
theorem dX3_casesPaid_112 : decode cX3_casesPaid 112 = .ok (.iload 4, 2) := by decide +kernel
theorem dX3_casesPaid_114 : decode cX3_casesPaid 114 = .ok (.invokevirtual 123, 3) := by decide +kernel
theorem dX3_casesPaid_117 : decode cX3_casesPaid 117 = .ok (.lmul, 1) := by decide +kernel
theorem dX3_casesPaid_118 : decode cX3_casesPaid 118 = .ok (.ladd, 1) := by decide +kernel
theorem dX3_casesPaid_119 : decode cX3_casesPaid 119 = .ok (.lstore 5, 2) := by decide +kernel
theorem dX3_casesPaid_121 : decode cX3_casesPaid 121 = .ok (.aload_n 0, 1) := by decide +kernel
theorem dX3_casesPaid_122 : decode cX3_casesPaid 122 = .ok (.getfield 28, 3) := by decide +kernel
theorem dX3_casesPaid_125 : decode cX3_casesPaid 125 = .ok (.iload_n 1, 1) := by decide +kernel
theorem dX3_casesPaid_126 : decode cX3_casesPaid 126 = .ok (.invokevirtual 74, 3) := by decide +kernel
theorem dX3_casesPaid_129 : decode cX3_casesPaid 129 = .ok (.lload 5, 2) := by decide +kernel
theorem dX3_casesPaid_131 : decode cX3_casesPaid 131 = .ok (.lreturn, 1) := by decide +kernel
theorem dX3_greatestCommon_0 : decode cX3_greatestCommon 0 = .ok (.lload_n 0, 1) := by decide +kernel
theorem dX3_greatestCommon_1 : decode cX3_greatestCommon 1 = .ok (.lstore 4, 2) := by decide +kernel
theorem dX3_greatestCommon_3 : decode cX3_greatestCommon 3 = .ok (.lload_n 2, 1) := by decide +kernel
theorem dX3_greatestCommon_4 : decode cX3_greatestCommon 4 = .ok (.lstore 6, 2) := by decide +kernel
theorem dX3_greatestCommon_6 : decode cX3_greatestCommon 6 = .ok (.iconst 0, 1) := by decide +kernel
theorem dX3_greatestCommon_7 : decode cX3_greatestCommon 7 = .ok (.istore 8, 2) := by decide +kernel
theorem dX3_greatestCommon_9 : decode cX3_greatestCommon 9 = .ok (.iload 8, 2) := by decide +kernel
theorem dX3_greatestCommon_11 : decode cX3_greatestCommon 11 = .ok (.sipush 128, 3) := by decide +kernel
theorem dX3_greatestCommon_14 : decode cX3_greatestCommon 14 = .ok (.if_icmp .ge 31, 3) := by decide +kernel
theorem dX3_greatestCommon_17 : decode cX3_greatestCommon 17 = .ok (.lload 6, 2) := by decide +kernel
theorem dX3_greatestCommon_19 : decode cX3_greatestCommon 19 = .ok (.lconst 0, 1) := by decide +kernel
theorem dX3_greatestCommon_20 : decode cX3_greatestCommon 20 = .ok (.lcmp, 1) := by decide +kernel
theorem dX3_greatestCommon_21 : decode cX3_greatestCommon 21 = .ok (.ifCond .eq 24, 3) := by decide +kernel
theorem dX3_greatestCommon_24 : decode cX3_greatestCommon 24 = .ok (.lload 4, 2) := by decide +kernel
theorem dX3_greatestCommon_26 : decode cX3_greatestCommon 26 = .ok (.lload 6, 2) := by decide +kernel
theorem dX3_greatestCommon_28 : decode cX3_greatestCommon 28 = .ok (.lrem, 1) := by decide +kernel
theorem dX3_greatestCommon_29 : decode cX3_greatestCommon 29 = .ok (.lstore 9, 2) := by decide +kernel
theorem dX3_greatestCommon_31 : decode cX3_greatestCommon 31 = .ok (.lload 6, 2) := by decide +kernel
theorem dX3_greatestCommon_33 : decode cX3_greatestCommon 33 = .ok (.lstore 4, 2) := by decide +kernel
theorem dX3_greatestCommon_35 : decode cX3_greatestCommon 35 = .ok (.lload 9, 2) := by decide +kernel
theorem dX3_greatestCommon_37 : decode cX3_greatestCommon 37 = .ok (.lstore 6, 2) := by decide +kernel
theorem dX3_greatestCommon_39 : decode cX3_greatestCommon 39 = .ok (.iinc 8 1, 3) := by decide +kernel
theorem dX3_greatestCommon_42 : decode cX3_greatestCommon 42 = .ok (.goto (-33), 3) := by decide +kernel
theorem dX3_greatestCommon_45 : decode cX3_greatestCommon 45 = .ok (.lload 4, 2) := by decide +kernel
theorem dX3_greatestCommon_47 : decode cX3_greatestCommon 47 = .ok (.lreturn, 1) := by decide +kernel
theorem dX3_years_0 : decode cX3_years 0 = .ok (.iconst 0, 1) := by decide +kernel
theorem dX3_years_1 : decode cX3_years 1 = .ok (.istore 4, 2) := by decide +kernel
theorem dX3_years_3 : decode cX3_years 3 = .ok (.iload_n 2, 1) := by decide +kernel
theorem dX3_years_4 : decode cX3_years 4 = .ok (.i2l, 1) := by decide +kernel
theorem dX3_years_5 : decode cX3_years 5 = .ok (.lstore 5, 2) := by decide +kernel
theorem dX3_years_7 : decode cX3_years 7 = .ok (.aload_n 0, 1) := by decide +kernel
theorem dX3_years_8 : decode cX3_years 8 = .ok (.getfield 12, 3) := by decide +kernel
theorem dX3_years_11 : decode cX3_years 11 = .ok (.aload_n 0, 1) := by decide +kernel
theorem dX3_years_12 : decode cX3_years 12 = .ok (.getfield 25, 3) := by decide +kernel
theorem dX3_years_15 : decode cX3_years 15 = .ok (.invokevirtual 135, 3) := by decide +kernel
theorem dX3_years_18 : decode cX3_years 18 = .ok (.aload_n 0, 1) := by decide +kernel
theorem dX3_years_19 : decode cX3_years 19 = .ok (.getfield 28, 3) := by decide +kernel
theorem dX3_years_22 : decode cX3_years 22 = .ok (.aload_n 0, 1) := by decide +kernel
theorem dX3_years_23 : decode cX3_years 23 = .ok (.getfield 25, 3) := by decide +kernel
theorem dX3_years_26 : decode cX3_years 26 = .ok (.invokevirtual 32, 3) := by decide +kernel
theorem dX3_years_29 : decode cX3_years 29 = .ok (.aload_n 0, 1) := by decide +kernel
theorem dX3_years_30 : decode cX3_years 30 = .ok (.getfield 28, 3) := by decide +kernel
theorem dX3_years_33 : decode cX3_years 33 = .ok (.invokevirtual 45, 3) := by decide +kernel
theorem dX3_years_36 : decode cX3_years 36 = .ok (.iconst 0, 1) := by decide +kernel
theorem dX3_years_37 : decode cX3_years 37 = .ok (.istore 7, 2) := by decide +kernel
theorem dX3_years_39 : decode cX3_years 39 = .ok (.iload 7, 2) := by decide +kernel
theorem dX3_years_41 : decode cX3_years 41 = .ok (.iload_n 1, 1) := by decide +kernel
theorem dX3_years_42 : decode cX3_years 42 = .ok (.if_icmp .ge 46, 3) := by decide +kernel
theorem dX3_years_45 : decode cX3_years 45 = .ok (.lload 5, 2) := by decide +kernel
theorem dX3_years_47 : decode cX3_years 47 = .ok (.ldc2_w 138, 3) := by decide +kernel
theorem dX3_years_50 : decode cX3_years 50 = .ok (.lmul, 1) := by decide +kernel
theorem dX3_years_51 : decode cX3_years 51 = .ok (.ldc2_w 140, 3) := by decide +kernel
theorem dX3_years_54 : decode cX3_years 54 = .ok (.lrem, 1) := by decide +kernel
theorem dX3_years_55 : decode cX3_years 55 = .ok (.lstore 5, 2) := by decide +kernel
theorem dX3_years_57 : decode cX3_years 57 = .ok (.aload_n 0, 1) := by decide +kernel
theorem dX3_years_58 : decode cX3_years 58 = .ok (.lload 5, 2) := by decide +kernel
theorem dX3_years_60 : decode cX3_years 60 = .ok (.invokevirtual 142, 3) := by decide +kernel
theorem dX3_years_63 : decode cX3_years 63 = .ok (.aload_n 0, 1) := by decide +kernel
theorem dX3_years_64 : decode cX3_years 64 = .ok (.getfield 28, 3) := by decide +kernel
theorem dX3_years_67 : decode cX3_years 67 = .ok (.invokevirtual 45, 3) := by decide +kernel
theorem dX3_years_70 : decode cX3_years 70 = .ok (.iload 4, 2) := by decide +kernel
theorem dX3_years_72 : decode cX3_years 72 = .ok (.aload_n 0, 1) := by decide +kernel
theorem dX3_years_73 : decode cX3_years 73 = .ok (.getfield 28, 3) := by decide +kernel
theorem dX3_years_76 : decode cX3_years 76 = .ok (.invokevirtual 146, 3) := by decide +kernel
theorem dX3_years_79 : decode cX3_years 79 = .ok (.iadd, 1) := by decide +kernel
theorem dX3_years_80 : decode cX3_years 80 = .ok (.istore 4, 2) := by decide +kernel
theorem dX3_years_82 : decode cX3_years 82 = .ok (.iinc 7 1, 3) := by decide +kernel
theorem dX3_years_85 : decode cX3_years 85 = .ok (.goto (-46), 3) := by decide +kernel
theorem dX3_years_88 : decode cX3_years 88 = .ok (.iload_n 3, 1) := by decide +kernel
theorem dX3_years_89 : decode cX3_years 89 = .ok (.ifCond .ne 8, 3) := by decide +kernel
theorem dX3_years_92 : decode cX3_years 92 = .ok (.iload 4, 2) := by decide +kernel
theorem dX3_years_94 : decode cX3_years 94 = .ok (.goto 10, 3) := by decide +kernel
theorem dX3_years_97 : decode cX3_years 97 = .ok (.aload_n 0, 1) := by decide +kernel
theorem dX3_years_98 : decode cX3_years 98 = .ok (.getfield 28, 3) := by decide +kernel
theorem dX3_years_101 : decode cX3_years 101 = .ok (.getfield 150, 3) := by decide +kernel
theorem dX3_years_104 : decode cX3_years 104 = .ok (.ireturn, 1) := by decide +kernel
theorem dX3_redraw_0 : decode cX3_redraw 0 = .ok (.aload_n 0, 1) := by decide +kernel
theorem dX3_redraw_1 : decode cX3_redraw 1 = .ok (.getfield 12, 3) := by decide +kernel
theorem dX3_redraw_4 : decode cX3_redraw 4 = .ok (.getfield 153, 3) := by decide +kernel
theorem dX3_redraw_7 : decode cX3_redraw 7 = .ok (.ifCond .le 13, 3) := by decide +kernel
theorem dX3_redraw_10 : decode cX3_redraw 10 = .ok (.aload_n 0, 1) := by decide +kernel
theorem dX3_redraw_11 : decode cX3_redraw 11 = .ok (.getfield 12, 3) := by decide +kernel
theorem dX3_redraw_14 : decode cX3_redraw 14 = .ok (.getfield 57, 3) := by decide +kernel
theorem dX3_redraw_17 : decode cX3_redraw 17 = .ok (.ifCond .gt 4, 3) := by decide +kernel
theorem dX3_redraw_20 : decode cX3_redraw 20 = .ok (.return_, 1) := by decide +kernel
theorem dX3_redraw_21 : decode cX3_redraw 21 = .ok (.lload_n 1, 1) := by decide +kernel
theorem dX3_redraw_22 : decode cX3_redraw 22 = .ok (.aload_n 0, 1) := by decide +kernel
theorem dX3_redraw_23 : decode cX3_redraw 23 = .ok (.getfield 12, 3) := by decide +kernel
theorem dX3_redraw_26 : decode cX3_redraw 26 = .ok (.getfield 153, 3) := by decide +kernel
theorem dX3_redraw_29 : decode cX3_redraw 29 = .ok (.i2l, 1) := by decide +kernel
theorem dX3_redraw_30 : decode cX3_redraw 30 = .ok (.lrem, 1) := by decide +kernel
theorem dX3_redraw_31 : decode cX3_redraw 31 = .ok (.l2i, 1) := by decide +kernel
theorem dX3_redraw_32 : decode cX3_redraw 32 = .ok (.istore_n 3, 1) := by decide +kernel
theorem dX3_redraw_33 : decode cX3_redraw 33 = .ok (.aload_n 0, 1) := by decide +kernel
theorem dX3_redraw_34 : decode cX3_redraw 34 = .ok (.getfield 28, 3) := by decide +kernel
theorem dX3_redraw_37 : decode cX3_redraw 37 = .ok (.aload_n 0, 1) := by decide +kernel
theorem dX3_redraw_38 : decode cX3_redraw 38 = .ok (.getfield 12, 3) := by decide +kernel
theorem dX3_redraw_41 : decode cX3_redraw 41 = .ok (.getfield 38, 3) := by decide +kernel
theorem dX3_redraw_44 : decode cX3_redraw 44 = .ok (.aload_n 0, 1) := by decide +kernel
theorem dX3_redraw_45 : decode cX3_redraw 45 = .ok (.getfield 12, 3) := by decide +kernel
theorem dX3_redraw_48 : decode cX3_redraw 48 = .ok (.getfield 114, 3) := by decide +kernel
theorem dX3_redraw_51 : decode cX3_redraw 51 = .ok (.iload_n 3, 1) := by decide +kernel
theorem dX3_redraw_52 : decode cX3_redraw 52 = .ok (.iaload, 1) := by decide +kernel
theorem dX3_redraw_53 : decode cX3_redraw 53 = .ok (.iaload, 1) := by decide +kernel
theorem dX3_redraw_54 : decode cX3_redraw 54 = .ok (.aload_n 0, 1) := by decide +kernel
theorem dX3_redraw_55 : decode cX3_redraw 55 = .ok (.getfield 12, 3) := by decide +kernel
theorem dX3_redraw_58 : decode cX3_redraw 58 = .ok (.getfield 117, 3) := by decide +kernel
theorem dX3_redraw_61 : decode cX3_redraw 61 = .ok (.iload_n 3, 1) := by decide +kernel
theorem dX3_redraw_62 : decode cX3_redraw 62 = .ok (.iaload, 1) := by decide +kernel
theorem dX3_redraw_63 : decode cX3_redraw 63 = .ok (.aload_n 0, 1) := by decide +kernel
theorem dX3_redraw_64 : decode cX3_redraw 64 = .ok (.getfield 12, 3) := by decide +kernel
theorem dX3_redraw_67 : decode cX3_redraw 67 = .ok (.getfield 120, 3) := by decide +kernel
theorem dX3_redraw_70 : decode cX3_redraw 70 = .ok (.iload_n 3, 1) := by decide +kernel
theorem dX3_redraw_71 : decode cX3_redraw 71 = .ok (.iaload, 1) := by decide +kernel
theorem dX3_redraw_72 : decode cX3_redraw 72 = .ok (.ineg, 1) := by decide +kernel
theorem dX3_redraw_73 : decode cX3_redraw 73 = .ok (.invokevirtual 41, 3) := by decide +kernel
theorem dX3_redraw_76 : decode cX3_redraw 76 = .ok (.aload_n 0, 1) := by decide +kernel
theorem dX3_redraw_77 : decode cX3_redraw 77 = .ok (.getfield 12, 3) := by decide +kernel
theorem dX3_redraw_80 : decode cX3_redraw 80 = .ok (.getfield 114, 3) := by decide +kernel
theorem dX3_redraw_83 : decode cX3_redraw 83 = .ok (.iload_n 3, 1) := by decide +kernel
theorem dX3_redraw_84 : decode cX3_redraw 84 = .ok (.lload_n 1, 1) := by decide +kernel
theorem dX3_redraw_85 : decode cX3_redraw 85 = .ok (.ldc2_w 156, 3) := by decide +kernel
theorem dX3_redraw_88 : decode cX3_redraw 88 = .ok (.ldiv, 1) := by decide +kernel
theorem dX3_redraw_89 : decode cX3_redraw 89 = .ok (.ldc2_w 127, 3) := by decide +kernel
theorem dX3_redraw_92 : decode cX3_redraw 92 = .ok (.lrem, 1) := by decide +kernel
theorem dX3_redraw_93 : decode cX3_redraw 93 = .ok (.l2i, 1) := by decide +kernel
theorem dX3_redraw_94 : decode cX3_redraw 94 = .ok (.iastore, 1) := by decide +kernel
theorem dX3_redraw_95 : decode cX3_redraw 95 = .ok (.aload_n 0, 1) := by decide +kernel
theorem dX3_redraw_96 : decode cX3_redraw 96 = .ok (.getfield 12, 3) := by decide +kernel
theorem dX3_redraw_99 : decode cX3_redraw 99 = .ok (.getfield 117, 3) := by decide +kernel
theorem dX3_redraw_102 : decode cX3_redraw 102 = .ok (.iload_n 3, 1) := by decide +kernel
theorem dX3_redraw_103 : decode cX3_redraw 103 = .ok (.lload_n 1, 1) := by decide +kernel
theorem dX3_redraw_104 : decode cX3_redraw 104 = .ok (.ldc2_w 158, 3) := by decide +kernel
theorem dX3_redraw_107 : decode cX3_redraw 107 = .ok (.ldiv, 1) := by decide +kernel
theorem dX3_redraw_108 : decode cX3_redraw 108 = .ok (.aload_n 0, 1) := by decide +kernel
theorem dX3_redraw_109 : decode cX3_redraw 109 = .ok (.getfield 12, 3) := by decide +kernel
theorem dX3_redraw_112 : decode cX3_redraw 112 = .ok (.getfield 57, 3) := by decide +kernel
theorem dX3_redraw_115 : decode cX3_redraw 115 = .ok (.i2l, 1) := by decide +kernel
theorem dX3_redraw_116 : decode cX3_redraw 116 = .ok (.lrem, 1) := by decide +kernel
theorem dX3_redraw_117 : decode cX3_redraw 117 = .ok (.l2i, 1) := by decide +kernel
theorem dX3_redraw_118 : decode cX3_redraw 118 = .ok (.iastore, 1) := by decide +kernel
theorem dX3_redraw_119 : decode cX3_redraw 119 = .ok (.aload_n 0, 1) := by decide +kernel
theorem dX3_redraw_120 : decode cX3_redraw 120 = .ok (.getfield 12, 3) := by decide +kernel
theorem dX3_redraw_123 : decode cX3_redraw 123 = .ok (.getfield 120, 3) := by decide +kernel
theorem dX3_redraw_126 : decode cX3_redraw 126 = .ok (.iload_n 3, 1) := by decide +kernel
theorem dX3_redraw_127 : decode cX3_redraw 127 = .ok (.lload_n 1, 1) := by decide +kernel
theorem dX3_redraw_128 : decode cX3_redraw 128 = .ok (.ldc2_w 160, 3) := by decide +kernel
theorem dX3_redraw_131 : decode cX3_redraw 131 = .ok (.ldiv, 1) := by decide +kernel
theorem dX3_redraw_132 : decode cX3_redraw 132 = .ok (.ldc2_w 162, 3) := by decide +kernel
theorem dX3_redraw_135 : decode cX3_redraw 135 = .ok (.lrem, 1) := by decide +kernel
theorem dX3_redraw_136 : decode cX3_redraw 136 = .ok (.l2i, 1) := by decide +kernel
theorem dX3_redraw_137 : decode cX3_redraw 137 = .ok (.iconst 1, 1) := by decide +kernel
theorem dX3_redraw_138 : decode cX3_redraw 138 = .ok (.iadd, 1) := by decide +kernel
theorem dX3_redraw_139 : decode cX3_redraw 139 = .ok (.iastore, 1) := by decide +kernel
theorem dX3_redraw_140 : decode cX3_redraw 140 = .ok (.aload_n 0, 1) := by decide +kernel
theorem dX3_redraw_141 : decode cX3_redraw 141 = .ok (.getfield 28, 3) := by decide +kernel
theorem dX3_redraw_144 : decode cX3_redraw 144 = .ok (.aload_n 0, 1) := by decide +kernel
theorem dX3_redraw_145 : decode cX3_redraw 145 = .ok (.getfield 12, 3) := by decide +kernel
theorem dX3_redraw_148 : decode cX3_redraw 148 = .ok (.getfield 38, 3) := by decide +kernel
theorem dX3_redraw_151 : decode cX3_redraw 151 = .ok (.aload_n 0, 1) := by decide +kernel
theorem dX3_redraw_152 : decode cX3_redraw 152 = .ok (.getfield 12, 3) := by decide +kernel
theorem dX3_redraw_155 : decode cX3_redraw 155 = .ok (.getfield 114, 3) := by decide +kernel
theorem dX3_redraw_158 : decode cX3_redraw 158 = .ok (.iload_n 3, 1) := by decide +kernel
theorem dX3_redraw_159 : decode cX3_redraw 159 = .ok (.iaload, 1) := by decide +kernel
theorem dX3_redraw_160 : decode cX3_redraw 160 = .ok (.iaload, 1) := by decide +kernel
theorem dX3_redraw_161 : decode cX3_redraw 161 = .ok (.aload_n 0, 1) := by decide +kernel
theorem dX3_redraw_162 : decode cX3_redraw 162 = .ok (.getfield 12, 3) := by decide +kernel
theorem dX3_redraw_165 : decode cX3_redraw 165 = .ok (.getfield 117, 3) := by decide +kernel
theorem dX3_redraw_168 : decode cX3_redraw 168 = .ok (.iload_n 3, 1) := by decide +kernel
theorem dX3_redraw_169 : decode cX3_redraw 169 = .ok (.iaload, 1) := by decide +kernel
theorem dX3_redraw_170 : decode cX3_redraw 170 = .ok (.aload_n 0, 1) := by decide +kernel
theorem dX3_redraw_171 : decode cX3_redraw 171 = .ok (.getfield 12, 3) := by decide +kernel
theorem dX3_redraw_174 : decode cX3_redraw 174 = .ok (.getfield 120, 3) := by decide +kernel
theorem dX3_redraw_177 : decode cX3_redraw 177 = .ok (.iload_n 3, 1) := by decide +kernel
theorem dX3_redraw_178 : decode cX3_redraw 178 = .ok (.iaload, 1) := by decide +kernel
theorem dX3_redraw_179 : decode cX3_redraw 179 = .ok (.invokevirtual 41, 3) := by decide +kernel
theorem dX3_redraw_182 : decode cX3_redraw 182 = .ok (.return_, 1) := by decide +kernel
