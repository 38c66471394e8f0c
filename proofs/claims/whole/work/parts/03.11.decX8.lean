theorem dX8_squareClaim_17 : decode cX8_squareClaim 17 = .ok (.bipush 6, 2) := by decide +kernel
theorem dX8_squareClaim_19 : decode cX8_squareClaim 19 = .ok (.iload 4, 2) := by decide +kernel
theorem dX8_squareClaim_21 : decode cX8_squareClaim 21 = .ok (.imul, 1) := by decide +kernel
theorem dX8_squareClaim_22 : decode cX8_squareClaim 22 = .ok (.iload_n 1, 1) := by decide +kernel
theorem dX8_squareClaim_23 : decode cX8_squareClaim 23 = .ok (.iadd, 1) := by decide +kernel
theorem dX8_squareClaim_24 : decode cX8_squareClaim 24 = .ok (.iaload, 1) := by decide +kernel
theorem dX8_squareClaim_25 : decode cX8_squareClaim 25 = .ok (.i2l, 1) := by decide +kernel
theorem dX8_squareClaim_26 : decode cX8_squareClaim 26 = .ok (.ladd, 1) := by decide +kernel
theorem dX8_squareClaim_27 : decode cX8_squareClaim 27 = .ok (.lstore_n 2, 1) := by decide +kernel
theorem dX8_squareClaim_28 : decode cX8_squareClaim 28 = .ok (.iinc 4 1, 3) := by decide +kernel
theorem dX8_squareClaim_31 : decode cX8_squareClaim 31 = .ok (.goto (-26), 3) := by decide +kernel
theorem dX8_squareClaim_34 : decode cX8_squareClaim 34 = .ok (.lload_n 2, 1) := by decide +kernel
theorem dX8_squareClaim_35 : decode cX8_squareClaim 35 = .ok (.lload_n 2, 1) := by decide +kernel
theorem dX8_squareClaim_36 : decode cX8_squareClaim 36 = .ok (.lmul, 1) := by decide +kernel
theorem dX8_squareClaim_37 : decode cX8_squareClaim 37 = .ok (.ldc2_w 190, 3) := by decide +kernel
theorem dX8_squareClaim_40 : decode cX8_squareClaim 40 = .ok (.ldiv, 1) := by decide +kernel
theorem dX8_squareClaim_41 : decode cX8_squareClaim 41 = .ok (.l2i, 1) := by decide +kernel
theorem dX8_squareClaim_42 : decode cX8_squareClaim 42 = .ok (.aload_n 0, 1) := by decide +kernel
theorem dX8_squareClaim_43 : decode cX8_squareClaim 43 = .ok (.iload_n 1, 1) := by decide +kernel
theorem dX8_squareClaim_44 : decode cX8_squareClaim 44 = .ok (.invokevirtual 196, 3) := by decide +kernel
theorem dX8_squareClaim_47 : decode cX8_squareClaim 47 = .ok (.isub, 1) := by decide +kernel
theorem dX8_squareClaim_48 : decode cX8_squareClaim 48 = .ok (.istore 4, 2) := by decide +kernel
theorem dX8_squareClaim_50 : decode cX8_squareClaim 50 = .ok (.iload 4, 2) := by decide +kernel
theorem dX8_squareClaim_52 : decode cX8_squareClaim 52 = .ok (.ifCond .ge 7, 3) := by decide +kernel
theorem dX8_squareClaim_55 : decode cX8_squareClaim 55 = .ok (.iconst 0, 1) := by decide +kernel
theorem dX8_squareClaim_56 : decode cX8_squareClaim 56 = .ok (.goto 5, 3) := by decide +kernel
theorem dX8_squareClaim_59 : decode cX8_squareClaim 59 = .ok (.iload 4, 2) := by decide +kernel
theorem dX8_squareClaim_61 : decode cX8_squareClaim 61 = .ok (.ireturn, 1) := by decide +kernel
theorem dX8_claimOf_0 : decode cX8_claimOf 0 = .ok (.iconst 5, 1) := by decide +kernel
theorem dX8_claimOf_1 : decode cX8_claimOf 1 = .ok (.aload_n 0, 1) := by decide +kernel
theorem dX8_claimOf_2 : decode cX8_claimOf 2 = .ok (.iload_n 2, 1) := by decide +kernel
theorem dX8_claimOf_3 : decode cX8_claimOf 3 = .ok (.invokevirtual 199, 3) := by decide +kernel
theorem dX8_claimOf_6 : decode cX8_claimOf 6 = .ok (.invokestatic 202, 3) := by decide +kernel
theorem dX8_claimOf_9 : decode cX8_claimOf 9 = .ok (.imul, 1) := by decide +kernel
theorem dX8_claimOf_10 : decode cX8_claimOf 10 = .ok (.istore_n 3, 1) := by decide +kernel
theorem dX8_claimOf_11 : decode cX8_claimOf 11 = .ok (.aload_n 1, 1) := by decide +kernel
theorem dX8_claimOf_12 : decode cX8_claimOf 12 = .ok (.iconst 4, 1) := by decide +kernel
theorem dX8_claimOf_13 : decode cX8_claimOf 13 = .ok (.iload_n 2, 1) := by decide +kernel
theorem dX8_claimOf_14 : decode cX8_claimOf 14 = .ok (.iadd, 1) := by decide +kernel
theorem dX8_claimOf_15 : decode cX8_claimOf 15 = .ok (.iaload, 1) := by decide +kernel
theorem dX8_claimOf_16 : decode cX8_claimOf 16 = .ok (.tableswitch 60 1 4 #[32, 39, 45, 54], 32) := by decide +kernel
theorem dX8_claimOf_48 : decode cX8_claimOf 48 = .ok (.aload_n 0, 1) := by decide +kernel
theorem dX8_claimOf_49 : decode cX8_claimOf 49 = .ok (.aload_n 1, 1) := by decide +kernel
theorem dX8_claimOf_50 : decode cX8_claimOf 50 = .ok (.iload_n 2, 1) := by decide +kernel
theorem dX8_claimOf_51 : decode cX8_claimOf 51 = .ok (.invokevirtual 205, 3) := by decide +kernel
theorem dX8_claimOf_54 : decode cX8_claimOf 54 = .ok (.ireturn, 1) := by decide +kernel
theorem dX8_claimOf_55 : decode cX8_claimOf 55 = .ok (.aload_n 0, 1) := by decide +kernel
theorem dX8_claimOf_56 : decode cX8_claimOf 56 = .ok (.iload_n 2, 1) := by decide +kernel
theorem dX8_claimOf_57 : decode cX8_claimOf 57 = .ok (.invokevirtual 209, 3) := by decide +kernel
theorem dX8_claimOf_60 : decode cX8_claimOf 60 = .ok (.ireturn, 1) := by decide +kernel
theorem dX8_claimOf_61 : decode cX8_claimOf 61 = .ok (.aload_n 0, 1) := by decide +kernel
theorem dX8_claimOf_62 : decode cX8_claimOf 62 = .ok (.aload_n 1, 1) := by decide +kernel
theorem dX8_claimOf_63 : decode cX8_claimOf 63 = .ok (.iload_n 2, 1) := by decide +kernel
theorem dX8_claimOf_64 : decode cX8_claimOf 64 = .ok (.invokevirtual 205, 3) := by decide +kernel
theorem dX8_claimOf_67 : decode cX8_claimOf 67 = .ok (.iconst 2, 1) := by decide +kernel
theorem dX8_claimOf_68 : decode cX8_claimOf 68 = .ok (.idiv, 1) := by decide +kernel
theorem dX8_claimOf_69 : decode cX8_claimOf 69 = .ok (.ireturn, 1) := by decide +kernel
theorem dX8_claimOf_70 : decode cX8_claimOf 70 = .ok (.aload_n 0, 1) := by decide +kernel
theorem dX8_claimOf_71 : decode cX8_claimOf 71 = .ok (.iload_n 2, 1) := by decide +kernel
theorem dX8_claimOf_72 : decode cX8_claimOf 72 = .ok (.invokevirtual 196, 3) := by decide +kernel
theorem dX8_claimOf_75 : decode cX8_claimOf 75 = .ok (.ireturn, 1) := by decide +kernel
theorem dX8_claimOf_76 : decode cX8_claimOf 76 = .ok (.aload_n 0, 1) := by decide +kernel
theorem dX8_claimOf_77 : decode cX8_claimOf 77 = .ok (.iload_n 2, 1) := by decide +kernel
theorem dX8_claimOf_78 : decode cX8_claimOf 78 = .ok (.invokevirtual 196, 3) := by decide +kernel
theorem dX8_claimOf_81 : decode cX8_claimOf 81 = .ok (.iload_n 3, 1) := by decide +kernel
theorem dX8_claimOf_82 : decode cX8_claimOf 82 = .ok (.if_icmp .ge 11, 3) := by decide +kernel
theorem dX8_claimOf_85 : decode cX8_claimOf 85 = .ok (.aload_n 0, 1) := by decide +kernel
theorem dX8_claimOf_86 : decode cX8_claimOf 86 = .ok (.iload_n 2, 1) := by decide +kernel
theorem dX8_claimOf_87 : decode cX8_claimOf 87 = .ok (.invokevirtual 196, 3) := by decide +kernel
theorem dX8_claimOf_90 : decode cX8_claimOf 90 = .ok (.goto 4, 3) := by decide +kernel
theorem dX8_claimOf_93 : decode cX8_claimOf 93 = .ok (.iload_n 3, 1) := by decide +kernel
theorem dX8_claimOf_94 : decode cX8_claimOf 94 = .ok (.ireturn, 1) := by decide +kernel
theorem dX8_claimsTogether_0 : decode cX8_claimsTogether 0 = .ok (.iconst 0, 1) := by decide +kernel
theorem dX8_claimsTogether_1 : decode cX8_claimsTogether 1 = .ok (.istore_n 2, 1) := by decide +kernel
theorem dX8_claimsTogether_2 : decode cX8_claimsTogether 2 = .ok (.iconst 0, 1) := by decide +kernel
theorem dX8_claimsTogether_3 : decode cX8_claimsTogether 3 = .ok (.istore_n 3, 1) := by decide +kernel
theorem dX8_claimsTogether_4 : decode cX8_claimsTogether 4 = .ok (.iload_n 3, 1) := by decide +kernel
theorem dX8_claimsTogether_5 : decode cX8_claimsTogether 5 = .ok (.aload_n 1, 1) := by decide +kernel
theorem dX8_claimsTogether_6 : decode cX8_claimsTogether 6 = .ok (.iconst 0, 1) := by decide +kernel
theorem dX8_claimsTogether_7 : decode cX8_claimsTogether 7 = .ok (.iaload, 1) := by decide +kernel
theorem dX8_claimsTogether_8 : decode cX8_claimsTogether 8 = .ok (.if_icmp .ge 18, 3) := by decide +kernel
theorem dX8_claimsTogether_11 : decode cX8_claimsTogether 11 = .ok (.iload_n 2, 1) := by decide +kernel
theorem dX8_claimsTogether_12 : decode cX8_claimsTogether 12 = .ok (.aload_n 0, 1) := by decide +kernel
theorem dX8_claimsTogether_13 : decode cX8_claimsTogether 13 = .ok (.getfield 43, 3) := by decide +kernel
theorem dX8_claimsTogether_16 : decode cX8_claimsTogether 16 = .ok (.iload_n 3, 1) := by decide +kernel
theorem dX8_claimsTogether_17 : decode cX8_claimsTogether 17 = .ok (.iaload, 1) := by decide +kernel
theorem dX8_claimsTogether_18 : decode cX8_claimsTogether 18 = .ok (.iadd, 1) := by decide +kernel
theorem dX8_claimsTogether_19 : decode cX8_claimsTogether 19 = .ok (.istore_n 2, 1) := by decide +kernel
theorem dX8_claimsTogether_20 : decode cX8_claimsTogether 20 = .ok (.iinc 3 1, 3) := by decide +kernel
theorem dX8_claimsTogether_23 : decode cX8_claimsTogether 23 = .ok (.goto (-19), 3) := by decide +kernel
theorem dX8_claimsTogether_26 : decode cX8_claimsTogether 26 = .ok (.iload_n 2, 1) := by decide +kernel
theorem dX8_claimsTogether_27 : decode cX8_claimsTogether 27 = .ok (.ireturn, 1) := by decide +kernel
theorem dX8_pay_0 : decode cX8_pay 0 = .ok (.aload_n 0, 1) := by decide +kernel
theorem dX8_pay_1 : decode cX8_pay 1 = .ok (.aload_n 1, 1) := by decide +kernel
theorem dX8_pay_2 : decode cX8_pay 2 = .ok (.invokevirtual 212, 3) := by decide +kernel
theorem dX8_pay_5 : decode cX8_pay 5 = .ok (.istore_n 2, 1) := by decide +kernel
theorem dX8_pay_6 : decode cX8_pay 6 = .ok (.aload_n 0, 1) := by decide +kernel
theorem dX8_pay_7 : decode cX8_pay 7 = .ok (.aload_n 1, 1) := by decide +kernel
theorem dX8_pay_8 : decode cX8_pay 8 = .ok (.iconst 1, 1) := by decide +kernel
theorem dX8_pay_9 : decode cX8_pay 9 = .ok (.iaload, 1) := by decide +kernel
theorem dX8_pay_10 : decode cX8_pay 10 = .ok (.putfield 216, 3) := by decide +kernel
theorem dX8_pay_13 : decode cX8_pay 13 = .ok (.iconst 0, 1) := by decide +kernel
theorem dX8_pay_14 : decode cX8_pay 14 = .ok (.istore_n 3, 1) := by decide +kernel
theorem dX8_pay_15 : decode cX8_pay 15 = .ok (.iload_n 3, 1) := by decide +kernel
theorem dX8_pay_16 : decode cX8_pay 16 = .ok (.aload_n 1, 1) := by decide +kernel
theorem dX8_pay_17 : decode cX8_pay 17 = .ok (.iconst 0, 1) := by decide +kernel
theorem dX8_pay_18 : decode cX8_pay 18 = .ok (.iaload, 1) := by decide +kernel
theorem dX8_pay_19 : decode cX8_pay 19 = .ok (.if_icmp .ge 62, 3) := by decide +kernel
theorem dX8_pay_22 : decode cX8_pay 22 = .ok (.aload_n 0, 1) := by decide +kernel
theorem dX8_pay_23 : decode cX8_pay 23 = .ok (.getfield 46, 3) := by decide +kernel
theorem dX8_pay_26 : decode cX8_pay 26 = .ok (.iload_n 3, 1) := by decide +kernel
theorem dX8_pay_27 : decode cX8_pay 27 = .ok (.iload_n 2, 1) := by decide +kernel
theorem dX8_pay_28 : decode cX8_pay 28 = .ok (.aload_n 1, 1) := by decide +kernel
theorem dX8_pay_29 : decode cX8_pay 29 = .ok (.iconst 1, 1) := by decide +kernel
theorem dX8_pay_30 : decode cX8_pay 30 = .ok (.iaload, 1) := by decide +kernel
theorem dX8_pay_31 : decode cX8_pay 31 = .ok (.if_icmp .gt 12, 3) := by decide +kernel
theorem dX8_pay_34 : decode cX8_pay 34 = .ok (.aload_n 0, 1) := by decide +kernel
theorem dX8_pay_35 : decode cX8_pay 35 = .ok (.getfield 43, 3) := by decide +kernel
theorem dX8_pay_38 : decode cX8_pay 38 = .ok (.iload_n 3, 1) := by decide +kernel
theorem dX8_pay_39 : decode cX8_pay 39 = .ok (.iaload, 1) := by decide +kernel
theorem dX8_pay_40 : decode cX8_pay 40 = .ok (.goto 19, 3) := by decide +kernel
theorem dX8_pay_43 : decode cX8_pay 43 = .ok (.aload_n 0, 1) := by decide +kernel
theorem dX8_pay_44 : decode cX8_pay 44 = .ok (.getfield 43, 3) := by decide +kernel
theorem dX8_pay_47 : decode cX8_pay 47 = .ok (.iload_n 3, 1) := by decide +kernel
theorem dX8_pay_48 : decode cX8_pay 48 = .ok (.iaload, 1) := by decide +kernel
theorem dX8_pay_49 : decode cX8_pay 49 = .ok (.i2l, 1) := by decide +kernel
theorem dX8_pay_50 : decode cX8_pay 50 = .ok (.aload_n 1, 1) := by decide +kernel
theorem dX8_pay_51 : decode cX8_pay 51 = .ok (.iconst 1, 1) := by decide +kernel
theorem dX8_pay_52 : decode cX8_pay 52 = .ok (.iaload, 1) := by decide +kernel
theorem dX8_pay_53 : decode cX8_pay 53 = .ok (.i2l, 1) := by decide +kernel
theorem dX8_pay_54 : decode cX8_pay 54 = .ok (.lmul, 1) := by decide +kernel
theorem dX8_pay_55 : decode cX8_pay 55 = .ok (.iload_n 2, 1) := by decide +kernel
theorem dX8_pay_56 : decode cX8_pay 56 = .ok (.i2l, 1) := by decide +kernel
theorem dX8_pay_57 : decode cX8_pay 57 = .ok (.ldiv, 1) := by decide +kernel
theorem dX8_pay_58 : decode cX8_pay 58 = .ok (.l2i, 1) := by decide +kernel
theorem dX8_pay_59 : decode cX8_pay 59 = .ok (.iastore, 1) := by decide +kernel
theorem dX8_pay_60 : decode cX8_pay 60 = .ok (.aload_n 0, 1) := by decide +kernel
theorem dX8_pay_61 : decode cX8_pay 61 = .ok (.dup, 1) := by decide +kernel
theorem dX8_pay_62 : decode cX8_pay 62 = .ok (.getfield 216, 3) := by decide +kernel
theorem dX8_pay_65 : decode cX8_pay 65 = .ok (.aload_n 0, 1) := by decide +kernel
theorem dX8_pay_66 : decode cX8_pay 66 = .ok (.getfield 46, 3) := by decide +kernel
theorem dX8_pay_69 : decode cX8_pay 69 = .ok (.iload_n 3, 1) := by decide +kernel
theorem dX8_pay_70 : decode cX8_pay 70 = .ok (.iaload, 1) := by decide +kernel
theorem dX8_pay_71 : decode cX8_pay 71 = .ok (.isub, 1) := by decide +kernel
theorem dX8_pay_72 : decode cX8_pay 72 = .ok (.putfield 216, 3) := by decide +kernel
theorem dX8_pay_75 : decode cX8_pay 75 = .ok (.iinc 3 1, 3) := by decide +kernel
theorem dX8_pay_78 : decode cX8_pay 78 = .ok (.goto (-63), 3) := by decide +kernel
theorem dX8_pay_81 : decode cX8_pay 81 = .ok (.iconst 0, 1) := by decide +kernel
theorem dX8_pay_82 : decode cX8_pay 82 = .ok (.istore_n 3, 1) := by decide +kernel
theorem dX8_pay_83 : decode cX8_pay 83 = .ok (.iload_n 3, 1) := by decide +kernel
theorem dX8_pay_84 : decode cX8_pay 84 = .ok (.aload_n 1, 1) := by decide +kernel
theorem dX8_pay_85 : decode cX8_pay 85 = .ok (.iconst 0, 1) := by decide +kernel
theorem dX8_pay_86 : decode cX8_pay 86 = .ok (.iaload, 1) := by decide +kernel
theorem dX8_pay_87 : decode cX8_pay 87 = .ok (.if_icmp .ge 69, 3) := by decide +kernel
theorem dX8_pay_90 : decode cX8_pay 90 = .ok (.iload_n 2, 1) := by decide +kernel
theorem dX8_pay_91 : decode cX8_pay 91 = .ok (.aload_n 1, 1) := by decide +kernel
theorem dX8_pay_92 : decode cX8_pay 92 = .ok (.iconst 1, 1) := by decide +kernel
theorem dX8_pay_93 : decode cX8_pay 93 = .ok (.iaload, 1) := by decide +kernel
theorem dX8_pay_94 : decode cX8_pay 94 = .ok (.if_icmp .le 62, 3) := by decide +kernel
theorem dX8_pay_97 : decode cX8_pay 97 = .ok (.aload_n 0, 1) := by decide +kernel
theorem dX8_pay_98 : decode cX8_pay 98 = .ok (.getfield 216, 3) := by decide +kernel
theorem dX8_pay_101 : decode cX8_pay 101 = .ok (.ifCond .le 55, 3) := by decide +kernel
theorem dX8_pay_104 : decode cX8_pay 104 = .ok (.aload_n 0, 1) := by decide +kernel
theorem dX8_pay_105 : decode cX8_pay 105 = .ok (.getfield 46, 3) := by decide +kernel
theorem dX8_pay_108 : decode cX8_pay 108 = .ok (.iload_n 3, 1) := by decide +kernel
theorem dX8_pay_109 : decode cX8_pay 109 = .ok (.dup2, 1) := by decide +kernel
theorem dX8_pay_110 : decode cX8_pay 110 = .ok (.iaload, 1) := by decide +kernel
theorem dX8_pay_111 : decode cX8_pay 111 = .ok (.aload_n 0, 1) := by decide +kernel
theorem dX8_pay_112 : decode cX8_pay 112 = .ok (.getfield 43, 3) := by decide +kernel
theorem dX8_pay_115 : decode cX8_pay 115 = .ok (.iload_n 3, 1) := by decide +kernel
theorem dX8_pay_116 : decode cX8_pay 116 = .ok (.iaload, 1) := by decide +kernel
theorem dX8_pay_117 : decode cX8_pay 117 = .ok (.ifCond .le 7, 3) := by decide +kernel
theorem dX8_pay_120 : decode cX8_pay 120 = .ok (.iconst 1, 1) := by decide +kernel
theorem dX8_pay_121 : decode cX8_pay 121 = .ok (.goto 4, 3) := by decide +kernel
theorem dX8_pay_124 : decode cX8_pay 124 = .ok (.iconst 0, 1) := by decide +kernel
theorem dX8_pay_125 : decode cX8_pay 125 = .ok (.iadd, 1) := by decide +kernel
theorem dX8_pay_126 : decode cX8_pay 126 = .ok (.iastore, 1) := by decide +kernel
theorem dX8_pay_127 : decode cX8_pay 127 = .ok (.aload_n 0, 1) := by decide +kernel
theorem dX8_pay_128 : decode cX8_pay 128 = .ok (.dup, 1) := by decide +kernel
theorem dX8_pay_129 : decode cX8_pay 129 = .ok (.getfield 216, 3) := by decide +kernel
theorem dX8_pay_132 : decode cX8_pay 132 = .ok (.aload_n 0, 1) := by decide +kernel
theorem dX8_pay_133 : decode cX8_pay 133 = .ok (.getfield 43, 3) := by decide +kernel
theorem dX8_pay_136 : decode cX8_pay 136 = .ok (.iload_n 3, 1) := by decide +kernel
theorem dX8_pay_137 : decode cX8_pay 137 = .ok (.iaload, 1) := by decide +kernel
theorem dX8_pay_138 : decode cX8_pay 138 = .ok (.ifCond .le 7, 3) := by decide +kernel
theorem dX8_pay_141 : decode cX8_pay 141 = .ok (.iconst 1, 1) := by decide +kernel
theorem dX8_pay_142 : decode cX8_pay 142 = .ok (.goto 4, 3) := by decide +kernel
theorem dX8_pay_145 : decode cX8_pay 145 = .ok (.iconst 0, 1) := by decide +kernel
theorem dX8_pay_146 : decode cX8_pay 146 = .ok (.isub, 1) := by decide +kernel
theorem dX8_pay_147 : decode cX8_pay 147 = .ok (.putfield 216, 3) := by decide +kernel
theorem dX8_pay_150 : decode cX8_pay 150 = .ok (.iinc 3 1, 3) := by decide +kernel
theorem dX8_pay_153 : decode cX8_pay 153 = .ok (.goto (-70), 3) := by decide +kernel
theorem dX8_pay_156 : decode cX8_pay 156 = .ok (.return_, 1) := by decide +kernel
theorem dX8_reckon_0 : decode cX8_reckon 0 = .ok (.aload_n 0, 1) := by decide +kernel
theorem dX8_reckon_1 : decode cX8_reckon 1 = .ok (.aload_n 1, 1) := by decide +kernel
theorem dX8_reckon_2 : decode cX8_reckon 2 = .ok (.invokevirtual 219, 3) := by decide +kernel
theorem dX8_reckon_5 : decode cX8_reckon 5 = .ok (.iconst 0, 1) := by decide +kernel
theorem dX8_reckon_6 : decode cX8_reckon 6 = .ok (.istore_n 2, 1) := by decide +kernel
theorem dX8_reckon_7 : decode cX8_reckon 7 = .ok (.iload_n 2, 1) := by decide +kernel
theorem dX8_reckon_8 : decode cX8_reckon 8 = .ok (.aload_n 1, 1) := by decide +kernel
theorem dX8_reckon_9 : decode cX8_reckon 9 = .ok (.iconst 0, 1) := by decide +kernel
theorem dX8_reckon_10 : decode cX8_reckon 10 = .ok (.iaload, 1) := by decide +kernel
theorem dX8_reckon_11 : decode cX8_reckon 11 = .ok (.if_icmp .ge 21, 3) := by decide +kernel
theorem dX8_reckon_14 : decode cX8_reckon 14 = .ok (.aload_n 0, 1) := by decide +kernel
theorem dX8_reckon_15 : decode cX8_reckon 15 = .ok (.getfield 43, 3) := by decide +kernel
theorem dX8_reckon_18 : decode cX8_reckon 18 = .ok (.iload_n 2, 1) := by decide +kernel
theorem dX8_reckon_19 : decode cX8_reckon 19 = .ok (.aload_n 0, 1) := by decide +kernel
theorem dX8_reckon_20 : decode cX8_reckon 20 = .ok (.aload_n 1, 1) := by decide +kernel
theorem dX8_reckon_21 : decode cX8_reckon 21 = .ok (.iload_n 2, 1) := by decide +kernel
theorem dX8_reckon_22 : decode cX8_reckon 22 = .ok (.invokevirtual 223, 3) := by decide +kernel
theorem dX8_reckon_25 : decode cX8_reckon 25 = .ok (.iastore, 1) := by decide +kernel
theorem dX8_reckon_26 : decode cX8_reckon 26 = .ok (.iinc 2 1, 3) := by decide +kernel
theorem dX8_reckon_29 : decode cX8_reckon 29 = .ok (.goto (-22), 3) := by decide +kernel
theorem dX8_reckon_32 : decode cX8_reckon 32 = .ok (.aload_n 0, 1) := by decide +kernel
theorem dX8_reckon_33 : decode cX8_reckon 33 = .ok (.aload_n 1, 1) := by decide +kernel
theorem dX8_reckon_34 : decode cX8_reckon 34 = .ok (.invokevirtual 226, 3) := by decide +kernel
theorem dX8_reckon_37 : decode cX8_reckon 37 = .ok (.return_, 1) := by decide +kernel
theorem dX8_layThen_0 : decode cX8_layThen 0 = .ok (.iconst 0, 1) := by decide +kernel
theorem dX8_layThen_1 : decode cX8_layThen 1 = .ok (.istore_n 1, 1) := by decide +kernel
theorem dX8_layThen_2 : decode cX8_layThen 2 = .ok (.iload_n 1, 1) := by decide +kernel
theorem dX8_layThen_3 : decode cX8_layThen 3 = .ok (.bipush 80, 2) := by decide +kernel
theorem dX8_layThen_5 : decode cX8_layThen 5 = .ok (.if_icmp .ge 21, 3) := by decide +kernel
theorem dX8_layThen_8 : decode cX8_layThen 8 = .ok (.aload_n 0, 1) := by decide +kernel
theorem dX8_layThen_9 : decode cX8_layThen 9 = .ok (.getfield 25, 3) := by decide +kernel
theorem dX8_layThen_12 : decode cX8_layThen 12 = .ok (.iload_n 1, 1) := by decide +kernel
theorem dX8_layThen_13 : decode cX8_layThen 13 = .ok (.aload_n 0, 1) := by decide +kernel
theorem dX8_layThen_14 : decode cX8_layThen 14 = .ok (.getfield 19, 3) := by decide +kernel
theorem dX8_layThen_17 : decode cX8_layThen 17 = .ok (.iload_n 1, 1) := by decide +kernel
theorem dX8_layThen_18 : decode cX8_layThen 18 = .ok (.iaload, 1) := by decide +kernel
theorem dX8_layThen_19 : decode cX8_layThen 19 = .ok (.iastore, 1) := by decide +kernel
theorem dX8_layThen_20 : decode cX8_layThen 20 = .ok (.iinc 1 1, 3) := by decide +kernel
theorem dX8_layThen_23 : decode cX8_layThen 23 = .ok (.goto (-21), 3) := by decide +kernel
theorem dX8_layThen_26 : decode cX8_layThen 26 = .ok (.return_, 1) := by decide +kernel
theorem dX8_layGift_0 : decode cX8_layGift 0 = .ok (.aload_n 0, 1) := by decide +kernel
theorem dX8_layGift_1 : decode cX8_layGift 1 = .ok (.invokevirtual 229, 3) := by decide +kernel
theorem dX8_layGift_4 : decode cX8_layGift 4 = .ok (.iload_n 3, 1) := by decide +kernel
theorem dX8_layGift_5 : decode cX8_layGift 5 = .ok (.ifCond .le 13, 3) := by decide +kernel
theorem dX8_layGift_8 : decode cX8_layGift 8 = .ok (.aload_n 0, 1) := by decide +kernel
theorem dX8_layGift_9 : decode cX8_layGift 9 = .ok (.getfield 25, 3) := by decide +kernel
theorem dX8_layGift_12 : decode cX8_layGift 12 = .ok (.iload_n 1, 1) := by decide +kernel
theorem dX8_layGift_13 : decode cX8_layGift 13 = .ok (.iload_n 2, 1) := by decide +kernel
theorem dX8_layGift_14 : decode cX8_layGift 14 = .ok (.iload_n 3, 1) := by decide +kernel
theorem dX8_layGift_15 : decode cX8_layGift 15 = .ok (.invokestatic 144, 3) := by decide +kernel
theorem dX8_layGift_18 : decode cX8_layGift 18 = .ok (.aload_n 0, 1) := by decide +kernel
theorem dX8_layGift_19 : decode cX8_layGift 19 = .ok (.aload_n 0, 1) := by decide +kernel
theorem dX8_layGift_20 : decode cX8_layGift 20 = .ok (.getfield 25, 3) := by decide +kernel
theorem dX8_layGift_23 : decode cX8_layGift 23 = .ok (.invokevirtual 232, 3) := by decide +kernel
theorem dX8_layGift_26 : decode cX8_layGift 26 = .ok (.return_, 1) := by decide +kernel
theorem dX8_keep_0 : decode cX8_keep 0 = .ok (.aload_n 0, 1) := by decide +kernel
theorem dX8_keep_1 : decode cX8_keep 1 = .ok (.getfield 171, 3) := by decide +kernel
theorem dX8_keep_4 : decode cX8_keep 4 = .ok (.bipush 24, 2) := by decide +kernel
theorem dX8_keep_6 : decode cX8_keep 6 = .ok (.if_icmp .ne 43, 3) := by decide +kernel
theorem dX8_keep_9 : decode cX8_keep 9 = .ok (.iconst 0, 1) := by decide +kernel
theorem dX8_keep_10 : decode cX8_keep 10 = .ok (.istore_n 1, 1) := by decide +kernel
theorem dX8_keep_11 : decode cX8_keep 11 = .ok (.iload_n 1, 1) := by decide +kernel
theorem dX8_keep_12 : decode cX8_keep 12 = .ok (.sipush 1840, 3) := by decide +kernel
theorem dX8_keep_15 : decode cX8_keep 15 = .ok (.if_icmp .ge 24, 3) := by decide +kernel
theorem dX8_keep_18 : decode cX8_keep 18 = .ok (.aload_n 0, 1) := by decide +kernel
theorem dX8_keep_19 : decode cX8_keep 19 = .ok (.getfield 28, 3) := by decide +kernel
theorem dX8_keep_22 : decode cX8_keep 22 = .ok (.iload_n 1, 1) := by decide +kernel
theorem dX8_keep_23 : decode cX8_keep 23 = .ok (.aload_n 0, 1) := by decide +kernel
theorem dX8_keep_24 : decode cX8_keep 24 = .ok (.getfield 28, 3) := by decide +kernel
theorem dX8_keep_27 : decode cX8_keep 27 = .ok (.iload_n 1, 1) := by decide +kernel
theorem dX8_keep_28 : decode cX8_keep 28 = .ok (.bipush 80, 2) := by decide +kernel
theorem dX8_keep_30 : decode cX8_keep 30 = .ok (.iadd, 1) := by decide +kernel
theorem dX8_keep_31 : decode cX8_keep 31 = .ok (.iaload, 1) := by decide +kernel
theorem dX8_keep_32 : decode cX8_keep 32 = .ok (.iastore, 1) := by decide +kernel
theorem dX8_keep_33 : decode cX8_keep 33 = .ok (.iinc 1 1, 3) := by decide +kernel
theorem dX8_keep_36 : decode cX8_keep 36 = .ok (.goto (-25), 3) := by decide +kernel
theorem dX8_keep_39 : decode cX8_keep 39 = .ok (.aload_n 0, 1) := by decide +kernel
theorem dX8_keep_40 : decode cX8_keep 40 = .ok (.dup, 1) := by decide +kernel
theorem dX8_keep_41 : decode cX8_keep 41 = .ok (.getfield 171, 3) := by decide +kernel
theorem dX8_keep_44 : decode cX8_keep 44 = .ok (.iconst 1, 1) := by decide +kernel
theorem dX8_keep_45 : decode cX8_keep 45 = .ok (.isub, 1) := by decide +kernel
theorem dX8_keep_46 : decode cX8_keep 46 = .ok (.putfield 171, 3) := by decide +kernel
theorem dX8_keep_49 : decode cX8_keep 49 = .ok (.iconst 0, 1) := by decide +kernel
theorem dX8_keep_50 : decode cX8_keep 50 = .ok (.istore_n 1, 1) := by decide +kernel
theorem dX8_keep_51 : decode cX8_keep 51 = .ok (.iload_n 1, 1) := by decide +kernel
theorem dX8_keep_52 : decode cX8_keep 52 = .ok (.bipush 80, 2) := by decide +kernel
theorem dX8_keep_54 : decode cX8_keep 54 = .ok (.if_icmp .ge 29, 3) := by decide +kernel
theorem dX8_keep_57 : decode cX8_keep 57 = .ok (.aload_n 0, 1) := by decide +kernel
theorem dX8_keep_58 : decode cX8_keep 58 = .ok (.getfield 28, 3) := by decide +kernel
theorem dX8_keep_61 : decode cX8_keep 61 = .ok (.bipush 80, 2) := by decide +kernel
theorem dX8_keep_63 : decode cX8_keep 63 = .ok (.aload_n 0, 1) := by decide +kernel
theorem dX8_keep_64 : decode cX8_keep 64 = .ok (.getfield 171, 3) := by decide +kernel
theorem dX8_keep_67 : decode cX8_keep 67 = .ok (.imul, 1) := by decide +kernel
theorem dX8_keep_68 : decode cX8_keep 68 = .ok (.iload_n 1, 1) := by decide +kernel
theorem dX8_keep_69 : decode cX8_keep 69 = .ok (.iadd, 1) := by decide +kernel
theorem dX8_keep_70 : decode cX8_keep 70 = .ok (.aload_n 0, 1) := by decide +kernel
theorem dX8_keep_71 : decode cX8_keep 71 = .ok (.getfield 19, 3) := by decide +kernel
theorem dX8_keep_74 : decode cX8_keep 74 = .ok (.iload_n 1, 1) := by decide +kernel
theorem dX8_keep_75 : decode cX8_keep 75 = .ok (.iaload, 1) := by decide +kernel
theorem dX8_keep_76 : decode cX8_keep 76 = .ok (.iastore, 1) := by decide +kernel
theorem dX8_keep_77 : decode cX8_keep 77 = .ok (.iinc 1 1, 3) := by decide +kernel
theorem dX8_keep_80 : decode cX8_keep 80 = .ok (.goto (-29), 3) := by decide +kernel
theorem dX8_keep_83 : decode cX8_keep 83 = .ok (.aload_n 0, 1) := by decide +kernel
theorem dX8_keep_84 : decode cX8_keep 84 = .ok (.dup, 1) := by decide +kernel
theorem dX8_keep_85 : decode cX8_keep 85 = .ok (.getfield 171, 3) := by decide +kernel
theorem dX8_keep_88 : decode cX8_keep 88 = .ok (.iconst 1, 1) := by decide +kernel
theorem dX8_keep_89 : decode cX8_keep 89 = .ok (.iadd, 1) := by decide +kernel
theorem dX8_keep_90 : decode cX8_keep 90 = .ok (.putfield 171, 3) := by decide +kernel
theorem dX8_keep_93 : decode cX8_keep 93 = .ok (.return_, 1) := by decide +kernel
theorem dX8_isGiving_0 : decode cX8_isGiving 0 = .ok (.aload_n 0, 1) := by decide +kernel
theorem dX8_isGiving_1 : decode cX8_isGiving 1 = .ok (.iload_n 1, 1) := by decide +kernel
theorem dX8_isGiving_2 : decode cX8_isGiving 2 = .ok (.invokevirtual 235, 3) := by decide +kernel
theorem dX8_isGiving_5 : decode cX8_isGiving 5 = .ok (.ifCond .eq 15, 3) := by decide +kernel
theorem dX8_isGiving_8 : decode cX8_isGiving 8 = .ok (.aload_n 0, 1) := by decide +kernel
theorem dX8_isGiving_9 : decode cX8_isGiving 9 = .ok (.iload_n 2, 1) := by decide +kernel
theorem dX8_isGiving_10 : decode cX8_isGiving 10 = .ok (.invokevirtual 238, 3) := by decide +kernel
theorem dX8_isGiving_13 : decode cX8_isGiving 13 = .ok (.ifCond .eq 7, 3) := by decide +kernel
theorem dX8_isGiving_16 : decode cX8_isGiving 16 = .ok (.iconst 1, 1) := by decide +kernel
theorem dX8_isGiving_17 : decode cX8_isGiving 17 = .ok (.goto 4, 3) := by decide +kernel
theorem dX8_isGiving_20 : decode cX8_isGiving 20 = .ok (.iconst 0, 1) := by decide +kernel
theorem dX8_isGiving_21 : decode cX8_isGiving 21 = .ok (.ireturn, 1) := by decide +kernel
theorem dX8_give_0 : decode cX8_give 0 = .ok (.aload_n 0, 1) := by decide +kernel
theorem dX8_give_1 : decode cX8_give 1 = .ok (.iconst 0, 1) := by decide +kernel
theorem dX8_give_2 : decode cX8_give 2 = .ok (.putfield 62, 3) := by decide +kernel
theorem dX8_give_5 : decode cX8_give 5 = .ok (.aload_n 0, 1) := by decide +kernel
theorem dX8_give_6 : decode cX8_give 6 = .ok (.iload_n 1, 1) := by decide +kernel
theorem dX8_give_7 : decode cX8_give 7 = .ok (.iload_n 2, 1) := by decide +kernel
theorem dX8_give_8 : decode cX8_give 8 = .ok (.invokevirtual 241, 3) := by decide +kernel
theorem dX8_give_11 : decode cX8_give 11 = .ok (.ifCond .eq 15, 3) := by decide +kernel
theorem dX8_give_14 : decode cX8_give 14 = .ok (.iload_n 3, 1) := by decide +kernel
theorem dX8_give_15 : decode cX8_give 15 = .ok (.i2l, 1) := by decide +kernel
theorem dX8_give_16 : decode cX8_give 16 = .ok (.lconst 1, 1) := by decide +kernel
theorem dX8_give_17 : decode cX8_give 17 = .ok (.ldc2_w 245, 3) := by decide +kernel
theorem dX8_give_20 : decode cX8_give 20 = .ok (.invokestatic 72, 3) := by decide +kernel
theorem dX8_give_23 : decode cX8_give 23 = .ok (.ifCond .ne 6, 3) := by decide +kernel
theorem dX8_give_26 : decode cX8_give 26 = .ok (.ldc 82, 2) := by decide +kernel
theorem dX8_give_28 : decode cX8_give 28 = .ok (.ireturn, 1) := by decide +kernel
theorem dX8_give_29 : decode cX8_give 29 = .ok (.aload_n 0, 1) := by decide +kernel
theorem dX8_give_30 : decode cX8_give 30 = .ok (.getfield 19, 3) := by decide +kernel
theorem dX8_give_33 : decode cX8_give 33 = .ok (.iconst 3, 1) := by decide +kernel
theorem dX8_give_34 : decode cX8_give 34 = .ok (.iaload, 1) := by decide +kernel
theorem dX8_give_35 : decode cX8_give 35 = .ok (.bipush 20, 2) := by decide +kernel
theorem dX8_give_37 : decode cX8_give 37 = .ok (.if_icmp .ne 6, 3) := by decide +kernel
theorem dX8_give_40 : decode cX8_give 40 = .ok (.ldc 92, 2) := by decide +kernel
theorem dX8_give_42 : decode cX8_give 42 = .ok (.ireturn, 1) := by decide +kernel
theorem dX8_give_43 : decode cX8_give 43 = .ok (.aload_n 0, 1) := by decide +kernel
theorem dX8_give_44 : decode cX8_give 44 = .ok (.invokevirtual 247, 3) := by decide +kernel
theorem dX8_give_47 : decode cX8_give 47 = .ok (.aload_n 0, 1) := by decide +kernel
theorem dX8_give_48 : decode cX8_give 48 = .ok (.getfield 19, 3) := by decide +kernel
theorem dX8_give_51 : decode cX8_give 51 = .ok (.iload_n 1, 1) := by decide +kernel
theorem dX8_give_52 : decode cX8_give 52 = .ok (.iload_n 2, 1) := by decide +kernel
theorem dX8_give_53 : decode cX8_give 53 = .ok (.iload_n 3, 1) := by decide +kernel
theorem dX8_give_54 : decode cX8_give 54 = .ok (.invokestatic 144, 3) := by decide +kernel
theorem dX8_give_57 : decode cX8_give 57 = .ok (.aload_n 0, 1) := by decide +kernel
theorem dX8_give_58 : decode cX8_give 58 = .ok (.getfield 19, 3) := by decide +kernel
theorem dX8_give_61 : decode cX8_give 61 = .ok (.iconst 3, 1) := by decide +kernel
theorem dX8_give_62 : decode cX8_give 62 = .ok (.iaload, 1) := by decide +kernel
theorem dX8_give_63 : decode cX8_give 63 = .ok (.ireturn, 1) := by decide +kernel
theorem dX8_back_0 : decode cX8_back 0 = .ok (.aload_n 0, 1) := by decide +kernel
theorem dX8_back_1 : decode cX8_back 1 = .ok (.iconst 0, 1) := by decide +kernel
theorem dX8_back_2 : decode cX8_back 2 = .ok (.putfield 62, 3) := by decide +kernel
theorem dX8_back_5 : decode cX8_back 5 = .ok (.aload_n 0, 1) := by decide +kernel
theorem dX8_back_6 : decode cX8_back 6 = .ok (.iload_n 1, 1) := by decide +kernel
theorem dX8_back_7 : decode cX8_back 7 = .ok (.invokevirtual 250, 3) := by decide +kernel
theorem dX8_back_10 : decode cX8_back 10 = .ok (.ifCond .ne 6, 3) := by decide +kernel
theorem dX8_back_13 : decode cX8_back 13 = .ok (.ldc 82, 2) := by decide +kernel
theorem dX8_back_15 : decode cX8_back 15 = .ok (.ireturn, 1) := by decide +kernel
theorem dX8_back_16 : decode cX8_back 16 = .ok (.aload_n 0, 1) := by decide +kernel
theorem dX8_back_17 : decode cX8_back 17 = .ok (.invokevirtual 247, 3) := by decide +kernel
theorem dX8_back_20 : decode cX8_back 20 = .ok (.aload_n 0, 1) := by decide +kernel
theorem dX8_back_21 : decode cX8_back 21 = .ok (.getfield 19, 3) := by decide +kernel
theorem dX8_back_24 : decode cX8_back 24 = .ok (.iload_n 1, 1) := by decide +kernel
theorem dX8_back_25 : decode cX8_back 25 = .ok (.iconst 2, 1) := by decide +kernel
theorem dX8_back_26 : decode cX8_back 26 = .ok (.invokestatic 183, 3) := by decide +kernel
theorem dX8_back_29 : decode cX8_back 29 = .ok (.istore_n 2, 1) := by decide +kernel
theorem dX8_back_30 : decode cX8_back 30 = .ok (.aload_n 0, 1) := by decide +kernel
theorem dX8_back_31 : decode cX8_back 31 = .ok (.getfield 19, 3) := by decide +kernel
theorem dX8_back_34 : decode cX8_back 34 = .ok (.iconst 3, 1) := by decide +kernel
theorem dX8_back_35 : decode cX8_back 35 = .ok (.dup2, 1) := by decide +kernel
theorem dX8_back_36 : decode cX8_back 36 = .ok (.iaload, 1) := by decide +kernel
theorem dX8_back_37 : decode cX8_back 37 = .ok (.iconst 1, 1) := by decide +kernel
theorem dX8_back_38 : decode cX8_back 38 = .ok (.isub, 1) := by decide +kernel
theorem dX8_back_39 : decode cX8_back 39 = .ok (.iastore, 1) := by decide +kernel
theorem dX8_back_40 : decode cX8_back 40 = .ok (.iload_n 1, 1) := by decide +kernel
theorem dX8_back_41 : decode cX8_back 41 = .ok (.istore_n 3, 1) := by decide +kernel
theorem dX8_back_42 : decode cX8_back 42 = .ok (.iload_n 3, 1) := by decide +kernel
theorem dX8_back_43 : decode cX8_back 43 = .ok (.aload_n 0, 1) := by decide +kernel
theorem dX8_back_44 : decode cX8_back 44 = .ok (.getfield 19, 3) := by decide +kernel
theorem dX8_back_47 : decode cX8_back 47 = .ok (.iconst 3, 1) := by decide +kernel
theorem dX8_back_48 : decode cX8_back 48 = .ok (.iaload, 1) := by decide +kernel
theorem dX8_back_49 : decode cX8_back 49 = .ok (.if_icmp .ge 50, 3) := by decide +kernel
theorem dX8_back_52 : decode cX8_back 52 = .ok (.aload_n 0, 1) := by decide +kernel
theorem dX8_back_53 : decode cX8_back 53 = .ok (.getfield 19, 3) := by decide +kernel
theorem dX8_back_56 : decode cX8_back 56 = .ok (.iload_n 3, 1) := by decide +kernel
theorem dX8_back_57 : decode cX8_back 57 = .ok (.aload_n 0, 1) := by decide +kernel
theorem dX8_back_58 : decode cX8_back 58 = .ok (.getfield 19, 3) := by decide +kernel
theorem dX8_back_61 : decode cX8_back 61 = .ok (.iload_n 3, 1) := by decide +kernel
theorem dX8_back_62 : decode cX8_back 62 = .ok (.iconst 1, 1) := by decide +kernel
theorem dX8_back_63 : decode cX8_back 63 = .ok (.iadd, 1) := by decide +kernel
theorem dX8_back_64 : decode cX8_back 64 = .ok (.iconst 0, 1) := by decide +kernel
theorem dX8_back_65 : decode cX8_back 65 = .ok (.invokestatic 183, 3) := by decide +kernel
theorem dX8_back_68 : decode cX8_back 68 = .ok (.aload_n 0, 1) := by decide +kernel
theorem dX8_back_69 : decode cX8_back 69 = .ok (.getfield 19, 3) := by decide +kernel
theorem dX8_back_72 : decode cX8_back 72 = .ok (.iload_n 3, 1) := by decide +kernel
theorem dX8_back_73 : decode cX8_back 73 = .ok (.iconst 1, 1) := by decide +kernel
theorem dX8_back_74 : decode cX8_back 74 = .ok (.iadd, 1) := by decide +kernel
theorem dX8_back_75 : decode cX8_back 75 = .ok (.iconst 1, 1) := by decide +kernel
theorem dX8_back_76 : decode cX8_back 76 = .ok (.invokestatic 183, 3) := by decide +kernel
theorem dX8_back_79 : decode cX8_back 79 = .ok (.aload_n 0, 1) := by decide +kernel
theorem dX8_back_80 : decode cX8_back 80 = .ok (.getfield 19, 3) := by decide +kernel
theorem dX8_back_83 : decode cX8_back 83 = .ok (.iload_n 3, 1) := by decide +kernel
theorem dX8_back_84 : decode cX8_back 84 = .ok (.iconst 1, 1) := by decide +kernel
theorem dX8_back_85 : decode cX8_back 85 = .ok (.iadd, 1) := by decide +kernel
theorem dX8_back_86 : decode cX8_back 86 = .ok (.iconst 2, 1) := by decide +kernel
theorem dX8_back_87 : decode cX8_back 87 = .ok (.invokestatic 183, 3) := by decide +kernel
theorem dX8_back_90 : decode cX8_back 90 = .ok (.invokestatic 179, 3) := by decide +kernel
theorem dX8_back_93 : decode cX8_back 93 = .ok (.iinc 3 1, 3) := by decide +kernel
theorem dX8_back_96 : decode cX8_back 96 = .ok (.goto (-54), 3) := by decide +kernel
theorem dX8_back_99 : decode cX8_back 99 = .ok (.aload_n 0, 1) := by decide +kernel
theorem dX8_back_100 : decode cX8_back 100 = .ok (.getfield 19, 3) := by decide +kernel
theorem dX8_back_103 : decode cX8_back 103 = .ok (.aload_n 0, 1) := by decide +kernel
theorem dX8_back_104 : decode cX8_back 104 = .ok (.getfield 19, 3) := by decide +kernel
theorem dX8_back_107 : decode cX8_back 107 = .ok (.iconst 3, 1) := by decide +kernel
theorem dX8_back_108 : decode cX8_back 108 = .ok (.iaload, 1) := by decide +kernel
theorem dX8_back_109 : decode cX8_back 109 = .ok (.iconst 0, 1) := by decide +kernel
theorem dX8_back_110 : decode cX8_back 110 = .ok (.iconst 0, 1) := by decide +kernel
theorem dX8_back_111 : decode cX8_back 111 = .ok (.iconst 0, 1) := by decide +kernel
theorem dX8_back_112 : decode cX8_back 112 = .ok (.invokestatic 179, 3) := by decide +kernel
theorem dX8_back_115 : decode cX8_back 115 = .ok (.iload_n 2, 1) := by decide +kernel
theorem dX8_back_116 : decode cX8_back 116 = .ok (.ireturn, 1) := by decide +kernel
theorem dX8_pot_0 : decode cX8_pot 0 = .ok (.aload_n 0, 1) := by decide +kernel
theorem dX8_pot_1 : decode cX8_pot 1 = .ok (.iconst 0, 1) := by decide +kernel
theorem dX8_pot_2 : decode cX8_pot 2 = .ok (.putfield 62, 3) := by decide +kernel
theorem dX8_pot_5 : decode cX8_pot 5 = .ok (.aload_n 0, 1) := by decide +kernel
theorem dX8_pot_6 : decode cX8_pot 6 = .ok (.invokevirtual 174, 3) := by decide +kernel
theorem dX8_pot_9 : decode cX8_pot 9 = .ok (.ifCond .ne 6, 3) := by decide +kernel
theorem dX8_pot_12 : decode cX8_pot 12 = .ok (.ldc 253, 2) := by decide +kernel
theorem dX8_pot_14 : decode cX8_pot 14 = .ok (.ireturn, 1) := by decide +kernel
theorem dX8_pot_15 : decode cX8_pot 15 = .ok (.iload_n 1, 1) := by decide +kernel
theorem dX8_pot_16 : decode cX8_pot 16 = .ok (.i2l, 1) := by decide +kernel
theorem dX8_pot_17 : decode cX8_pot 17 = .ok (.lconst 0, 1) := by decide +kernel
theorem dX8_pot_18 : decode cX8_pot 18 = .ok (.ldc2_w 254, 3) := by decide +kernel
theorem dX8_pot_21 : decode cX8_pot 21 = .ok (.invokestatic 72, 3) := by decide +kernel
theorem dX8_pot_24 : decode cX8_pot 24 = .ok (.ifCond .ne 6, 3) := by decide +kernel
theorem dX8_pot_27 : decode cX8_pot 27 = .ok (.ldc 82, 2) := by decide +kernel
theorem dX8_pot_29 : decode cX8_pot 29 = .ok (.ireturn, 1) := by decide +kernel
theorem dX8_pot_30 : decode cX8_pot 30 = .ok (.aload_n 0, 1) := by decide +kernel
theorem dX8_pot_31 : decode cX8_pot 31 = .ok (.invokevirtual 247, 3) := by decide +kernel
theorem dX8_pot_34 : decode cX8_pot 34 = .ok (.aload_n 0, 1) := by decide +kernel
theorem dX8_pot_35 : decode cX8_pot 35 = .ok (.getfield 19, 3) := by decide +kernel
theorem dX8_pot_38 : decode cX8_pot 38 = .ok (.iconst 1, 1) := by decide +kernel
theorem dX8_pot_39 : decode cX8_pot 39 = .ok (.iaload, 1) := by decide +kernel
theorem dX8_pot_40 : decode cX8_pot 40 = .ok (.istore_n 2, 1) := by decide +kernel
theorem dX8_pot_41 : decode cX8_pot 41 = .ok (.aload_n 0, 1) := by decide +kernel
theorem dX8_pot_42 : decode cX8_pot 42 = .ok (.getfield 19, 3) := by decide +kernel
theorem dX8_pot_45 : decode cX8_pot 45 = .ok (.iconst 1, 1) := by decide +kernel
theorem dX8_pot_46 : decode cX8_pot 46 = .ok (.iload_n 1, 1) := by decide +kernel
theorem dX8_pot_47 : decode cX8_pot 47 = .ok (.iastore, 1) := by decide +kernel
theorem dX8_pot_48 : decode cX8_pot 48 = .ok (.iload_n 2, 1) := by decide +kernel
theorem dX8_pot_49 : decode cX8_pot 49 = .ok (.ireturn, 1) := by decide +kernel
theorem dX8_become_0 : decode cX8_become 0 = .ok (.aload_n 0, 1) := by decide +kernel
theorem dX8_become_1 : decode cX8_become 1 = .ok (.iconst 0, 1) := by decide +kernel
theorem dX8_become_2 : decode cX8_become 2 = .ok (.putfield 62, 3) := by decide +kernel
theorem dX8_become_5 : decode cX8_become 5 = .ok (.aload_n 0, 1) := by decide +kernel
theorem dX8_become_6 : decode cX8_become 6 = .ok (.iload_n 1, 1) := by decide +kernel
theorem dX8_become_7 : decode cX8_become 7 = .ok (.invokevirtual 238, 3) := by decide +kernel
theorem dX8_become_10 : decode cX8_become 10 = .ok (.ifCond .eq 15, 3) := by decide +kernel
theorem dX8_become_13 : decode cX8_become 13 = .ok (.iload_n 2, 1) := by decide +kernel
theorem dX8_become_14 : decode cX8_become 14 = .ok (.i2l, 1) := by decide +kernel
theorem dX8_become_15 : decode cX8_become 15 = .ok (.lconst 1, 1) := by decide +kernel
theorem dX8_become_16 : decode cX8_become 16 = .ok (.ldc2_w 256, 3) := by decide +kernel
theorem dX8_become_19 : decode cX8_become 19 = .ok (.invokestatic 72, 3) := by decide +kernel
theorem dX8_become_22 : decode cX8_become 22 = .ok (.ifCond .ne 6, 3) := by decide +kernel
theorem dX8_become_25 : decode cX8_become 25 = .ok (.ldc 82, 2) := by decide +kernel
theorem dX8_become_27 : decode cX8_become 27 = .ok (.ireturn, 1) := by decide +kernel
theorem dX8_become_28 : decode cX8_become 28 = .ok (.aload_n 0, 1) := by decide +kernel
theorem dX8_become_29 : decode cX8_become 29 = .ok (.getfield 19, 3) := by decide +kernel
theorem dX8_become_32 : decode cX8_become 32 = .ok (.iconst 4, 1) := by decide +kernel
theorem dX8_become_33 : decode cX8_become 33 = .ok (.iload_n 1, 1) := by decide +kernel
theorem dX8_become_34 : decode cX8_become 34 = .ok (.iadd, 1) := by decide +kernel
theorem dX8_become_35 : decode cX8_become 35 = .ok (.iaload, 1) := by decide +kernel
theorem dX8_become_36 : decode cX8_become 36 = .ok (.istore_n 3, 1) := by decide +kernel
theorem dX8_become_37 : decode cX8_become 37 = .ok (.iload_n 3, 1) := by decide +kernel
theorem dX8_become_38 : decode cX8_become 38 = .ok (.iload_n 2, 1) := by decide +kernel
theorem dX8_become_39 : decode cX8_become 39 = .ok (.if_icmp .ne 6, 3) := by decide +kernel
theorem dX8_become_42 : decode cX8_become 42 = .ok (.ldc 253, 2) := by decide +kernel
theorem dX8_become_44 : decode cX8_become 44 = .ok (.ireturn, 1) := by decide +kernel
theorem dX8_become_45 : decode cX8_become 45 = .ok (.aload_n 0, 1) := by decide +kernel
theorem dX8_become_46 : decode cX8_become 46 = .ok (.invokevirtual 247, 3) := by decide +kernel
theorem dX8_become_49 : decode cX8_become 49 = .ok (.aload_n 0, 1) := by decide +kernel
theorem dX8_become_50 : decode cX8_become 50 = .ok (.getfield 19, 3) := by decide +kernel
theorem dX8_become_53 : decode cX8_become 53 = .ok (.iconst 4, 1) := by decide +kernel
theorem dX8_become_54 : decode cX8_become 54 = .ok (.iload_n 1, 1) := by decide +kernel
theorem dX8_become_55 : decode cX8_become 55 = .ok (.iadd, 1) := by decide +kernel
theorem dX8_become_56 : decode cX8_become 56 = .ok (.iload_n 2, 1) := by decide +kernel
theorem dX8_become_57 : decode cX8_become 57 = .ok (.iastore, 1) := by decide +kernel
theorem dX8_become_58 : decode cX8_become 58 = .ok (.iload_n 3, 1) := by decide +kernel
theorem dX8_become_59 : decode cX8_become 59 = .ok (.ireturn, 1) := by decide +kernel
theorem dX8_one_0 : decode cX8_one 0 = .ok (.aload_n 0, 1) := by decide +kernel
theorem dX8_one_1 : decode cX8_one 1 = .ok (.iconst 0, 1) := by decide +kernel
theorem dX8_one_2 : decode cX8_one 2 = .ok (.putfield 62, 3) := by decide +kernel
theorem dX8_one_5 : decode cX8_one 5 = .ok (.aload_n 0, 1) := by decide +kernel
theorem dX8_one_6 : decode cX8_one 6 = .ok (.invokevirtual 174, 3) := by decide +kernel
theorem dX8_one_9 : decode cX8_one 9 = .ok (.ifCond .ne 6, 3) := by decide +kernel
theorem dX8_one_12 : decode cX8_one 12 = .ok (.ldc 253, 2) := by decide +kernel
theorem dX8_one_14 : decode cX8_one 14 = .ok (.ireturn, 1) := by decide +kernel
theorem dX8_one_15 : decode cX8_one 15 = .ok (.iload_n 1, 1) := by decide +kernel
theorem dX8_one_16 : decode cX8_one 16 = .ok (.i2l, 1) := by decide +kernel
theorem dX8_one_17 : decode cX8_one 17 = .ok (.lconst 0, 1) := by decide +kernel
theorem dX8_one_18 : decode cX8_one 18 = .ok (.ldc2_w 177, 3) := by decide +kernel
theorem dX8_one_21 : decode cX8_one 21 = .ok (.invokestatic 72, 3) := by decide +kernel
theorem dX8_one_24 : decode cX8_one 24 = .ok (.ifCond .eq 20, 3) := by decide +kernel
theorem dX8_one_27 : decode cX8_one 27 = .ok (.iload_n 2, 1) := by decide +kernel
theorem dX8_one_28 : decode cX8_one 28 = .ok (.i2l, 1) := by decide +kernel
theorem dX8_one_29 : decode cX8_one 29 = .ok (.lconst 0, 1) := by decide +kernel
theorem dX8_one_30 : decode cX8_one 30 = .ok (.ldc2_w 177, 3) := by decide +kernel
theorem dX8_one_33 : decode cX8_one 33 = .ok (.invokestatic 72, 3) := by decide +kernel
theorem dX8_one_36 : decode cX8_one 36 = .ok (.ifCond .eq 8, 3) := by decide +kernel
theorem dX8_one_39 : decode cX8_one 39 = .ok (.iload_n 1, 1) := by decide +kernel
theorem dX8_one_40 : decode cX8_one 40 = .ok (.iload_n 2, 1) := by decide +kernel
theorem dX8_one_41 : decode cX8_one 41 = .ok (.if_icmp .ne 6, 3) := by decide +kernel
theorem dX8_one_44 : decode cX8_one 44 = .ok (.ldc 82, 2) := by decide +kernel
theorem dX8_one_46 : decode cX8_one 46 = .ok (.ireturn, 1) := by decide +kernel
theorem dX8_one_47 : decode cX8_one 47 = .ok (.aload_n 0, 1) := by decide +kernel
theorem dX8_one_48 : decode cX8_one 48 = .ok (.getfield 19, 3) := by decide +kernel
theorem dX8_one_51 : decode cX8_one 51 = .ok (.bipush 70, 2) := by decide +kernel
theorem dX8_one_53 : decode cX8_one 53 = .ok (.iload_n 1, 1) := by decide +kernel
theorem dX8_one_54 : decode cX8_one 54 = .ok (.iadd, 1) := by decide +kernel
theorem dX8_one_55 : decode cX8_one 55 = .ok (.iaload, 1) := by decide +kernel
theorem dX8_one_56 : decode cX8_one 56 = .ok (.istore_n 3, 1) := by decide +kernel
theorem dX8_one_57 : decode cX8_one 57 = .ok (.aload_n 0, 1) := by decide +kernel
theorem dX8_one_58 : decode cX8_one 58 = .ok (.getfield 19, 3) := by decide +kernel
theorem dX8_one_61 : decode cX8_one 61 = .ok (.bipush 70, 2) := by decide +kernel
theorem dX8_one_63 : decode cX8_one 63 = .ok (.iload_n 2, 1) := by decide +kernel
theorem dX8_one_64 : decode cX8_one 64 = .ok (.iadd, 1) := by decide +kernel
theorem dX8_one_65 : decode cX8_one 65 = .ok (.iaload, 1) := by decide +kernel
theorem dX8_one_66 : decode cX8_one 66 = .ok (.istore 4, 2) := by decide +kernel
theorem dX8_one_68 : decode cX8_one 68 = .ok (.iload_n 3, 1) := by decide +kernel
theorem dX8_one_69 : decode cX8_one 69 = .ok (.iload 4, 2) := by decide +kernel
theorem dX8_one_71 : decode cX8_one 71 = .ok (.if_icmp .ne 6, 3) := by decide +kernel
theorem dX8_one_74 : decode cX8_one 74 = .ok (.ldc 253, 2) := by decide +kernel
theorem dX8_one_76 : decode cX8_one 76 = .ok (.ireturn, 1) := by decide +kernel
theorem dX8_one_77 : decode cX8_one 77 = .ok (.aload_n 0, 1) := by decide +kernel
theorem dX8_one_78 : decode cX8_one 78 = .ok (.invokevirtual 247, 3) := by decide +kernel
theorem dX8_one_81 : decode cX8_one 81 = .ok (.iconst 0, 1) := by decide +kernel
theorem dX8_one_82 : decode cX8_one 82 = .ok (.istore 5, 2) := by decide +kernel
theorem dX8_one_84 : decode cX8_one 84 = .ok (.iload 5, 2) := by decide +kernel
theorem dX8_one_86 : decode cX8_one 86 = .ok (.bipush 10, 2) := by decide +kernel
theorem dX8_one_88 : decode cX8_one 88 = .ok (.if_icmp .ge 48, 3) := by decide +kernel
theorem dX8_one_91 : decode cX8_one 91 = .ok (.aload_n 0, 1) := by decide +kernel
theorem dX8_one_92 : decode cX8_one 92 = .ok (.getfield 19, 3) := by decide +kernel
theorem dX8_one_95 : decode cX8_one 95 = .ok (.bipush 70, 2) := by decide +kernel
theorem dX8_one_97 : decode cX8_one 97 = .ok (.iload 5, 2) := by decide +kernel
theorem dX8_one_99 : decode cX8_one 99 = .ok (.iadd, 1) := by decide +kernel
theorem dX8_one_100 : decode cX8_one 100 = .ok (.aload_n 0, 1) := by decide +kernel
theorem dX8_one_101 : decode cX8_one 101 = .ok (.getfield 19, 3) := by decide +kernel
theorem dX8_one_104 : decode cX8_one 104 = .ok (.bipush 70, 2) := by decide +kernel
theorem dX8_one_106 : decode cX8_one 106 = .ok (.iload 5, 2) := by decide +kernel
theorem dX8_one_108 : decode cX8_one 108 = .ok (.iadd, 1) := by decide +kernel
theorem dX8_one_109 : decode cX8_one 109 = .ok (.iaload, 1) := by decide +kernel
theorem dX8_one_110 : decode cX8_one 110 = .ok (.iload_n 3, 1) := by decide +kernel
theorem dX8_one_111 : decode cX8_one 111 = .ok (.if_icmp .ne 8, 3) := by decide +kernel
theorem dX8_one_114 : decode cX8_one 114 = .ok (.iload 4, 2) := by decide +kernel
theorem dX8_one_116 : decode cX8_one 116 = .ok (.goto 13, 3) := by decide +kernel
theorem dX8_one_119 : decode cX8_one 119 = .ok (.aload_n 0, 1) := by decide +kernel
theorem dX8_one_120 : decode cX8_one 120 = .ok (.getfield 19, 3) := by decide +kernel
theorem dX8_one_123 : decode cX8_one 123 = .ok (.bipush 70, 2) := by decide +kernel
theorem dX8_one_125 : decode cX8_one 125 = .ok (.iload 5, 2) := by decide +kernel
theorem dX8_one_127 : decode cX8_one 127 = .ok (.iadd, 1) := by decide +kernel
theorem dX8_one_128 : decode cX8_one 128 = .ok (.iaload, 1) := by decide +kernel
theorem dX8_one_129 : decode cX8_one 129 = .ok (.iastore, 1) := by decide +kernel
theorem dX8_one_130 : decode cX8_one 130 = .ok (.iinc 5 1, 3) := by decide +kernel
theorem dX8_one_133 : decode cX8_one 133 = .ok (.goto (-49), 3) := by decide +kernel
theorem dX8_one_136 : decode cX8_one 136 = .ok (.iload 4, 2) := by decide +kernel
theorem dX8_one_138 : decode cX8_one 138 = .ok (.ireturn, 1) := by decide +kernel
theorem dX8_undo_0 : decode cX8_undo 0 = .ok (.aload_n 0, 1) := by decide +kernel
theorem dX8_undo_1 : decode cX8_undo 1 = .ok (.iconst 0, 1) := by decide +kernel
theorem dX8_undo_2 : decode cX8_undo 2 = .ok (.putfield 62, 3) := by decide +kernel
theorem dX8_undo_5 : decode cX8_undo 5 = .ok (.aload_n 0, 1) := by decide +kernel
theorem dX8_undo_6 : decode cX8_undo 6 = .ok (.getfield 171, 3) := by decide +kernel
theorem dX8_undo_9 : decode cX8_undo 9 = .ok (.ifCond .ne 6, 3) := by decide +kernel
theorem dX8_undo_12 : decode cX8_undo 12 = .ok (.ldc 253, 2) := by decide +kernel
theorem dX8_undo_14 : decode cX8_undo 14 = .ok (.ireturn, 1) := by decide +kernel
theorem dX8_undo_15 : decode cX8_undo 15 = .ok (.aload_n 0, 1) := by decide +kernel
theorem dX8_undo_16 : decode cX8_undo 16 = .ok (.dup, 1) := by decide +kernel
theorem dX8_undo_17 : decode cX8_undo 17 = .ok (.getfield 171, 3) := by decide +kernel
theorem dX8_undo_20 : decode cX8_undo 20 = .ok (.iconst 1, 1) := by decide +kernel
theorem dX8_undo_21 : decode cX8_undo 21 = .ok (.isub, 1) := by decide +kernel
theorem dX8_undo_22 : decode cX8_undo 22 = .ok (.putfield 171, 3) := by decide +kernel
theorem dX8_undo_25 : decode cX8_undo 25 = .ok (.iconst 0, 1) := by decide +kernel
theorem dX8_undo_26 : decode cX8_undo 26 = .ok (.istore_n 1, 1) := by decide +kernel
theorem dX8_undo_27 : decode cX8_undo 27 = .ok (.iload_n 1, 1) := by decide +kernel
theorem dX8_undo_28 : decode cX8_undo 28 = .ok (.bipush 80, 2) := by decide +kernel
theorem dX8_undo_30 : decode cX8_undo 30 = .ok (.if_icmp .ge 29, 3) := by decide +kernel
theorem dX8_undo_33 : decode cX8_undo 33 = .ok (.aload_n 0, 1) := by decide +kernel
theorem dX8_undo_34 : decode cX8_undo 34 = .ok (.getfield 19, 3) := by decide +kernel
theorem dX8_undo_37 : decode cX8_undo 37 = .ok (.iload_n 1, 1) := by decide +kernel
theorem dX8_undo_38 : decode cX8_undo 38 = .ok (.aload_n 0, 1) := by decide +kernel
theorem dX8_undo_39 : decode cX8_undo 39 = .ok (.getfield 28, 3) := by decide +kernel
theorem dX8_undo_42 : decode cX8_undo 42 = .ok (.bipush 80, 2) := by decide +kernel
theorem dX8_undo_44 : decode cX8_undo 44 = .ok (.aload_n 0, 1) := by decide +kernel
theorem dX8_undo_45 : decode cX8_undo 45 = .ok (.getfield 171, 3) := by decide +kernel
theorem dX8_undo_48 : decode cX8_undo 48 = .ok (.imul, 1) := by decide +kernel
theorem dX8_undo_49 : decode cX8_undo 49 = .ok (.iload_n 1, 1) := by decide +kernel
theorem dX8_undo_50 : decode cX8_undo 50 = .ok (.iadd, 1) := by decide +kernel
theorem dX8_undo_51 : decode cX8_undo 51 = .ok (.iaload, 1) := by decide +kernel
theorem dX8_undo_52 : decode cX8_undo 52 = .ok (.iastore, 1) := by decide +kernel
theorem dX8_undo_53 : decode cX8_undo 53 = .ok (.iinc 1 1, 3) := by decide +kernel
theorem dX8_undo_56 : decode cX8_undo 56 = .ok (.goto (-29), 3) := by decide +kernel
theorem dX8_undo_59 : decode cX8_undo 59 = .ok (.aload_n 0, 1) := by decide +kernel
theorem dX8_undo_60 : decode cX8_undo 60 = .ok (.getfield 171, 3) := by decide +kernel
theorem dX8_undo_63 : decode cX8_undo 63 = .ok (.ireturn, 1) := by decide +kernel
theorem dX8_gift_0 : decode cX8_gift 0 = .ok (.aload_n 0, 1) := by decide +kernel
theorem dX8_gift_1 : decode cX8_gift 1 = .ok (.iconst 0, 1) := by decide +kernel
theorem dX8_gift_2 : decode cX8_gift 2 = .ok (.putfield 62, 3) := by decide +kernel
theorem dX8_gift_5 : decode cX8_gift 5 = .ok (.aload_n 0, 1) := by decide +kernel
theorem dX8_gift_6 : decode cX8_gift 6 = .ok (.iload_n 1, 1) := by decide +kernel
theorem dX8_gift_7 : decode cX8_gift 7 = .ok (.invokevirtual 250, 3) := by decide +kernel
theorem dX8_gift_10 : decode cX8_gift 10 = .ok (.ifCond .eq 27, 3) := by decide +kernel
theorem dX8_gift_13 : decode cX8_gift 13 = .ok (.iload_n 2, 1) := by decide +kernel
theorem dX8_gift_14 : decode cX8_gift 14 = .ok (.i2l, 1) := by decide +kernel
theorem dX8_gift_15 : decode cX8_gift 15 = .ok (.lconst 0, 1) := by decide +kernel
theorem dX8_gift_16 : decode cX8_gift 16 = .ok (.ldc2_w 80, 3) := by decide +kernel
theorem dX8_gift_19 : decode cX8_gift 19 = .ok (.invokestatic 72, 3) := by decide +kernel
theorem dX8_gift_22 : decode cX8_gift 22 = .ok (.ifCond .eq 15, 3) := by decide +kernel
theorem dX8_gift_25 : decode cX8_gift 25 = .ok (.aload_n 0, 1) := by decide +kernel
theorem dX8_gift_26 : decode cX8_gift 26 = .ok (.getfield 19, 3) := by decide +kernel
theorem dX8_gift_29 : decode cX8_gift 29 = .ok (.iload_n 1, 1) := by decide +kernel
theorem dX8_gift_30 : decode cX8_gift 30 = .ok (.iload_n 2, 1) := by decide +kernel
theorem dX8_gift_31 : decode cX8_gift 31 = .ok (.invokestatic 183, 3) := by decide +kernel
theorem dX8_gift_34 : decode cX8_gift 34 = .ok (.goto 5, 3) := by decide +kernel
theorem dX8_gift_37 : decode cX8_gift 37 = .ok (.ldc 82, 2) := by decide +kernel
theorem dX8_gift_39 : decode cX8_gift 39 = .ok (.ireturn, 1) := by decide +kernel
theorem dX8_nameOf_0 : decode cX8_nameOf 0 = .ok (.aload_n 0, 1) := by decide +kernel
theorem dX8_nameOf_1 : decode cX8_nameOf 1 = .ok (.iconst 0, 1) := by decide +kernel
theorem dX8_nameOf_2 : decode cX8_nameOf 2 = .ok (.putfield 62, 3) := by decide +kernel
theorem dX8_nameOf_5 : decode cX8_nameOf 5 = .ok (.aload_n 0, 1) := by decide +kernel
theorem dX8_nameOf_6 : decode cX8_nameOf 6 = .ok (.invokevirtual 174, 3) := by decide +kernel
theorem dX8_nameOf_9 : decode cX8_nameOf 9 = .ok (.ifCond .ne 6, 3) := by decide +kernel
theorem dX8_nameOf_12 : decode cX8_nameOf 12 = .ok (.ldc 253, 2) := by decide +kernel
theorem dX8_nameOf_14 : decode cX8_nameOf 14 = .ok (.ireturn, 1) := by decide +kernel
theorem dX8_nameOf_15 : decode cX8_nameOf 15 = .ok (.iload_n 1, 1) := by decide +kernel
theorem dX8_nameOf_16 : decode cX8_nameOf 16 = .ok (.i2l, 1) := by decide +kernel
theorem dX8_nameOf_17 : decode cX8_nameOf 17 = .ok (.lconst 0, 1) := by decide +kernel
theorem dX8_nameOf_18 : decode cX8_nameOf 18 = .ok (.ldc2_w 177, 3) := by decide +kernel
theorem dX8_nameOf_21 : decode cX8_nameOf 21 = .ok (.invokestatic 72, 3) := by decide +kernel
theorem dX8_nameOf_24 : decode cX8_nameOf 24 = .ok (.ifCond .eq 15, 3) := by decide +kernel
theorem dX8_nameOf_27 : decode cX8_nameOf 27 = .ok (.aload_n 0, 1) := by decide +kernel
theorem dX8_nameOf_28 : decode cX8_nameOf 28 = .ok (.getfield 19, 3) := by decide +kernel
theorem dX8_nameOf_31 : decode cX8_nameOf 31 = .ok (.bipush 70, 2) := by decide +kernel
theorem dX8_nameOf_33 : decode cX8_nameOf 33 = .ok (.iload_n 1, 1) := by decide +kernel
theorem dX8_nameOf_34 : decode cX8_nameOf 34 = .ok (.iadd, 1) := by decide +kernel
theorem dX8_nameOf_35 : decode cX8_nameOf 35 = .ok (.iaload, 1) := by decide +kernel
theorem dX8_nameOf_36 : decode cX8_nameOf 36 = .ok (.goto 5, 3) := by decide +kernel
theorem dX8_nameOf_39 : decode cX8_nameOf 39 = .ok (.ldc 82, 2) := by decide +kernel
theorem dX8_nameOf_41 : decode cX8_nameOf 41 = .ok (.ireturn, 1) := by decide +kernel
theorem dX8_root_0 : decode cX8_root 0 = .ok (.aload_n 0, 1) := by decide +kernel
theorem dX8_root_1 : decode cX8_root 1 = .ok (.iconst 0, 1) := by decide +kernel
theorem dX8_root_2 : decode cX8_root 2 = .ok (.putfield 62, 3) := by decide +kernel
theorem dX8_root_5 : decode cX8_root 5 = .ok (.iload_n 1, 1) := by decide +kernel
theorem dX8_root_6 : decode cX8_root 6 = .ok (.i2l, 1) := by decide +kernel
theorem dX8_root_7 : decode cX8_root 7 = .ok (.lconst 0, 1) := by decide +kernel
theorem dX8_root_8 : decode cX8_root 8 = .ok (.ldc2_w 258, 3) := by decide +kernel
theorem dX8_root_11 : decode cX8_root 11 = .ok (.invokestatic 72, 3) := by decide +kernel
theorem dX8_root_14 : decode cX8_root 14 = .ok (.ifCond .eq 10, 3) := by decide +kernel
theorem dX8_root_17 : decode cX8_root 17 = .ok (.iload_n 1, 1) := by decide +kernel
theorem dX8_root_18 : decode cX8_root 18 = .ok (.invokestatic 187, 3) := by decide +kernel
theorem dX8_root_21 : decode cX8_root 21 = .ok (.goto 5, 3) := by decide +kernel
theorem dX8_root_24 : decode cX8_root 24 = .ok (.ldc 82, 2) := by decide +kernel
theorem dX8_root_26 : decode cX8_root 26 = .ok (.ireturn, 1) := by decide +kernel
theorem dX8_sum_0 : decode cX8_sum 0 = .ok (.aload_n 0, 1) := by decide +kernel
theorem dX8_sum_1 : decode cX8_sum 1 = .ok (.iconst 0, 1) := by decide +kernel
theorem dX8_sum_2 : decode cX8_sum 2 = .ok (.putfield 62, 3) := by decide +kernel
theorem dX8_sum_5 : decode cX8_sum 5 = .ok (.aload_n 0, 1) := by decide +kernel
theorem dX8_sum_6 : decode cX8_sum 6 = .ok (.iload_n 1, 1) := by decide +kernel
theorem dX8_sum_7 : decode cX8_sum 7 = .ok (.iload_n 2, 1) := by decide +kernel
theorem dX8_sum_8 : decode cX8_sum 8 = .ok (.invokevirtual 241, 3) := by decide +kernel
theorem dX8_sum_11 : decode cX8_sum 11 = .ok (.ifCond .ne 6, 3) := by decide +kernel
theorem dX8_sum_14 : decode cX8_sum 14 = .ok (.ldc 82, 2) := by decide +kernel
theorem dX8_sum_16 : decode cX8_sum 16 = .ok (.ireturn, 1) := by decide +kernel
theorem dX8_sum_17 : decode cX8_sum 17 = .ok (.aload_n 0, 1) := by decide +kernel
theorem dX8_sum_18 : decode cX8_sum 18 = .ok (.aload_n 0, 1) := by decide +kernel
theorem dX8_sum_19 : decode cX8_sum 19 = .ok (.getfield 19, 3) := by decide +kernel
theorem dX8_sum_22 : decode cX8_sum 22 = .ok (.invokevirtual 219, 3) := by decide +kernel
theorem dX8_sum_25 : decode cX8_sum 25 = .ok (.aload_n 0, 1) := by decide +kernel
theorem dX8_sum_26 : decode cX8_sum 26 = .ok (.getfield 34, 3) := by decide +kernel
theorem dX8_sum_29 : decode cX8_sum 29 = .ok (.bipush 6, 2) := by decide +kernel
theorem dX8_sum_31 : decode cX8_sum 31 = .ok (.iload_n 1, 1) := by decide +kernel
theorem dX8_sum_32 : decode cX8_sum 32 = .ok (.imul, 1) := by decide +kernel
theorem dX8_sum_33 : decode cX8_sum 33 = .ok (.iload_n 2, 1) := by decide +kernel
theorem dX8_sum_34 : decode cX8_sum 34 = .ok (.iadd, 1) := by decide +kernel
theorem dX8_sum_35 : decode cX8_sum 35 = .ok (.iaload, 1) := by decide +kernel
theorem dX8_sum_36 : decode cX8_sum 36 = .ok (.ireturn, 1) := by decide +kernel
theorem dX8_overlap_0 : decode cX8_overlap 0 = .ok (.aload_n 0, 1) := by decide +kernel
theorem dX8_overlap_1 : decode cX8_overlap 1 = .ok (.iconst 0, 1) := by decide +kernel
theorem dX8_overlap_2 : decode cX8_overlap 2 = .ok (.putfield 62, 3) := by decide +kernel
theorem dX8_overlap_5 : decode cX8_overlap 5 = .ok (.aload_n 0, 1) := by decide +kernel
theorem dX8_overlap_6 : decode cX8_overlap 6 = .ok (.invokevirtual 174, 3) := by decide +kernel
theorem dX8_overlap_9 : decode cX8_overlap 9 = .ok (.ifCond .ne 6, 3) := by decide +kernel
theorem dX8_overlap_12 : decode cX8_overlap 12 = .ok (.ldc 253, 2) := by decide +kernel
theorem dX8_overlap_14 : decode cX8_overlap 14 = .ok (.ireturn, 1) := by decide +kernel
theorem dX8_overlap_15 : decode cX8_overlap 15 = .ok (.iload_n 1, 1) := by decide +kernel
theorem dX8_overlap_16 : decode cX8_overlap 16 = .ok (.i2l, 1) := by decide +kernel
theorem dX8_overlap_17 : decode cX8_overlap 17 = .ok (.lconst 0, 1) := by decide +kernel
theorem dX8_overlap_18 : decode cX8_overlap 18 = .ok (.ldc2_w 177, 3) := by decide +kernel
theorem dX8_overlap_21 : decode cX8_overlap 21 = .ok (.invokestatic 72, 3) := by decide +kernel
theorem dX8_overlap_24 : decode cX8_overlap 24 = .ok (.ifCond .eq 20, 3) := by decide +kernel
theorem dX8_overlap_27 : decode cX8_overlap 27 = .ok (.iload_n 2, 1) := by decide +kernel
theorem dX8_overlap_28 : decode cX8_overlap 28 = .ok (.i2l, 1) := by decide +kernel
theorem dX8_overlap_29 : decode cX8_overlap 29 = .ok (.lconst 0, 1) := by decide +kernel
theorem dX8_overlap_30 : decode cX8_overlap 30 = .ok (.ldc2_w 177, 3) := by decide +kernel
theorem dX8_overlap_33 : decode cX8_overlap 33 = .ok (.invokestatic 72, 3) := by decide +kernel
theorem dX8_overlap_36 : decode cX8_overlap 36 = .ok (.ifCond .eq 8, 3) := by decide +kernel
theorem dX8_overlap_39 : decode cX8_overlap 39 = .ok (.iload_n 1, 1) := by decide +kernel
theorem dX8_overlap_40 : decode cX8_overlap 40 = .ok (.iload_n 2, 1) := by decide +kernel
theorem dX8_overlap_41 : decode cX8_overlap 41 = .ok (.if_icmp .ne 6, 3) := by decide +kernel
theorem dX8_overlap_44 : decode cX8_overlap 44 = .ok (.ldc 82, 2) := by decide +kernel
theorem dX8_overlap_46 : decode cX8_overlap 46 = .ok (.ireturn, 1) := by decide +kernel
theorem dX8_overlap_47 : decode cX8_overlap 47 = .ok (.aload_n 0, 1) := by decide +kernel
theorem dX8_overlap_48 : decode cX8_overlap 48 = .ok (.aload_n 0, 1) := by decide +kernel
theorem dX8_overlap_49 : decode cX8_overlap 49 = .ok (.getfield 19, 3) := by decide +kernel
theorem dX8_overlap_52 : decode cX8_overlap 52 = .ok (.invokevirtual 219, 3) := by decide +kernel
theorem dX8_overlap_55 : decode cX8_overlap 55 = .ok (.aload_n 0, 1) := by decide +kernel
theorem dX8_overlap_56 : decode cX8_overlap 56 = .ok (.getfield 40, 3) := by decide +kernel
theorem dX8_overlap_59 : decode cX8_overlap 59 = .ok (.bipush 10, 2) := by decide +kernel
theorem dX8_overlap_61 : decode cX8_overlap 61 = .ok (.iload_n 1, 1) := by decide +kernel
theorem dX8_overlap_62 : decode cX8_overlap 62 = .ok (.imul, 1) := by decide +kernel
theorem dX8_overlap_63 : decode cX8_overlap 63 = .ok (.iload_n 2, 1) := by decide +kernel
theorem dX8_overlap_64 : decode cX8_overlap 64 = .ok (.iadd, 1) := by decide +kernel
theorem dX8_overlap_65 : decode cX8_overlap 65 = .ok (.iaload, 1) := by decide +kernel
theorem dX8_overlap_66 : decode cX8_overlap 66 = .ok (.ireturn, 1) := by decide +kernel
theorem dX8_term_0 : decode cX8_term 0 = .ok (.aload_n 0, 1) := by decide +kernel
theorem dX8_term_1 : decode cX8_term 1 = .ok (.iconst 0, 1) := by decide +kernel
theorem dX8_term_2 : decode cX8_term 2 = .ok (.putfield 62, 3) := by decide +kernel
theorem dX8_term_5 : decode cX8_term 5 = .ok (.aload_n 0, 1) := by decide +kernel
theorem dX8_term_6 : decode cX8_term 6 = .ok (.iload_n 1, 1) := by decide +kernel
theorem dX8_term_7 : decode cX8_term 7 = .ok (.iload_n 3, 1) := by decide +kernel
theorem dX8_term_8 : decode cX8_term 8 = .ok (.invokevirtual 241, 3) := by decide +kernel
theorem dX8_term_11 : decode cX8_term 11 = .ok (.ifCond .eq 16, 3) := by decide +kernel
theorem dX8_term_14 : decode cX8_term 14 = .ok (.aload_n 0, 1) := by decide +kernel
theorem dX8_term_15 : decode cX8_term 15 = .ok (.iload_n 2, 1) := by decide +kernel
theorem dX8_term_16 : decode cX8_term 16 = .ok (.invokevirtual 235, 3) := by decide +kernel
theorem dX8_term_19 : decode cX8_term 19 = .ok (.ifCond .eq 8, 3) := by decide +kernel
theorem dX8_term_22 : decode cX8_term 22 = .ok (.iload_n 1, 1) := by decide +kernel
theorem dX8_term_23 : decode cX8_term 23 = .ok (.iload_n 2, 1) := by decide +kernel
theorem dX8_term_24 : decode cX8_term 24 = .ok (.if_icmp .ne 6, 3) := by decide +kernel
theorem dX8_term_27 : decode cX8_term 27 = .ok (.ldc 82, 2) := by decide +kernel
theorem dX8_term_29 : decode cX8_term 29 = .ok (.ireturn, 1) := by decide +kernel
theorem dX8_term_30 : decode cX8_term 30 = .ok (.aload_n 0, 1) := by decide +kernel
theorem dX8_term_31 : decode cX8_term 31 = .ok (.aload_n 0, 1) := by decide +kernel
theorem dX8_term_32 : decode cX8_term 32 = .ok (.getfield 19, 3) := by decide +kernel
theorem dX8_term_35 : decode cX8_term 35 = .ok (.invokevirtual 219, 3) := by decide +kernel
theorem dX8_term_38 : decode cX8_term 38 = .ok (.aload_n 0, 1) := by decide +kernel
theorem dX8_term_39 : decode cX8_term 39 = .ok (.aload_n 0, 1) := by decide +kernel
theorem dX8_term_40 : decode cX8_term 40 = .ok (.getfield 19, 3) := by decide +kernel
theorem dX8_term_43 : decode cX8_term 43 = .ok (.iload_n 1, 1) := by decide +kernel
theorem dX8_term_44 : decode cX8_term 44 = .ok (.iload_n 2, 1) := by decide +kernel
theorem dX8_term_45 : decode cX8_term 45 = .ok (.iload_n 3, 1) := by decide +kernel
theorem dX8_term_46 : decode cX8_term 46 = .ok (.invokevirtual 192, 3) := by decide +kernel
theorem dX8_term_49 : decode cX8_term 49 = .ok (.ireturn, 1) := by decide +kernel
theorem dX8_project_0 : decode cX8_project 0 = .ok (.aload_n 0, 1) := by decide +kernel
theorem dX8_project_1 : decode cX8_project 1 = .ok (.iconst 0, 1) := by decide +kernel
theorem dX8_project_2 : decode cX8_project 2 = .ok (.putfield 62, 3) := by decide +kernel
theorem dX8_project_5 : decode cX8_project 5 = .ok (.aload_n 0, 1) := by decide +kernel
theorem dX8_project_6 : decode cX8_project 6 = .ok (.iload_n 1, 1) := by decide +kernel
theorem dX8_project_7 : decode cX8_project 7 = .ok (.invokevirtual 238, 3) := by decide +kernel
theorem dX8_project_10 : decode cX8_project 10 = .ok (.ifCond .eq 15, 3) := by decide +kernel
theorem dX8_project_13 : decode cX8_project 13 = .ok (.iload_n 2, 1) := by decide +kernel
theorem dX8_project_14 : decode cX8_project 14 = .ok (.i2l, 1) := by decide +kernel
theorem dX8_project_15 : decode cX8_project 15 = .ok (.lconst 0, 1) := by decide +kernel
theorem dX8_project_16 : decode cX8_project 16 = .ok (.ldc2_w 80, 3) := by decide +kernel
theorem dX8_project_19 : decode cX8_project 19 = .ok (.invokestatic 72, 3) := by decide +kernel
theorem dX8_project_22 : decode cX8_project 22 = .ok (.ifCond .ne 6, 3) := by decide +kernel
theorem dX8_project_25 : decode cX8_project 25 = .ok (.ldc 82, 2) := by decide +kernel
theorem dX8_project_27 : decode cX8_project 27 = .ok (.ireturn, 1) := by decide +kernel
theorem dX8_project_28 : decode cX8_project 28 = .ok (.aload_n 0, 1) := by decide +kernel
theorem dX8_project_29 : decode cX8_project 29 = .ok (.aload_n 0, 1) := by decide +kernel
theorem dX8_project_30 : decode cX8_project 30 = .ok (.getfield 19, 3) := by decide +kernel
theorem dX8_project_33 : decode cX8_project 33 = .ok (.invokevirtual 232, 3) := by decide +kernel
theorem dX8_project_36 : decode cX8_project 36 = .ok (.iload_n 2, 1) := by decide +kernel
theorem dX8_project_37 : decode cX8_project 37 = .ok (.ifCond .ne 12, 3) := by decide +kernel
theorem dX8_project_40 : decode cX8_project 40 = .ok (.aload_n 0, 1) := by decide +kernel
theorem dX8_project_41 : decode cX8_project 41 = .ok (.getfield 43, 3) := by decide +kernel
theorem dX8_project_44 : decode cX8_project 44 = .ok (.iload_n 1, 1) := by decide +kernel
theorem dX8_project_45 : decode cX8_project 45 = .ok (.iaload, 1) := by decide +kernel
theorem dX8_project_46 : decode cX8_project 46 = .ok (.goto 22, 3) := by decide +kernel
theorem dX8_project_49 : decode cX8_project 49 = .ok (.iload_n 2, 1) := by decide +kernel
theorem dX8_project_50 : decode cX8_project 50 = .ok (.iconst 1, 1) := by decide +kernel
theorem dX8_project_51 : decode cX8_project 51 = .ok (.if_icmp .ne 12, 3) := by decide +kernel
theorem dX8_project_54 : decode cX8_project 54 = .ok (.aload_n 0, 1) := by decide +kernel
theorem dX8_project_55 : decode cX8_project 55 = .ok (.getfield 46, 3) := by decide +kernel
theorem dX8_project_58 : decode cX8_project 58 = .ok (.iload_n 1, 1) := by decide +kernel
theorem dX8_project_59 : decode cX8_project 59 = .ok (.iaload, 1) := by decide +kernel
theorem dX8_project_60 : decode cX8_project 60 = .ok (.goto 8, 3) := by decide +kernel
theorem dX8_project_63 : decode cX8_project 63 = .ok (.aload_n 0, 1) := by decide +kernel
theorem dX8_project_64 : decode cX8_project 64 = .ok (.iload_n 1, 1) := by decide +kernel
theorem dX8_project_65 : decode cX8_project 65 = .ok (.invokevirtual 199, 3) := by decide +kernel
theorem dX8_project_68 : decode cX8_project 68 = .ok (.ireturn, 1) := by decide +kernel
theorem dX8_stand_0 : decode cX8_stand 0 = .ok (.aload_n 0, 1) := by decide +kernel
theorem dX8_stand_1 : decode cX8_stand 1 = .ok (.iconst 0, 1) := by decide +kernel
theorem dX8_stand_2 : decode cX8_stand 2 = .ok (.putfield 62, 3) := by decide +kernel
theorem dX8_stand_5 : decode cX8_stand 5 = .ok (.aload_n 0, 1) := by decide +kernel
theorem dX8_stand_6 : decode cX8_stand 6 = .ok (.invokevirtual 174, 3) := by decide +kernel
theorem dX8_stand_9 : decode cX8_stand 9 = .ok (.ifCond .ne 6, 3) := by decide +kernel
theorem dX8_stand_12 : decode cX8_stand 12 = .ok (.ldc 253, 2) := by decide +kernel
theorem dX8_stand_14 : decode cX8_stand 14 = .ok (.ireturn, 1) := by decide +kernel
theorem dX8_stand_15 : decode cX8_stand 15 = .ok (.aload_n 0, 1) := by decide +kernel
theorem dX8_stand_16 : decode cX8_stand 16 = .ok (.aload_n 0, 1) := by decide +kernel
theorem dX8_stand_17 : decode cX8_stand 17 = .ok (.getfield 19, 3) := by decide +kernel
theorem dX8_stand_20 : decode cX8_stand 20 = .ok (.invokevirtual 232, 3) := by decide +kernel
theorem dX8_stand_23 : decode cX8_stand 23 = .ok (.iload_n 1, 1) := by decide +kernel
theorem dX8_stand_24 : decode cX8_stand 24 = .ok (.tableswitch 65 0 3 #[32, 39, 48, 60], 32) := by decide +kernel
theorem dX8_stand_56 : decode cX8_stand 56 = .ok (.aload_n 0, 1) := by decide +kernel
theorem dX8_stand_57 : decode cX8_stand 57 = .ok (.getfield 19, 3) := by decide +kernel
theorem dX8_stand_60 : decode cX8_stand 60 = .ok (.iconst 1, 1) := by decide +kernel
theorem dX8_stand_61 : decode cX8_stand 61 = .ok (.iaload, 1) := by decide +kernel
theorem dX8_stand_62 : decode cX8_stand 62 = .ok (.ireturn, 1) := by decide +kernel
theorem dX8_stand_63 : decode cX8_stand 63 = .ok (.aload_n 0, 1) := by decide +kernel
theorem dX8_stand_64 : decode cX8_stand 64 = .ok (.aload_n 0, 1) := by decide +kernel
theorem dX8_stand_65 : decode cX8_stand 65 = .ok (.getfield 19, 3) := by decide +kernel
theorem dX8_stand_68 : decode cX8_stand 68 = .ok (.invokevirtual 212, 3) := by decide +kernel
theorem dX8_stand_71 : decode cX8_stand 71 = .ok (.ireturn, 1) := by decide +kernel
theorem dX8_stand_72 : decode cX8_stand 72 = .ok (.aload_n 0, 1) := by decide +kernel
theorem dX8_stand_73 : decode cX8_stand 73 = .ok (.getfield 19, 3) := by decide +kernel
theorem dX8_stand_76 : decode cX8_stand 76 = .ok (.iconst 1, 1) := by decide +kernel
theorem dX8_stand_77 : decode cX8_stand 77 = .ok (.iaload, 1) := by decide +kernel
theorem dX8_stand_78 : decode cX8_stand 78 = .ok (.aload_n 0, 1) := by decide +kernel
theorem dX8_stand_79 : decode cX8_stand 79 = .ok (.getfield 216, 3) := by decide +kernel
theorem dX8_stand_82 : decode cX8_stand 82 = .ok (.isub, 1) := by decide +kernel
theorem dX8_stand_83 : decode cX8_stand 83 = .ok (.ireturn, 1) := by decide +kernel
theorem dX8_stand_84 : decode cX8_stand 84 = .ok (.aload_n 0, 1) := by decide +kernel
theorem dX8_stand_85 : decode cX8_stand 85 = .ok (.getfield 216, 3) := by decide +kernel
theorem dX8_stand_88 : decode cX8_stand 88 = .ok (.ireturn, 1) := by decide +kernel
theorem dX8_stand_89 : decode cX8_stand 89 = .ok (.ldc 82, 2) := by decide +kernel
theorem dX8_stand_91 : decode cX8_stand 91 = .ok (.ireturn, 1) := by decide +kernel
theorem dX8_paidIf_0 : decode cX8_paidIf 0 = .ok (.aload_n 0, 1) := by decide +kernel
theorem dX8_paidIf_1 : decode cX8_paidIf 1 = .ok (.iconst 0, 1) := by decide +kernel
theorem dX8_paidIf_2 : decode cX8_paidIf 2 = .ok (.putfield 62, 3) := by decide +kernel
theorem dX8_paidIf_5 : decode cX8_paidIf 5 = .ok (.aload_n 0, 1) := by decide +kernel
theorem dX8_paidIf_6 : decode cX8_paidIf 6 = .ok (.iload_n 1, 1) := by decide +kernel
theorem dX8_paidIf_7 : decode cX8_paidIf 7 = .ok (.iload_n 2, 1) := by decide +kernel
theorem dX8_paidIf_8 : decode cX8_paidIf 8 = .ok (.invokevirtual 241, 3) := by decide +kernel
theorem dX8_paidIf_11 : decode cX8_paidIf 11 = .ok (.ifCond .eq 24, 3) := by decide +kernel
theorem dX8_paidIf_14 : decode cX8_paidIf 14 = .ok (.iload_n 3, 1) := by decide +kernel
theorem dX8_paidIf_15 : decode cX8_paidIf 15 = .ok (.i2l, 1) := by decide +kernel
theorem dX8_paidIf_16 : decode cX8_paidIf 16 = .ok (.lconst 0, 1) := by decide +kernel
theorem dX8_paidIf_17 : decode cX8_paidIf 17 = .ok (.ldc2_w 245, 3) := by decide +kernel
theorem dX8_paidIf_20 : decode cX8_paidIf 20 = .ok (.invokestatic 72, 3) := by decide +kernel
theorem dX8_paidIf_23 : decode cX8_paidIf 23 = .ok (.ifCond .eq 12, 3) := by decide +kernel
theorem dX8_paidIf_26 : decode cX8_paidIf 26 = .ok (.aload_n 0, 1) := by decide +kernel
theorem dX8_paidIf_27 : decode cX8_paidIf 27 = .ok (.iload 4, 2) := by decide +kernel
theorem dX8_paidIf_29 : decode cX8_paidIf 29 = .ok (.invokevirtual 238, 3) := by decide +kernel
theorem dX8_paidIf_32 : decode cX8_paidIf 32 = .ok (.ifCond .ne 6, 3) := by decide +kernel
theorem dX8_paidIf_35 : decode cX8_paidIf 35 = .ok (.ldc 82, 2) := by decide +kernel
theorem dX8_paidIf_37 : decode cX8_paidIf 37 = .ok (.ireturn, 1) := by decide +kernel
theorem dX8_paidIf_38 : decode cX8_paidIf 38 = .ok (.aload_n 0, 1) := by decide +kernel
theorem dX8_paidIf_39 : decode cX8_paidIf 39 = .ok (.getfield 19, 3) := by decide +kernel
theorem dX8_paidIf_42 : decode cX8_paidIf 42 = .ok (.iconst 3, 1) := by decide +kernel
theorem dX8_paidIf_43 : decode cX8_paidIf 43 = .ok (.iaload, 1) := by decide +kernel
theorem dX8_paidIf_44 : decode cX8_paidIf 44 = .ok (.bipush 20, 2) := by decide +kernel
theorem dX8_paidIf_46 : decode cX8_paidIf 46 = .ok (.if_icmp .ne 10, 3) := by decide +kernel
theorem dX8_paidIf_49 : decode cX8_paidIf 49 = .ok (.iload_n 3, 1) := by decide +kernel
theorem dX8_paidIf_50 : decode cX8_paidIf 50 = .ok (.ifCond .le 6, 3) := by decide +kernel
theorem dX8_paidIf_53 : decode cX8_paidIf 53 = .ok (.ldc 92, 2) := by decide +kernel
theorem dX8_paidIf_55 : decode cX8_paidIf 55 = .ok (.ireturn, 1) := by decide +kernel
theorem dX8_paidIf_56 : decode cX8_paidIf 56 = .ok (.aload_n 0, 1) := by decide +kernel
theorem dX8_paidIf_57 : decode cX8_paidIf 57 = .ok (.iload_n 1, 1) := by decide +kernel
theorem dX8_paidIf_58 : decode cX8_paidIf 58 = .ok (.iload_n 2, 1) := by decide +kernel
theorem dX8_paidIf_59 : decode cX8_paidIf 59 = .ok (.iload_n 3, 1) := by decide +kernel
theorem dX8_paidIf_60 : decode cX8_paidIf 60 = .ok (.invokevirtual 260, 3) := by decide +kernel
theorem dX8_paidIf_63 : decode cX8_paidIf 63 = .ok (.aload_n 0, 1) := by decide +kernel
theorem dX8_paidIf_64 : decode cX8_paidIf 64 = .ok (.getfield 46, 3) := by decide +kernel
theorem dX8_paidIf_67 : decode cX8_paidIf 67 = .ok (.iload 4, 2) := by decide +kernel
theorem dX8_paidIf_69 : decode cX8_paidIf 69 = .ok (.iaload, 1) := by decide +kernel
theorem dX8_paidIf_70 : decode cX8_paidIf 70 = .ok (.ireturn, 1) := by decide +kernel
theorem dX8_best_0 : decode cX8_best 0 = .ok (.aload_n 0, 1) := by decide +kernel
theorem dX8_best_1 : decode cX8_best 1 = .ok (.iconst 0, 1) := by decide +kernel
theorem dX8_best_2 : decode cX8_best 2 = .ok (.putfield 62, 3) := by decide +kernel
theorem dX8_best_5 : decode cX8_best 5 = .ok (.aload_n 0, 1) := by decide +kernel
theorem dX8_best_6 : decode cX8_best 6 = .ok (.invokevirtual 174, 3) := by decide +kernel
theorem dX8_best_9 : decode cX8_best 9 = .ok (.ifCond .ne 6, 3) := by decide +kernel
theorem dX8_best_12 : decode cX8_best 12 = .ok (.ldc 253, 2) := by decide +kernel
theorem dX8_best_14 : decode cX8_best 14 = .ok (.ireturn, 1) := by decide +kernel
theorem dX8_best_15 : decode cX8_best 15 = .ok (.aload_n 0, 1) := by decide +kernel
theorem dX8_best_16 : decode cX8_best 16 = .ok (.iload_n 1, 1) := by decide +kernel
theorem dX8_best_17 : decode cX8_best 17 = .ok (.invokevirtual 235, 3) := by decide +kernel
theorem dX8_best_20 : decode cX8_best 20 = .ok (.ifCond .eq 25, 3) := by decide +kernel
theorem dX8_best_23 : decode cX8_best 23 = .ok (.iload_n 2, 1) := by decide +kernel
theorem dX8_best_24 : decode cX8_best 24 = .ok (.i2l, 1) := by decide +kernel
theorem dX8_best_25 : decode cX8_best 25 = .ok (.lconst 1, 1) := by decide +kernel
theorem dX8_best_26 : decode cX8_best 26 = .ok (.ldc2_w 245, 3) := by decide +kernel
theorem dX8_best_29 : decode cX8_best 29 = .ok (.invokestatic 72, 3) := by decide +kernel
theorem dX8_best_32 : decode cX8_best 32 = .ok (.ifCond .eq 13, 3) := by decide +kernel
theorem dX8_best_35 : decode cX8_best 35 = .ok (.iload_n 3, 1) := by decide +kernel
theorem dX8_best_36 : decode cX8_best 36 = .ok (.i2l, 1) := by decide +kernel
theorem dX8_best_37 : decode cX8_best 37 = .ok (.lconst 0, 1) := by decide +kernel
theorem dX8_best_38 : decode cX8_best 38 = .ok (.lconst 1, 1) := by decide +kernel
theorem dX8_best_39 : decode cX8_best 39 = .ok (.invokestatic 72, 3) := by decide +kernel
theorem dX8_best_42 : decode cX8_best 42 = .ok (.ifCond .ne 6, 3) := by decide +kernel
theorem dX8_best_45 : decode cX8_best 45 = .ok (.ldc 82, 2) := by decide +kernel
theorem dX8_best_47 : decode cX8_best 47 = .ok (.ireturn, 1) := by decide +kernel
theorem dX8_best_48 : decode cX8_best 48 = .ok (.aload_n 0, 1) := by decide +kernel
theorem dX8_best_49 : decode cX8_best 49 = .ok (.getfield 19, 3) := by decide +kernel
theorem dX8_best_52 : decode cX8_best 52 = .ok (.iconst 3, 1) := by decide +kernel
theorem dX8_best_53 : decode cX8_best 53 = .ok (.iaload, 1) := by decide +kernel
theorem dX8_best_54 : decode cX8_best 54 = .ok (.bipush 20, 2) := by decide +kernel
theorem dX8_best_56 : decode cX8_best 56 = .ok (.if_icmp .ne 6, 3) := by decide +kernel
theorem dX8_best_59 : decode cX8_best 59 = .ok (.ldc 92, 2) := by decide +kernel
theorem dX8_best_61 : decode cX8_best 61 = .ok (.ireturn, 1) := by decide +kernel
theorem dX8_best_62 : decode cX8_best 62 = .ok (.ldc 105, 2) := by decide +kernel
theorem dX8_best_64 : decode cX8_best 64 = .ok (.istore 4, 2) := by decide +kernel
theorem dX8_best_66 : decode cX8_best 66 = .ok (.iconst 0, 1) := by decide +kernel
theorem dX8_best_67 : decode cX8_best 67 = .ok (.istore 5, 2) := by decide +kernel
theorem dX8_best_69 : decode cX8_best 69 = .ok (.iconst 0, 1) := by decide +kernel
theorem dX8_best_70 : decode cX8_best 70 = .ok (.istore 6, 2) := by decide +kernel
theorem dX8_best_72 : decode cX8_best 72 = .ok (.iload 6, 2) := by decide +kernel
theorem dX8_best_74 : decode cX8_best 74 = .ok (.aload_n 0, 1) := by decide +kernel
theorem dX8_best_75 : decode cX8_best 75 = .ok (.getfield 19, 3) := by decide +kernel
theorem dX8_best_78 : decode cX8_best 78 = .ok (.iconst 0, 1) := by decide +kernel
theorem dX8_best_79 : decode cX8_best 79 = .ok (.iaload, 1) := by decide +kernel
theorem dX8_best_80 : decode cX8_best 80 = .ok (.if_icmp .ge 72, 3) := by decide +kernel
theorem dX8_best_83 : decode cX8_best 83 = .ok (.aload_n 0, 1) := by decide +kernel
theorem dX8_best_84 : decode cX8_best 84 = .ok (.aload_n 0, 1) := by decide +kernel
theorem dX8_best_85 : decode cX8_best 85 = .ok (.getfield 19, 3) := by decide +kernel
theorem dX8_best_88 : decode cX8_best 88 = .ok (.invokevirtual 232, 3) := by decide +kernel
theorem dX8_best_91 : decode cX8_best 91 = .ok (.aload_n 0, 1) := by decide +kernel
theorem dX8_best_92 : decode cX8_best 92 = .ok (.getfield 46, 3) := by decide +kernel
theorem dX8_best_95 : decode cX8_best 95 = .ok (.iload 6, 2) := by decide +kernel
theorem dX8_best_97 : decode cX8_best 97 = .ok (.iaload, 1) := by decide +kernel
theorem dX8_best_98 : decode cX8_best 98 = .ok (.istore 7, 2) := by decide +kernel
theorem dX8_best_100 : decode cX8_best 100 = .ok (.aload_n 0, 1) := by decide +kernel
theorem dX8_best_101 : decode cX8_best 101 = .ok (.iload_n 1, 1) := by decide +kernel
theorem dX8_best_102 : decode cX8_best 102 = .ok (.iload 6, 2) := by decide +kernel
theorem dX8_best_104 : decode cX8_best 104 = .ok (.iload_n 2, 1) := by decide +kernel
theorem dX8_best_105 : decode cX8_best 105 = .ok (.invokevirtual 260, 3) := by decide +kernel
theorem dX8_best_108 : decode cX8_best 108 = .ok (.iload 4, 2) := by decide +kernel
theorem dX8_best_110 : decode cX8_best 110 = .ok (.ldc 105, 2) := by decide +kernel
theorem dX8_best_112 : decode cX8_best 112 = .ok (.if_icmp .eq 18, 3) := by decide +kernel
theorem dX8_best_115 : decode cX8_best 115 = .ok (.aload_n 0, 1) := by decide +kernel
theorem dX8_best_116 : decode cX8_best 116 = .ok (.getfield 46, 3) := by decide +kernel
theorem dX8_best_119 : decode cX8_best 119 = .ok (.iload 6, 2) := by decide +kernel
theorem dX8_best_121 : decode cX8_best 121 = .ok (.iaload, 1) := by decide +kernel
theorem dX8_best_122 : decode cX8_best 122 = .ok (.iload 7, 2) := by decide +kernel
theorem dX8_best_124 : decode cX8_best 124 = .ok (.isub, 1) := by decide +kernel
theorem dX8_best_125 : decode cX8_best 125 = .ok (.iload 5, 2) := by decide +kernel
theorem dX8_best_127 : decode cX8_best 127 = .ok (.if_icmp .le 19, 3) := by decide +kernel
theorem dX8_best_130 : decode cX8_best 130 = .ok (.iload 6, 2) := by decide +kernel
theorem dX8_best_132 : decode cX8_best 132 = .ok (.istore 4, 2) := by decide +kernel
theorem dX8_best_134 : decode cX8_best 134 = .ok (.aload_n 0, 1) := by decide +kernel
theorem dX8_best_135 : decode cX8_best 135 = .ok (.getfield 46, 3) := by decide +kernel
theorem dX8_best_138 : decode cX8_best 138 = .ok (.iload 6, 2) := by decide +kernel
theorem dX8_best_140 : decode cX8_best 140 = .ok (.iaload, 1) := by decide +kernel
theorem dX8_best_141 : decode cX8_best 141 = .ok (.iload 7, 2) := by decide +kernel
theorem dX8_best_143 : decode cX8_best 143 = .ok (.isub, 1) := by decide +kernel
theorem dX8_best_144 : decode cX8_best 144 = .ok (.istore 5, 2) := by decide +kernel
theorem dX8_best_146 : decode cX8_best 146 = .ok (.iinc 6 1, 3) := by decide +kernel
theorem dX8_best_149 : decode cX8_best 149 = .ok (.goto (-77), 3) := by decide +kernel
theorem dX8_best_152 : decode cX8_best 152 = .ok (.iload_n 3, 1) := by decide +kernel
theorem dX8_best_153 : decode cX8_best 153 = .ok (.ifCond .ne 8, 3) := by decide +kernel
theorem dX8_best_156 : decode cX8_best 156 = .ok (.iload 4, 2) := by decide +kernel
theorem dX8_best_158 : decode cX8_best 158 = .ok (.goto 5, 3) := by decide +kernel
theorem dX8_best_161 : decode cX8_best 161 = .ok (.iload 5, 2) := by decide +kernel
theorem dX8_best_163 : decode cX8_best 163 = .ok (.ireturn, 1) := by decide +kernel
theorem dX8_least_0 : decode cX8_least 0 = .ok (.aload_n 0, 1) := by decide +kernel
theorem dX8_least_1 : decode cX8_least 1 = .ok (.iconst 0, 1) := by decide +kernel
theorem dX8_least_2 : decode cX8_least 2 = .ok (.putfield 62, 3) := by decide +kernel
theorem dX8_least_5 : decode cX8_least 5 = .ok (.aload_n 0, 1) := by decide +kernel
theorem dX8_least_6 : decode cX8_least 6 = .ok (.iload_n 1, 1) := by decide +kernel
theorem dX8_least_7 : decode cX8_least 7 = .ok (.iload_n 2, 1) := by decide +kernel
theorem dX8_least_8 : decode cX8_least 8 = .ok (.invokevirtual 241, 3) := by decide +kernel
theorem dX8_least_11 : decode cX8_least 11 = .ok (.ifCond .eq 15, 3) := by decide +kernel
theorem dX8_least_14 : decode cX8_least 14 = .ok (.iload_n 3, 1) := by decide +kernel
theorem dX8_least_15 : decode cX8_least 15 = .ok (.i2l, 1) := by decide +kernel
theorem dX8_least_16 : decode cX8_least 16 = .ok (.lconst 1, 1) := by decide +kernel
theorem dX8_least_17 : decode cX8_least 17 = .ok (.ldc2_w 264, 3) := by decide +kernel
theorem dX8_least_20 : decode cX8_least 20 = .ok (.invokestatic 72, 3) := by decide +kernel
theorem dX8_least_23 : decode cX8_least 23 = .ok (.ifCond .ne 6, 3) := by decide +kernel
theorem dX8_least_26 : decode cX8_least 26 = .ok (.ldc 82, 2) := by decide +kernel
theorem dX8_least_28 : decode cX8_least 28 = .ok (.ireturn, 1) := by decide +kernel
theorem dX8_least_29 : decode cX8_least 29 = .ok (.aload_n 0, 1) := by decide +kernel
theorem dX8_least_30 : decode cX8_least 30 = .ok (.getfield 19, 3) := by decide +kernel
theorem dX8_least_33 : decode cX8_least 33 = .ok (.iconst 3, 1) := by decide +kernel
theorem dX8_least_34 : decode cX8_least 34 = .ok (.iaload, 1) := by decide +kernel
theorem dX8_least_35 : decode cX8_least 35 = .ok (.bipush 20, 2) := by decide +kernel
theorem dX8_least_37 : decode cX8_least 37 = .ok (.if_icmp .ne 6, 3) := by decide +kernel
theorem dX8_least_40 : decode cX8_least 40 = .ok (.ldc 92, 2) := by decide +kernel
theorem dX8_least_42 : decode cX8_least 42 = .ok (.ireturn, 1) := by decide +kernel
theorem dX8_least_43 : decode cX8_least 43 = .ok (.iconst 1, 1) := by decide +kernel
theorem dX8_least_44 : decode cX8_least 44 = .ok (.istore 4, 2) := by decide +kernel
theorem dX8_least_46 : decode cX8_least 46 = .ok (.iload 4, 2) := by decide +kernel
theorem dX8_least_48 : decode cX8_least 48 = .ok (.bipush 100, 2) := by decide +kernel
theorem dX8_least_50 : decode cX8_least 50 = .ok (.if_icmp .ge 30, 3) := by decide +kernel
theorem dX8_least_53 : decode cX8_least 53 = .ok (.aload_n 0, 1) := by decide +kernel
theorem dX8_least_54 : decode cX8_least 54 = .ok (.iload_n 1, 1) := by decide +kernel
theorem dX8_least_55 : decode cX8_least 55 = .ok (.iload_n 2, 1) := by decide +kernel
theorem dX8_least_56 : decode cX8_least 56 = .ok (.iload 4, 2) := by decide +kernel
theorem dX8_least_58 : decode cX8_least 58 = .ok (.invokevirtual 260, 3) := by decide +kernel
theorem dX8_least_61 : decode cX8_least 61 = .ok (.aload_n 0, 1) := by decide +kernel
theorem dX8_least_62 : decode cX8_least 62 = .ok (.getfield 43, 3) := by decide +kernel
theorem dX8_least_65 : decode cX8_least 65 = .ok (.iload_n 2, 1) := by decide +kernel
theorem dX8_least_66 : decode cX8_least 66 = .ok (.iaload, 1) := by decide +kernel
theorem dX8_least_67 : decode cX8_least 67 = .ok (.iload_n 3, 1) := by decide +kernel
theorem dX8_least_68 : decode cX8_least 68 = .ok (.if_icmp .lt 6, 3) := by decide +kernel
theorem dX8_least_71 : decode cX8_least 71 = .ok (.iload 4, 2) := by decide +kernel
theorem dX8_least_73 : decode cX8_least 73 = .ok (.ireturn, 1) := by decide +kernel
theorem dX8_least_74 : decode cX8_least 74 = .ok (.iinc 4 1, 3) := by decide +kernel
theorem dX8_least_77 : decode cX8_least 77 = .ok (.goto (-31), 3) := by decide +kernel
theorem dX8_least_80 : decode cX8_least 80 = .ok (.ldc 105, 2) := by decide +kernel
theorem dX8_least_82 : decode cX8_least 82 = .ok (.ireturn, 1) := by decide +kernel
theorem dX8_givers_0 : decode cX8_givers 0 = .ok (.aload_n 0, 1) := by decide +kernel
theorem dX8_givers_1 : decode cX8_givers 1 = .ok (.aload_n 1, 1) := by decide +kernel
theorem dX8_givers_2 : decode cX8_givers 2 = .ok (.invokevirtual 219, 3) := by decide +kernel
theorem dX8_givers_5 : decode cX8_givers 5 = .ok (.iconst 0, 1) := by decide +kernel
theorem dX8_givers_6 : decode cX8_givers 6 = .ok (.istore_n 2, 1) := by decide +kernel
theorem dX8_givers_7 : decode cX8_givers 7 = .ok (.iconst 0, 1) := by decide +kernel
theorem dX8_givers_8 : decode cX8_givers 8 = .ok (.istore_n 3, 1) := by decide +kernel
theorem dX8_givers_9 : decode cX8_givers 9 = .ok (.iload_n 3, 1) := by decide +kernel
theorem dX8_givers_10 : decode cX8_givers 10 = .ok (.aload_n 1, 1) := by decide +kernel
theorem dX8_givers_11 : decode cX8_givers 11 = .ok (.iconst 0, 1) := by decide +kernel
theorem dX8_givers_12 : decode cX8_givers 12 = .ok (.iaload, 1) := by decide +kernel
theorem dX8_givers_13 : decode cX8_givers 13 = .ok (.if_icmp .ge 17, 3) := by decide +kernel
theorem dX8_givers_16 : decode cX8_givers 16 = .ok (.iload_n 2, 1) := by decide +kernel
theorem dX8_givers_17 : decode cX8_givers 17 = .ok (.aload_n 0, 1) := by decide +kernel
theorem dX8_givers_18 : decode cX8_givers 18 = .ok (.iload_n 3, 1) := by decide +kernel
theorem dX8_givers_19 : decode cX8_givers 19 = .ok (.invokevirtual 199, 3) := by decide +kernel
theorem dX8_givers_22 : decode cX8_givers 22 = .ok (.ior, 1) := by decide +kernel
theorem dX8_givers_23 : decode cX8_givers 23 = .ok (.istore_n 2, 1) := by decide +kernel
theorem dX8_givers_24 : decode cX8_givers 24 = .ok (.iinc 3 1, 3) := by decide +kernel
theorem dX8_givers_27 : decode cX8_givers 27 = .ok (.goto (-18), 3) := by decide +kernel
theorem dX8_givers_30 : decode cX8_givers 30 = .ok (.iload_n 2, 1) := by decide +kernel
theorem dX8_givers_31 : decode cX8_givers 31 = .ok (.ireturn, 1) := by decide +kernel
theorem dX8_layWithout_0 : decode cX8_layWithout 0 = .ok (.aload_n 0, 1) := by decide +kernel
theorem dX8_layWithout_1 : decode cX8_layWithout 1 = .ok (.invokevirtual 229, 3) := by decide +kernel
theorem dX8_layWithout_4 : decode cX8_layWithout 4 = .ok (.aload_n 0, 1) := by decide +kernel
theorem dX8_layWithout_5 : decode cX8_layWithout 5 = .ok (.getfield 25, 3) := by decide +kernel
theorem dX8_layWithout_8 : decode cX8_layWithout 8 = .ok (.iconst 3, 1) := by decide +kernel
theorem dX8_layWithout_9 : decode cX8_layWithout 9 = .ok (.iconst 0, 1) := by decide +kernel
theorem dX8_layWithout_10 : decode cX8_layWithout 10 = .ok (.iastore, 1) := by decide +kernel
theorem dX8_layWithout_11 : decode cX8_layWithout 11 = .ok (.iconst 0, 1) := by decide +kernel
theorem dX8_layWithout_12 : decode cX8_layWithout 12 = .ok (.istore_n 2, 1) := by decide +kernel
theorem dX8_layWithout_13 : decode cX8_layWithout 13 = .ok (.iload_n 2, 1) := by decide +kernel
theorem dX8_layWithout_14 : decode cX8_layWithout 14 = .ok (.aload_n 0, 1) := by decide +kernel
theorem dX8_layWithout_15 : decode cX8_layWithout 15 = .ok (.getfield 19, 3) := by decide +kernel
theorem dX8_layWithout_18 : decode cX8_layWithout 18 = .ok (.iconst 3, 1) := by decide +kernel
theorem dX8_layWithout_19 : decode cX8_layWithout 19 = .ok (.iaload, 1) := by decide +kernel
theorem dX8_layWithout_20 : decode cX8_layWithout 20 = .ok (.if_icmp .ge 67, 3) := by decide +kernel
theorem dX8_layWithout_23 : decode cX8_layWithout 23 = .ok (.iload_n 1, 1) := by decide +kernel
theorem dX8_layWithout_24 : decode cX8_layWithout 24 = .ok (.aload_n 0, 1) := by decide +kernel
theorem dX8_layWithout_25 : decode cX8_layWithout 25 = .ok (.getfield 19, 3) := by decide +kernel
theorem dX8_layWithout_28 : decode cX8_layWithout 28 = .ok (.bipush 70, 2) := by decide +kernel
theorem dX8_layWithout_30 : decode cX8_layWithout 30 = .ok (.aload_n 0, 1) := by decide +kernel
theorem dX8_layWithout_31 : decode cX8_layWithout 31 = .ok (.getfield 19, 3) := by decide +kernel
theorem dX8_layWithout_34 : decode cX8_layWithout 34 = .ok (.iload_n 2, 1) := by decide +kernel
theorem dX8_layWithout_35 : decode cX8_layWithout 35 = .ok (.iconst 0, 1) := by decide +kernel
theorem dX8_layWithout_36 : decode cX8_layWithout 36 = .ok (.invokestatic 183, 3) := by decide +kernel
theorem dX8_layWithout_39 : decode cX8_layWithout 39 = .ok (.iadd, 1) := by decide +kernel
theorem dX8_layWithout_40 : decode cX8_layWithout 40 = .ok (.iaload, 1) := by decide +kernel
theorem dX8_layWithout_41 : decode cX8_layWithout 41 = .ok (.invokestatic 266, 3) := by decide +kernel
theorem dX8_layWithout_44 : decode cX8_layWithout 44 = .ok (.ifCond .ne 37, 3) := by decide +kernel
theorem dX8_layWithout_47 : decode cX8_layWithout 47 = .ok (.aload_n 0, 1) := by decide +kernel
theorem dX8_layWithout_48 : decode cX8_layWithout 48 = .ok (.getfield 25, 3) := by decide +kernel
theorem dX8_layWithout_51 : decode cX8_layWithout 51 = .ok (.aload_n 0, 1) := by decide +kernel
theorem dX8_layWithout_52 : decode cX8_layWithout 52 = .ok (.getfield 19, 3) := by decide +kernel
theorem dX8_layWithout_55 : decode cX8_layWithout 55 = .ok (.iload_n 2, 1) := by decide +kernel
theorem dX8_layWithout_56 : decode cX8_layWithout 56 = .ok (.iconst 0, 1) := by decide +kernel
theorem dX8_layWithout_57 : decode cX8_layWithout 57 = .ok (.invokestatic 183, 3) := by decide +kernel
theorem dX8_layWithout_60 : decode cX8_layWithout 60 = .ok (.aload_n 0, 1) := by decide +kernel
theorem dX8_layWithout_61 : decode cX8_layWithout 61 = .ok (.getfield 19, 3) := by decide +kernel
theorem dX8_layWithout_64 : decode cX8_layWithout 64 = .ok (.iload_n 2, 1) := by decide +kernel
theorem dX8_layWithout_65 : decode cX8_layWithout 65 = .ok (.iconst 1, 1) := by decide +kernel
theorem dX8_layWithout_66 : decode cX8_layWithout 66 = .ok (.invokestatic 183, 3) := by decide +kernel
theorem dX8_layWithout_69 : decode cX8_layWithout 69 = .ok (.aload_n 0, 1) := by decide +kernel
theorem dX8_layWithout_70 : decode cX8_layWithout 70 = .ok (.getfield 19, 3) := by decide +kernel
theorem dX8_layWithout_73 : decode cX8_layWithout 73 = .ok (.iload_n 2, 1) := by decide +kernel
theorem dX8_layWithout_74 : decode cX8_layWithout 74 = .ok (.iconst 2, 1) := by decide +kernel
theorem dX8_layWithout_75 : decode cX8_layWithout 75 = .ok (.invokestatic 183, 3) := by decide +kernel
theorem dX8_layWithout_78 : decode cX8_layWithout 78 = .ok (.invokestatic 144, 3) := by decide +kernel
theorem dX8_layWithout_81 : decode cX8_layWithout 81 = .ok (.iinc 2 1, 3) := by decide +kernel
theorem dX8_layWithout_84 : decode cX8_layWithout 84 = .ok (.goto (-71), 3) := by decide +kernel
theorem dX8_layWithout_87 : decode cX8_layWithout 87 = .ok (.aload_n 0, 1) := by decide +kernel
theorem dX8_layWithout_88 : decode cX8_layWithout 88 = .ok (.aload_n 0, 1) := by decide +kernel
theorem dX8_layWithout_89 : decode cX8_layWithout 89 = .ok (.getfield 25, 3) := by decide +kernel
theorem dX8_layWithout_92 : decode cX8_layWithout 92 = .ok (.invokevirtual 232, 3) := by decide +kernel
theorem dX8_layWithout_95 : decode cX8_layWithout 95 = .ok (.return_, 1) := by decide +kernel
theorem dX8_missed_0 : decode cX8_missed 0 = .ok (.aload_n 0, 1) := by decide +kernel
theorem dX8_missed_1 : decode cX8_missed 1 = .ok (.iconst 0, 1) := by decide +kernel
theorem dX8_missed_2 : decode cX8_missed 2 = .ok (.putfield 62, 3) := by decide +kernel
theorem dX8_missed_5 : decode cX8_missed 5 = .ok (.aload_n 0, 1) := by decide +kernel
theorem dX8_missed_6 : decode cX8_missed 6 = .ok (.iload_n 1, 1) := by decide +kernel
theorem dX8_missed_7 : decode cX8_missed 7 = .ok (.invokevirtual 238, 3) := by decide +kernel
theorem dX8_missed_10 : decode cX8_missed 10 = .ok (.ifCond .eq 13, 3) := by decide +kernel
theorem dX8_missed_13 : decode cX8_missed 13 = .ok (.iload_n 2, 1) := by decide +kernel
theorem dX8_missed_14 : decode cX8_missed 14 = .ok (.i2l, 1) := by decide +kernel
theorem dX8_missed_15 : decode cX8_missed 15 = .ok (.lconst 0, 1) := by decide +kernel
theorem dX8_missed_16 : decode cX8_missed 16 = .ok (.lconst 1, 1) := by decide +kernel
theorem dX8_missed_17 : decode cX8_missed 17 = .ok (.invokestatic 72, 3) := by decide +kernel
theorem dX8_missed_20 : decode cX8_missed 20 = .ok (.ifCond .ne 6, 3) := by decide +kernel
theorem dX8_missed_23 : decode cX8_missed 23 = .ok (.ldc 82, 2) := by decide +kernel
theorem dX8_missed_25 : decode cX8_missed 25 = .ok (.ireturn, 1) := by decide +kernel
theorem dX8_missed_26 : decode cX8_missed 26 = .ok (.aload_n 0, 1) := by decide +kernel
theorem dX8_missed_27 : decode cX8_missed 27 = .ok (.aload_n 0, 1) := by decide +kernel
theorem dX8_missed_28 : decode cX8_missed 28 = .ok (.getfield 19, 3) := by decide +kernel
theorem dX8_missed_31 : decode cX8_missed 31 = .ok (.invokevirtual 269, 3) := by decide +kernel
theorem dX8_missed_34 : decode cX8_missed 34 = .ok (.istore_n 3, 1) := by decide +kernel
theorem dX8_missed_35 : decode cX8_missed 35 = .ok (.ldc 105, 2) := by decide +kernel
theorem dX8_missed_37 : decode cX8_missed 37 = .ok (.istore 4, 2) := by decide +kernel
theorem dX8_missed_39 : decode cX8_missed 39 = .ok (.ldc 105, 2) := by decide +kernel
theorem dX8_missed_41 : decode cX8_missed 41 = .ok (.istore 5, 2) := by decide +kernel
theorem dX8_missed_43 : decode cX8_missed 43 = .ok (.iconst 0, 1) := by decide +kernel
theorem dX8_missed_44 : decode cX8_missed 44 = .ok (.istore 6, 2) := by decide +kernel
theorem dX8_missed_46 : decode cX8_missed 46 = .ok (.iload 6, 2) := by decide +kernel
theorem dX8_missed_48 : decode cX8_missed 48 = .ok (.bipush 10, 2) := by decide +kernel
theorem dX8_missed_50 : decode cX8_missed 50 = .ok (.if_icmp .ge 56, 3) := by decide +kernel
theorem dX8_missed_53 : decode cX8_missed 53 = .ok (.iload_n 3, 1) := by decide +kernel
theorem dX8_missed_54 : decode cX8_missed 54 = .ok (.iload 6, 2) := by decide +kernel
theorem dX8_missed_56 : decode cX8_missed 56 = .ok (.invokestatic 266, 3) := by decide +kernel
theorem dX8_missed_59 : decode cX8_missed 59 = .ok (.ifCond .eq 41, 3) := by decide +kernel
theorem dX8_missed_62 : decode cX8_missed 62 = .ok (.aload_n 0, 1) := by decide +kernel
theorem dX8_missed_63 : decode cX8_missed 63 = .ok (.iconst 1, 1) := by decide +kernel
theorem dX8_missed_64 : decode cX8_missed 64 = .ok (.iload 6, 2) := by decide +kernel
theorem dX8_missed_66 : decode cX8_missed 66 = .ok (.ishl, 1) := by decide +kernel
theorem dX8_missed_67 : decode cX8_missed 67 = .ok (.invokevirtual 272, 3) := by decide +kernel
theorem dX8_missed_70 : decode cX8_missed 70 = .ok (.iload 4, 2) := by decide +kernel
theorem dX8_missed_72 : decode cX8_missed 72 = .ok (.ldc 105, 2) := by decide +kernel
theorem dX8_missed_74 : decode cX8_missed 74 = .ok (.if_icmp .eq 14, 3) := by decide +kernel
theorem dX8_missed_77 : decode cX8_missed 77 = .ok (.aload_n 0, 1) := by decide +kernel
theorem dX8_missed_78 : decode cX8_missed 78 = .ok (.getfield 46, 3) := by decide +kernel
theorem dX8_missed_81 : decode cX8_missed 81 = .ok (.iload_n 1, 1) := by decide +kernel
theorem dX8_missed_82 : decode cX8_missed 82 = .ok (.iaload, 1) := by decide +kernel
theorem dX8_missed_83 : decode cX8_missed 83 = .ok (.iload 5, 2) := by decide +kernel
theorem dX8_missed_85 : decode cX8_missed 85 = .ok (.if_icmp .ge 15, 3) := by decide +kernel
theorem dX8_missed_88 : decode cX8_missed 88 = .ok (.iload 6, 2) := by decide +kernel
theorem dX8_missed_90 : decode cX8_missed 90 = .ok (.istore 4, 2) := by decide +kernel
theorem dX8_missed_92 : decode cX8_missed 92 = .ok (.aload_n 0, 1) := by decide +kernel
theorem dX8_missed_93 : decode cX8_missed 93 = .ok (.getfield 46, 3) := by decide +kernel
theorem dX8_missed_96 : decode cX8_missed 96 = .ok (.iload_n 1, 1) := by decide +kernel
theorem dX8_missed_97 : decode cX8_missed 97 = .ok (.iaload, 1) := by decide +kernel
theorem dX8_missed_98 : decode cX8_missed 98 = .ok (.istore 5, 2) := by decide +kernel
theorem dX8_missed_100 : decode cX8_missed 100 = .ok (.iinc 6 1, 3) := by decide +kernel
theorem dX8_missed_103 : decode cX8_missed 103 = .ok (.goto (-57), 3) := by decide +kernel
theorem dX8_missed_106 : decode cX8_missed 106 = .ok (.iload_n 2, 1) := by decide +kernel
theorem dX8_missed_107 : decode cX8_missed 107 = .ok (.ifCond .ne 8, 3) := by decide +kernel
theorem dX8_missed_110 : decode cX8_missed 110 = .ok (.iload 4, 2) := by decide +kernel
theorem dX8_missed_112 : decode cX8_missed 112 = .ok (.goto 5, 3) := by decide +kernel
theorem dX8_missed_115 : decode cX8_missed 115 = .ok (.iload 5, 2) := by decide +kernel
theorem dX8_missed_117 : decode cX8_missed 117 = .ok (.ireturn, 1) := by decide +kernel
theorem dX8_ring_0 : decode cX8_ring 0 = .ok (.aload_n 0, 1) := by decide +kernel
theorem dX8_ring_1 : decode cX8_ring 1 = .ok (.iconst 0, 1) := by decide +kernel
theorem dX8_ring_2 : decode cX8_ring 2 = .ok (.putfield 62, 3) := by decide +kernel
theorem dX8_ring_5 : decode cX8_ring 5 = .ok (.aload_n 0, 1) := by decide +kernel
theorem dX8_ring_6 : decode cX8_ring 6 = .ok (.invokevirtual 174, 3) := by decide +kernel
theorem dX8_ring_9 : decode cX8_ring 9 = .ok (.ifCond .ne 6, 3) := by decide +kernel
theorem dX8_ring_12 : decode cX8_ring 12 = .ok (.ldc 253, 2) := by decide +kernel
theorem dX8_ring_14 : decode cX8_ring 14 = .ok (.ireturn, 1) := by decide +kernel
theorem dX8_ring_15 : decode cX8_ring 15 = .ok (.iload_n 1, 1) := by decide +kernel
theorem dX8_ring_16 : decode cX8_ring 16 = .ok (.i2l, 1) := by decide +kernel
theorem dX8_ring_17 : decode cX8_ring 17 = .ok (.lconst 0, 1) := by decide +kernel
theorem dX8_ring_18 : decode cX8_ring 18 = .ok (.ldc2_w 80, 3) := by decide +kernel
theorem dX8_ring_21 : decode cX8_ring 21 = .ok (.invokestatic 72, 3) := by decide +kernel
theorem dX8_ring_24 : decode cX8_ring 24 = .ok (.ifCond .ne 6, 3) := by decide +kernel
theorem dX8_ring_27 : decode cX8_ring 27 = .ok (.ldc 82, 2) := by decide +kernel
theorem dX8_ring_29 : decode cX8_ring 29 = .ok (.ireturn, 1) := by decide +kernel
theorem dX8_ring_30 : decode cX8_ring 30 = .ok (.aload_n 0, 1) := by decide +kernel
theorem dX8_ring_31 : decode cX8_ring 31 = .ok (.aload_n 0, 1) := by decide +kernel
theorem dX8_ring_32 : decode cX8_ring 32 = .ok (.getfield 19, 3) := by decide +kernel
theorem dX8_ring_35 : decode cX8_ring 35 = .ok (.invokevirtual 219, 3) := by decide +kernel
theorem dX8_ring_38 : decode cX8_ring 38 = .ok (.ldc 105, 2) := by decide +kernel
theorem dX8_ring_40 : decode cX8_ring 40 = .ok (.istore_n 2, 1) := by decide +kernel
theorem dX8_ring_41 : decode cX8_ring 41 = .ok (.ldc 105, 2) := by decide +kernel
theorem dX8_ring_43 : decode cX8_ring 43 = .ok (.istore_n 3, 1) := by decide +kernel
theorem dX8_ring_44 : decode cX8_ring 44 = .ok (.iconst 0, 1) := by decide +kernel
theorem dX8_ring_45 : decode cX8_ring 45 = .ok (.istore 4, 2) := by decide +kernel
theorem dX8_ring_47 : decode cX8_ring 47 = .ok (.iconst 0, 1) := by decide +kernel
theorem dX8_ring_48 : decode cX8_ring 48 = .ok (.istore 5, 2) := by decide +kernel
theorem dX8_ring_50 : decode cX8_ring 50 = .ok (.iload 5, 2) := by decide +kernel
theorem dX8_ring_52 : decode cX8_ring 52 = .ok (.bipush 10, 2) := by decide +kernel
theorem dX8_ring_54 : decode cX8_ring 54 = .ok (.if_icmp .ge 67, 3) := by decide +kernel
theorem dX8_ring_57 : decode cX8_ring 57 = .ok (.iload 5, 2) := by decide +kernel
theorem dX8_ring_59 : decode cX8_ring 59 = .ok (.iconst 1, 1) := by decide +kernel
theorem dX8_ring_60 : decode cX8_ring 60 = .ok (.iadd, 1) := by decide +kernel
theorem dX8_ring_61 : decode cX8_ring 61 = .ok (.istore 6, 2) := by decide +kernel
theorem dX8_ring_63 : decode cX8_ring 63 = .ok (.iload 6, 2) := by decide +kernel
theorem dX8_ring_65 : decode cX8_ring 65 = .ok (.bipush 10, 2) := by decide +kernel
theorem dX8_ring_67 : decode cX8_ring 67 = .ok (.if_icmp .ge 48, 3) := by decide +kernel
theorem dX8_ring_70 : decode cX8_ring 70 = .ok (.aload_n 0, 1) := by decide +kernel
theorem dX8_ring_71 : decode cX8_ring 71 = .ok (.getfield 40, 3) := by decide +kernel
theorem dX8_ring_74 : decode cX8_ring 74 = .ok (.bipush 10, 2) := by decide +kernel
theorem dX8_ring_76 : decode cX8_ring 76 = .ok (.iload 5, 2) := by decide +kernel
theorem dX8_ring_78 : decode cX8_ring 78 = .ok (.imul, 1) := by decide +kernel
theorem dX8_ring_79 : decode cX8_ring 79 = .ok (.iload 6, 2) := by decide +kernel
theorem dX8_ring_81 : decode cX8_ring 81 = .ok (.iadd, 1) := by decide +kernel
theorem dX8_ring_82 : decode cX8_ring 82 = .ok (.iaload, 1) := by decide +kernel
theorem dX8_ring_83 : decode cX8_ring 83 = .ok (.iload 4, 2) := by decide +kernel
theorem dX8_ring_85 : decode cX8_ring 85 = .ok (.if_icmp .le 24, 3) := by decide +kernel
theorem dX8_ring_88 : decode cX8_ring 88 = .ok (.iload 5, 2) := by decide +kernel
theorem dX8_ring_90 : decode cX8_ring 90 = .ok (.istore_n 2, 1) := by decide +kernel
theorem dX8_ring_91 : decode cX8_ring 91 = .ok (.iload 6, 2) := by decide +kernel
theorem dX8_ring_93 : decode cX8_ring 93 = .ok (.istore_n 3, 1) := by decide +kernel
theorem dX8_ring_94 : decode cX8_ring 94 = .ok (.aload_n 0, 1) := by decide +kernel
theorem dX8_ring_95 : decode cX8_ring 95 = .ok (.getfield 40, 3) := by decide +kernel
theorem dX8_ring_98 : decode cX8_ring 98 = .ok (.bipush 10, 2) := by decide +kernel
theorem dX8_ring_100 : decode cX8_ring 100 = .ok (.iload 5, 2) := by decide +kernel
theorem dX8_ring_102 : decode cX8_ring 102 = .ok (.imul, 1) := by decide +kernel
theorem dX8_ring_103 : decode cX8_ring 103 = .ok (.iload 6, 2) := by decide +kernel
theorem dX8_ring_105 : decode cX8_ring 105 = .ok (.iadd, 1) := by decide +kernel
theorem dX8_ring_106 : decode cX8_ring 106 = .ok (.iaload, 1) := by decide +kernel
theorem dX8_ring_107 : decode cX8_ring 107 = .ok (.istore 4, 2) := by decide +kernel
theorem dX8_ring_109 : decode cX8_ring 109 = .ok (.iinc 6 1, 3) := by decide +kernel
theorem dX8_ring_112 : decode cX8_ring 112 = .ok (.goto (-49), 3) := by decide +kernel
theorem dX8_ring_115 : decode cX8_ring 115 = .ok (.iinc 5 1, 3) := by decide +kernel
theorem dX8_ring_118 : decode cX8_ring 118 = .ok (.goto (-68), 3) := by decide +kernel
theorem dX8_ring_121 : decode cX8_ring 121 = .ok (.iload_n 1, 1) := by decide +kernel
theorem dX8_ring_122 : decode cX8_ring 122 = .ok (.ifCond .ne 7, 3) := by decide +kernel
theorem dX8_ring_125 : decode cX8_ring 125 = .ok (.iload_n 2, 1) := by decide +kernel
theorem dX8_ring_126 : decode cX8_ring 126 = .ok (.goto 24, 3) := by decide +kernel
theorem dX8_ring_129 : decode cX8_ring 129 = .ok (.iload_n 1, 1) := by decide +kernel
theorem dX8_ring_130 : decode cX8_ring 130 = .ok (.iconst 1, 1) := by decide +kernel
theorem dX8_ring_131 : decode cX8_ring 131 = .ok (.if_icmp .ne 7, 3) := by decide +kernel
theorem dX8_ring_134 : decode cX8_ring 134 = .ok (.iload_n 3, 1) := by decide +kernel
theorem dX8_ring_135 : decode cX8_ring 135 = .ok (.goto 15, 3) := by decide +kernel
theorem dX8_ring_138 : decode cX8_ring 138 = .ok (.iload 4, 2) := by decide +kernel
theorem dX8_ring_140 : decode cX8_ring 140 = .ok (.ifCond .ne 8, 3) := by decide +kernel
theorem dX8_ring_143 : decode cX8_ring 143 = .ok (.ldc 105, 2) := by decide +kernel
theorem dX8_ring_145 : decode cX8_ring 145 = .ok (.goto 5, 3) := by decide +kernel
theorem dX8_ring_148 : decode cX8_ring 148 = .ok (.iload 4, 2) := by decide +kernel
theorem dX8_ring_150 : decode cX8_ring 150 = .ok (.ireturn, 1) := by decide +kernel
theorem dX8_halves_0 : decode cX8_halves 0 = .ok (.aload_n 0, 1) := by decide +kernel
theorem dX8_halves_1 : decode cX8_halves 1 = .ok (.iconst 0, 1) := by decide +kernel
theorem dX8_halves_2 : decode cX8_halves 2 = .ok (.putfield 62, 3) := by decide +kernel
theorem dX8_halves_5 : decode cX8_halves 5 = .ok (.aload_n 0, 1) := by decide +kernel
theorem dX8_halves_6 : decode cX8_halves 6 = .ok (.iload_n 1, 1) := by decide +kernel
theorem dX8_halves_7 : decode cX8_halves 7 = .ok (.iload_n 3, 1) := by decide +kernel
theorem dX8_halves_8 : decode cX8_halves 8 = .ok (.invokevirtual 241, 3) := by decide +kernel
theorem dX8_halves_11 : decode cX8_halves 11 = .ok (.ifCond .eq 35, 3) := by decide +kernel
theorem dX8_halves_14 : decode cX8_halves 14 = .ok (.iload_n 2, 1) := by decide +kernel
theorem dX8_halves_15 : decode cX8_halves 15 = .ok (.i2l, 1) := by decide +kernel
theorem dX8_halves_16 : decode cX8_halves 16 = .ok (.lconst 1, 1) := by decide +kernel
theorem dX8_halves_17 : decode cX8_halves 17 = .ok (.ldc2_w 275, 3) := by decide +kernel
theorem dX8_halves_20 : decode cX8_halves 20 = .ok (.invokestatic 72, 3) := by decide +kernel
theorem dX8_halves_23 : decode cX8_halves 23 = .ok (.ifCond .eq 23, 3) := by decide +kernel
theorem dX8_halves_26 : decode cX8_halves 26 = .ok (.aload_n 0, 1) := by decide +kernel
theorem dX8_halves_27 : decode cX8_halves 27 = .ok (.iload 4, 2) := by decide +kernel
theorem dX8_halves_29 : decode cX8_halves 29 = .ok (.invokevirtual 238, 3) := by decide +kernel
theorem dX8_halves_32 : decode cX8_halves 32 = .ok (.ifCond .eq 14, 3) := by decide +kernel
theorem dX8_halves_35 : decode cX8_halves 35 = .ok (.iload 5, 2) := by decide +kernel
theorem dX8_halves_37 : decode cX8_halves 37 = .ok (.i2l, 1) := by decide +kernel
theorem dX8_halves_38 : decode cX8_halves 38 = .ok (.lconst 0, 1) := by decide +kernel
theorem dX8_halves_39 : decode cX8_halves 39 = .ok (.lconst 1, 1) := by decide +kernel
theorem dX8_halves_40 : decode cX8_halves 40 = .ok (.invokestatic 72, 3) := by decide +kernel
theorem dX8_halves_43 : decode cX8_halves 43 = .ok (.ifCond .ne 6, 3) := by decide +kernel
theorem dX8_halves_46 : decode cX8_halves 46 = .ok (.ldc 82, 2) := by decide +kernel
theorem dX8_halves_48 : decode cX8_halves 48 = .ok (.ireturn, 1) := by decide +kernel
theorem dX8_halves_49 : decode cX8_halves 49 = .ok (.aload_n 0, 1) := by decide +kernel
theorem dX8_halves_50 : decode cX8_halves 50 = .ok (.getfield 19, 3) := by decide +kernel
theorem dX8_halves_53 : decode cX8_halves 53 = .ok (.iconst 3, 1) := by decide +kernel
theorem dX8_halves_54 : decode cX8_halves 54 = .ok (.iaload, 1) := by decide +kernel
theorem dX8_halves_55 : decode cX8_halves 55 = .ok (.bipush 18, 2) := by decide +kernel
theorem dX8_halves_57 : decode cX8_halves 57 = .ok (.if_icmp .le 6, 3) := by decide +kernel
theorem dX8_halves_60 : decode cX8_halves 60 = .ok (.ldc 92, 2) := by decide +kernel
theorem dX8_halves_62 : decode cX8_halves 62 = .ok (.ireturn, 1) := by decide +kernel
theorem dX8_halves_63 : decode cX8_halves 63 = .ok (.ldc 105, 2) := by decide +kernel
theorem dX8_halves_65 : decode cX8_halves 65 = .ok (.istore 6, 2) := by decide +kernel
theorem dX8_halves_67 : decode cX8_halves 67 = .ok (.iconst 0, 1) := by decide +kernel
theorem dX8_halves_68 : decode cX8_halves 68 = .ok (.istore 7, 2) := by decide +kernel
theorem dX8_halves_70 : decode cX8_halves 70 = .ok (.iconst 0, 1) := by decide +kernel
theorem dX8_halves_71 : decode cX8_halves 71 = .ok (.istore 8, 2) := by decide +kernel
theorem dX8_halves_73 : decode cX8_halves 73 = .ok (.iload 8, 2) := by decide +kernel
theorem dX8_halves_75 : decode cX8_halves 75 = .ok (.iload_n 2, 1) := by decide +kernel
theorem dX8_halves_76 : decode cX8_halves 76 = .ok (.if_icmp .gt 110, 3) := by decide +kernel
theorem dX8_halves_79 : decode cX8_halves 79 = .ok (.aload_n 0, 1) := by decide +kernel
theorem dX8_halves_80 : decode cX8_halves 80 = .ok (.invokevirtual 229, 3) := by decide +kernel
theorem dX8_halves_83 : decode cX8_halves 83 = .ok (.iload 8, 2) := by decide +kernel
theorem dX8_halves_85 : decode cX8_halves 85 = .ok (.ifCond .le 14, 3) := by decide +kernel
theorem dX8_halves_88 : decode cX8_halves 88 = .ok (.aload_n 0, 1) := by decide +kernel
theorem dX8_halves_89 : decode cX8_halves 89 = .ok (.getfield 25, 3) := by decide +kernel
theorem dX8_halves_92 : decode cX8_halves 92 = .ok (.iload_n 1, 1) := by decide +kernel
theorem dX8_halves_93 : decode cX8_halves 93 = .ok (.iload_n 3, 1) := by decide +kernel
theorem dX8_halves_94 : decode cX8_halves 94 = .ok (.iload 8, 2) := by decide +kernel
theorem dX8_halves_96 : decode cX8_halves 96 = .ok (.invokestatic 144, 3) := by decide +kernel
theorem dX8_halves_99 : decode cX8_halves 99 = .ok (.iload 8, 2) := by decide +kernel
theorem dX8_halves_101 : decode cX8_halves 101 = .ok (.iload_n 2, 1) := by decide +kernel
theorem dX8_halves_102 : decode cX8_halves 102 = .ok (.if_icmp .ge 17, 3) := by decide +kernel
theorem dX8_halves_105 : decode cX8_halves 105 = .ok (.aload_n 0, 1) := by decide +kernel
theorem dX8_halves_106 : decode cX8_halves 106 = .ok (.getfield 25, 3) := by decide +kernel
theorem dX8_halves_109 : decode cX8_halves 109 = .ok (.iload_n 1, 1) := by decide +kernel
theorem dX8_halves_110 : decode cX8_halves 110 = .ok (.iload 4, 2) := by decide +kernel
theorem dX8_halves_112 : decode cX8_halves 112 = .ok (.iload_n 2, 1) := by decide +kernel
theorem dX8_halves_113 : decode cX8_halves 113 = .ok (.iload 8, 2) := by decide +kernel
theorem dX8_halves_115 : decode cX8_halves 115 = .ok (.isub, 1) := by decide +kernel
theorem dX8_halves_116 : decode cX8_halves 116 = .ok (.invokestatic 144, 3) := by decide +kernel
theorem dX8_halves_119 : decode cX8_halves 119 = .ok (.aload_n 0, 1) := by decide +kernel
theorem dX8_halves_120 : decode cX8_halves 120 = .ok (.aload_n 0, 1) := by decide +kernel
theorem dX8_halves_121 : decode cX8_halves 121 = .ok (.getfield 25, 3) := by decide +kernel
theorem dX8_halves_124 : decode cX8_halves 124 = .ok (.invokevirtual 232, 3) := by decide +kernel
theorem dX8_halves_127 : decode cX8_halves 127 = .ok (.iload_n 3, 1) := by decide +kernel
theorem dX8_halves_128 : decode cX8_halves 128 = .ok (.iload 4, 2) := by decide +kernel
theorem dX8_halves_130 : decode cX8_halves 130 = .ok (.if_icmp .ne 12, 3) := by decide +kernel
theorem dX8_halves_133 : decode cX8_halves 133 = .ok (.aload_n 0, 1) := by decide +kernel
theorem dX8_halves_134 : decode cX8_halves 134 = .ok (.getfield 46, 3) := by decide +kernel
theorem dX8_halves_137 : decode cX8_halves 137 = .ok (.iload_n 3, 1) := by decide +kernel
theorem dX8_halves_138 : decode cX8_halves 138 = .ok (.iaload, 1) := by decide +kernel
theorem dX8_halves_139 : decode cX8_halves 139 = .ok (.goto 17, 3) := by decide +kernel
theorem dX8_halves_142 : decode cX8_halves 142 = .ok (.aload_n 0, 1) := by decide +kernel
theorem dX8_halves_143 : decode cX8_halves 143 = .ok (.getfield 46, 3) := by decide +kernel
theorem dX8_halves_146 : decode cX8_halves 146 = .ok (.iload_n 3, 1) := by decide +kernel
theorem dX8_halves_147 : decode cX8_halves 147 = .ok (.iaload, 1) := by decide +kernel
theorem dX8_halves_148 : decode cX8_halves 148 = .ok (.aload_n 0, 1) := by decide +kernel
theorem dX8_halves_149 : decode cX8_halves 149 = .ok (.getfield 46, 3) := by decide +kernel
theorem dX8_halves_152 : decode cX8_halves 152 = .ok (.iload 4, 2) := by decide +kernel
theorem dX8_halves_154 : decode cX8_halves 154 = .ok (.iaload, 1) := by decide +kernel
theorem dX8_halves_155 : decode cX8_halves 155 = .ok (.iadd, 1) := by decide +kernel
theorem dX8_halves_156 : decode cX8_halves 156 = .ok (.istore 9, 2) := by decide +kernel
theorem dX8_halves_158 : decode cX8_halves 158 = .ok (.iload 6, 2) := by decide +kernel
theorem dX8_halves_160 : decode cX8_halves 160 = .ok (.ldc 105, 2) := by decide +kernel
theorem dX8_halves_162 : decode cX8_halves 162 = .ok (.if_icmp .eq 10, 3) := by decide +kernel
theorem dX8_halves_165 : decode cX8_halves 165 = .ok (.iload 9, 2) := by decide +kernel
theorem dX8_halves_167 : decode cX8_halves 167 = .ok (.iload 7, 2) := by decide +kernel
theorem dX8_halves_169 : decode cX8_halves 169 = .ok (.if_icmp .le 11, 3) := by decide +kernel
theorem dX8_halves_172 : decode cX8_halves 172 = .ok (.iload 8, 2) := by decide +kernel
theorem dX8_halves_174 : decode cX8_halves 174 = .ok (.istore 6, 2) := by decide +kernel
theorem dX8_halves_176 : decode cX8_halves 176 = .ok (.iload 9, 2) := by decide +kernel
theorem dX8_halves_178 : decode cX8_halves 178 = .ok (.istore 7, 2) := by decide +kernel
theorem dX8_halves_180 : decode cX8_halves 180 = .ok (.iinc 8 1, 3) := by decide +kernel
theorem dX8_halves_183 : decode cX8_halves 183 = .ok (.goto (-110), 3) := by decide +kernel
theorem dX8_halves_186 : decode cX8_halves 186 = .ok (.iload 5, 2) := by decide +kernel
theorem dX8_halves_188 : decode cX8_halves 188 = .ok (.ifCond .ne 8, 3) := by decide +kernel
theorem dX8_halves_191 : decode cX8_halves 191 = .ok (.iload 6, 2) := by decide +kernel
theorem dX8_halves_193 : decode cX8_halves 193 = .ok (.goto 5, 3) := by decide +kernel
theorem dX8_halves_196 : decode cX8_halves 196 = .ok (.iload 7, 2) := by decide +kernel
theorem dX8_halves_198 : decode cX8_halves 198 = .ok (.ireturn, 1) := by decide +kernel
theorem dX8_sets_0 : decode cX8_sets 0 = .ok (.aload_n 0, 1) := by decide +kernel
theorem dX8_sets_1 : decode cX8_sets 1 = .ok (.iconst 0, 1) := by decide +kernel
theorem dX8_sets_2 : decode cX8_sets 2 = .ok (.putfield 62, 3) := by decide +kernel
theorem dX8_sets_5 : decode cX8_sets 5 = .ok (.aload_n 0, 1) := by decide +kernel
theorem dX8_sets_6 : decode cX8_sets 6 = .ok (.invokevirtual 174, 3) := by decide +kernel
theorem dX8_sets_9 : decode cX8_sets 9 = .ok (.ifCond .ne 6, 3) := by decide +kernel
theorem dX8_sets_12 : decode cX8_sets 12 = .ok (.ldc 253, 2) := by decide +kernel
theorem dX8_sets_14 : decode cX8_sets 14 = .ok (.ireturn, 1) := by decide +kernel
theorem dX8_sets_15 : decode cX8_sets 15 = .ok (.iload_n 1, 1) := by decide +kernel
theorem dX8_sets_16 : decode cX8_sets 16 = .ok (.i2l, 1) := by decide +kernel
theorem dX8_sets_17 : decode cX8_sets 17 = .ok (.lconst 0, 1) := by decide +kernel
theorem dX8_sets_18 : decode cX8_sets 18 = .ok (.ldc2_w 254, 3) := by decide +kernel
theorem dX8_sets_21 : decode cX8_sets 21 = .ok (.invokestatic 72, 3) := by decide +kernel
theorem dX8_sets_24 : decode cX8_sets 24 = .ok (.ifCond .eq 15, 3) := by decide +kernel
theorem dX8_sets_27 : decode cX8_sets 27 = .ok (.iload_n 2, 1) := by decide +kernel
theorem dX8_sets_28 : decode cX8_sets 28 = .ok (.i2l, 1) := by decide +kernel
theorem dX8_sets_29 : decode cX8_sets 29 = .ok (.lconst 0, 1) := by decide +kernel
theorem dX8_sets_30 : decode cX8_sets 30 = .ok (.ldc2_w 80, 3) := by decide +kernel
theorem dX8_sets_33 : decode cX8_sets 33 = .ok (.invokestatic 72, 3) := by decide +kernel
theorem dX8_sets_36 : decode cX8_sets 36 = .ok (.ifCond .ne 6, 3) := by decide +kernel
theorem dX8_sets_39 : decode cX8_sets 39 = .ok (.ldc 82, 2) := by decide +kernel
theorem dX8_sets_41 : decode cX8_sets 41 = .ok (.ireturn, 1) := by decide +kernel
theorem dX8_sets_42 : decode cX8_sets 42 = .ok (.aload_n 0, 1) := by decide +kernel
theorem dX8_sets_43 : decode cX8_sets 43 = .ok (.aload_n 0, 1) := by decide +kernel
theorem dX8_sets_44 : decode cX8_sets 44 = .ok (.getfield 19, 3) := by decide +kernel
theorem dX8_sets_47 : decode cX8_sets 47 = .ok (.invokevirtual 232, 3) := by decide +kernel
theorem dX8_sets_50 : decode cX8_sets 50 = .ok (.iconst 0, 1) := by decide +kernel
theorem dX8_sets_51 : decode cX8_sets 51 = .ok (.istore_n 3, 1) := by decide +kernel
theorem dX8_sets_52 : decode cX8_sets 52 = .ok (.iconst 0, 1) := by decide +kernel
theorem dX8_sets_53 : decode cX8_sets 53 = .ok (.istore 4, 2) := by decide +kernel
theorem dX8_sets_55 : decode cX8_sets 55 = .ok (.iconst 0, 1) := by decide +kernel
theorem dX8_sets_56 : decode cX8_sets 56 = .ok (.istore 5, 2) := by decide +kernel
theorem dX8_sets_58 : decode cX8_sets 58 = .ok (.iconst 0, 1) := by decide +kernel
theorem dX8_sets_59 : decode cX8_sets 59 = .ok (.istore 6, 2) := by decide +kernel
theorem dX8_sets_61 : decode cX8_sets 61 = .ok (.iload 6, 2) := by decide +kernel
theorem dX8_sets_63 : decode cX8_sets 63 = .ok (.iconst 1, 1) := by decide +kernel
theorem dX8_sets_64 : decode cX8_sets 64 = .ok (.aload_n 0, 1) := by decide +kernel
theorem dX8_sets_65 : decode cX8_sets 65 = .ok (.getfield 19, 3) := by decide +kernel
theorem dX8_sets_68 : decode cX8_sets 68 = .ok (.iconst 0, 1) := by decide +kernel
theorem dX8_sets_69 : decode cX8_sets 69 = .ok (.iaload, 1) := by decide +kernel
theorem dX8_sets_70 : decode cX8_sets 70 = .ok (.ishl, 1) := by decide +kernel
theorem dX8_sets_71 : decode cX8_sets 71 = .ok (.if_icmp .ge 90, 3) := by decide +kernel
theorem dX8_sets_74 : decode cX8_sets 74 = .ok (.iconst 0, 1) := by decide +kernel
theorem dX8_sets_75 : decode cX8_sets 75 = .ok (.istore 7, 2) := by decide +kernel
theorem dX8_sets_77 : decode cX8_sets 77 = .ok (.iconst 0, 1) := by decide +kernel
theorem dX8_sets_78 : decode cX8_sets 78 = .ok (.istore 8, 2) := by decide +kernel
theorem dX8_sets_80 : decode cX8_sets 80 = .ok (.iload 8, 2) := by decide +kernel
theorem dX8_sets_82 : decode cX8_sets 82 = .ok (.aload_n 0, 1) := by decide +kernel
theorem dX8_sets_83 : decode cX8_sets 83 = .ok (.getfield 19, 3) := by decide +kernel
theorem dX8_sets_86 : decode cX8_sets 86 = .ok (.iconst 0, 1) := by decide +kernel
theorem dX8_sets_87 : decode cX8_sets 87 = .ok (.iaload, 1) := by decide +kernel
theorem dX8_sets_88 : decode cX8_sets 88 = .ok (.if_icmp .ge 35, 3) := by decide +kernel
theorem dX8_sets_91 : decode cX8_sets 91 = .ok (.iload 7, 2) := by decide +kernel
theorem dX8_sets_93 : decode cX8_sets 93 = .ok (.iload 6, 2) := by decide +kernel
theorem dX8_sets_95 : decode cX8_sets 95 = .ok (.iload 8, 2) := by decide +kernel
theorem dX8_sets_97 : decode cX8_sets 97 = .ok (.invokestatic 266, 3) := by decide +kernel
theorem dX8_sets_100 : decode cX8_sets 100 = .ok (.ifCond .eq 13, 3) := by decide +kernel
theorem dX8_sets_103 : decode cX8_sets 103 = .ok (.aload_n 0, 1) := by decide +kernel
theorem dX8_sets_104 : decode cX8_sets 104 = .ok (.getfield 46, 3) := by decide +kernel
theorem dX8_sets_107 : decode cX8_sets 107 = .ok (.iload 8, 2) := by decide +kernel
theorem dX8_sets_109 : decode cX8_sets 109 = .ok (.iaload, 1) := by decide +kernel
theorem dX8_sets_110 : decode cX8_sets 110 = .ok (.goto 4, 3) := by decide +kernel
theorem dX8_sets_113 : decode cX8_sets 113 = .ok (.iconst 0, 1) := by decide +kernel
theorem dX8_sets_114 : decode cX8_sets 114 = .ok (.iadd, 1) := by decide +kernel
theorem dX8_sets_115 : decode cX8_sets 115 = .ok (.istore 7, 2) := by decide +kernel
theorem dX8_sets_117 : decode cX8_sets 117 = .ok (.iinc 8 1, 3) := by decide +kernel
theorem dX8_sets_120 : decode cX8_sets 120 = .ok (.goto (-40), 3) := by decide +kernel
theorem dX8_sets_123 : decode cX8_sets 123 = .ok (.iload 7, 2) := by decide +kernel
theorem dX8_sets_125 : decode cX8_sets 125 = .ok (.iload_n 1, 1) := by decide +kernel
theorem dX8_sets_126 : decode cX8_sets 126 = .ok (.if_icmp .ne 29, 3) := by decide +kernel
theorem dX8_sets_129 : decode cX8_sets 129 = .ok (.iload_n 3, 1) := by decide +kernel
theorem dX8_sets_130 : decode cX8_sets 130 = .ok (.ifCond .ne 8, 3) := by decide +kernel
theorem dX8_sets_133 : decode cX8_sets 133 = .ok (.iload 6, 2) := by decide +kernel
theorem dX8_sets_135 : decode cX8_sets 135 = .ok (.goto 8, 3) := by decide +kernel
theorem dX8_sets_138 : decode cX8_sets 138 = .ok (.iload 4, 2) := by decide +kernel
theorem dX8_sets_140 : decode cX8_sets 140 = .ok (.iload 6, 2) := by decide +kernel
theorem dX8_sets_142 : decode cX8_sets 142 = .ok (.iand, 1) := by decide +kernel
