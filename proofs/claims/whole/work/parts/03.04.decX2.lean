theorem dX2_init_0 : decode cX2_init 0 = .ok (.aload_n 0, 1) := by decide +kernel
theorem dX2_init_1 : decode cX2_init 1 = .ok (.invokespecial 3, 3) := by decide +kernel
theorem dX2_init_4 : decode cX2_init 4 = .ok (.aload_n 0, 1) := by decide +kernel
theorem dX2_init_5 : decode cX2_init 5 = .ok (.bipush 60, 2) := by decide +kernel
theorem dX2_init_7 : decode cX2_init 7 = .ok (.newarray .int, 2) := by decide +kernel
theorem dX2_init_9 : decode cX2_init 9 = .ok (.putfield 9, 3) := by decide +kernel
theorem dX2_init_12 : decode cX2_init 12 = .ok (.aload_n 0, 1) := by decide +kernel
theorem dX2_init_13 : decode cX2_init 13 = .ok (.bipush 60, 2) := by decide +kernel
theorem dX2_init_15 : decode cX2_init 15 = .ok (.newarray .int, 2) := by decide +kernel
theorem dX2_init_17 : decode cX2_init 17 = .ok (.putfield 15, 3) := by decide +kernel
theorem dX2_init_20 : decode cX2_init 20 = .ok (.aload_n 0, 1) := by decide +kernel
theorem dX2_init_21 : decode cX2_init 21 = .ok (.bipush 10, 2) := by decide +kernel
theorem dX2_init_23 : decode cX2_init 23 = .ok (.newarray .boolean, 2) := by decide +kernel
theorem dX2_init_25 : decode cX2_init 25 = .ok (.putfield 18, 3) := by decide +kernel
theorem dX2_init_28 : decode cX2_init 28 = .ok (.aload_n 0, 1) := by decide +kernel
theorem dX2_init_29 : decode cX2_init 29 = .ok (.bipush 6, 2) := by decide +kernel
theorem dX2_init_31 : decode cX2_init 31 = .ok (.newarray .int, 2) := by decide +kernel
theorem dX2_init_33 : decode cX2_init 33 = .ok (.putfield 22, 3) := by decide +kernel
theorem dX2_init_36 : decode cX2_init 36 = .ok (.aload_n 0, 1) := by decide +kernel
theorem dX2_init_37 : decode cX2_init 37 = .ok (.bipush 6, 2) := by decide +kernel
theorem dX2_init_39 : decode cX2_init 39 = .ok (.newarray .int, 2) := by decide +kernel
theorem dX2_init_41 : decode cX2_init 41 = .ok (.putfield 25, 3) := by decide +kernel
theorem dX2_init_44 : decode cX2_init 44 = .ok (.aload_n 0, 1) := by decide +kernel
theorem dX2_init_45 : decode cX2_init 45 = .ok (.bipush 6, 2) := by decide +kernel
theorem dX2_init_47 : decode cX2_init 47 = .ok (.newarray .int, 2) := by decide +kernel
theorem dX2_init_49 : decode cX2_init 49 = .ok (.putfield 28, 3) := by decide +kernel
theorem dX2_init_52 : decode cX2_init 52 = .ok (.aload_n 0, 1) := by decide +kernel
theorem dX2_init_53 : decode cX2_init 53 = .ok (.bipush 6, 2) := by decide +kernel
theorem dX2_init_55 : decode cX2_init 55 = .ok (.newarray .int, 2) := by decide +kernel
theorem dX2_init_57 : decode cX2_init 57 = .ok (.putfield 31, 3) := by decide +kernel
theorem dX2_init_60 : decode cX2_init 60 = .ok (.aload_n 0, 1) := by decide +kernel
theorem dX2_init_61 : decode cX2_init 61 = .ok (.bipush 6, 2) := by decide +kernel
theorem dX2_init_63 : decode cX2_init 63 = .ok (.newarray .int, 2) := by decide +kernel
theorem dX2_init_65 : decode cX2_init 65 = .ok (.putfield 34, 3) := by decide +kernel
theorem dX2_init_68 : decode cX2_init 68 = .ok (.aload_n 0, 1) := by decide +kernel
theorem dX2_init_69 : decode cX2_init 69 = .ok (.bipush 6, 2) := by decide +kernel
theorem dX2_init_71 : decode cX2_init 71 = .ok (.newarray .int, 2) := by decide +kernel
theorem dX2_init_73 : decode cX2_init 73 = .ok (.putfield 37, 3) := by decide +kernel
theorem dX2_init_76 : decode cX2_init 76 = .ok (.aload_n 0, 1) := by decide +kernel
theorem dX2_init_77 : decode cX2_init 77 = .ok (.bipush 6, 2) := by decide +kernel
theorem dX2_init_79 : decode cX2_init 79 = .ok (.newarray .int, 2) := by decide +kernel
theorem dX2_init_81 : decode cX2_init 81 = .ok (.putfield 40, 3) := by decide +kernel
theorem dX2_init_84 : decode cX2_init 84 = .ok (.return_, 1) := by decide +kernel
theorem dX2_rootOf_0 : decode cX2_rootOf 0 = .ok (.iconst 0, 1) := by decide +kernel
theorem dX2_rootOf_1 : decode cX2_rootOf 1 = .ok (.istore_n 1, 1) := by decide +kernel
theorem dX2_rootOf_2 : decode cX2_rootOf 2 = .ok (.sipush 4096, 3) := by decide +kernel
theorem dX2_rootOf_5 : decode cX2_rootOf 5 = .ok (.istore_n 2, 1) := by decide +kernel
theorem dX2_rootOf_6 : decode cX2_rootOf 6 = .ok (.iload_n 2, 1) := by decide +kernel
theorem dX2_rootOf_7 : decode cX2_rootOf 7 = .ok (.ifCond .le 27, 3) := by decide +kernel
theorem dX2_rootOf_10 : decode cX2_rootOf 10 = .ok (.iload_n 1, 1) := by decide +kernel
theorem dX2_rootOf_11 : decode cX2_rootOf 11 = .ok (.iload_n 2, 1) := by decide +kernel
theorem dX2_rootOf_12 : decode cX2_rootOf 12 = .ok (.iadd, 1) := by decide +kernel
theorem dX2_rootOf_13 : decode cX2_rootOf 13 = .ok (.istore_n 3, 1) := by decide +kernel
theorem dX2_rootOf_14 : decode cX2_rootOf 14 = .ok (.iload_n 3, 1) := by decide +kernel
theorem dX2_rootOf_15 : decode cX2_rootOf 15 = .ok (.iload_n 3, 1) := by decide +kernel
theorem dX2_rootOf_16 : decode cX2_rootOf 16 = .ok (.imul, 1) := by decide +kernel
theorem dX2_rootOf_17 : decode cX2_rootOf 17 = .ok (.sipush 10000, 3) := by decide +kernel
theorem dX2_rootOf_20 : decode cX2_rootOf 20 = .ok (.iload_n 0, 1) := by decide +kernel
theorem dX2_rootOf_21 : decode cX2_rootOf 21 = .ok (.imul, 1) := by decide +kernel
theorem dX2_rootOf_22 : decode cX2_rootOf 22 = .ok (.if_icmp .gt 5, 3) := by decide +kernel
theorem dX2_rootOf_25 : decode cX2_rootOf 25 = .ok (.iload_n 3, 1) := by decide +kernel
theorem dX2_rootOf_26 : decode cX2_rootOf 26 = .ok (.istore_n 1, 1) := by decide +kernel
theorem dX2_rootOf_27 : decode cX2_rootOf 27 = .ok (.iload_n 2, 1) := by decide +kernel
theorem dX2_rootOf_28 : decode cX2_rootOf 28 = .ok (.iconst 1, 1) := by decide +kernel
theorem dX2_rootOf_29 : decode cX2_rootOf 29 = .ok (.ishr, 1) := by decide +kernel
theorem dX2_rootOf_30 : decode cX2_rootOf 30 = .ok (.istore_n 2, 1) := by decide +kernel
theorem dX2_rootOf_31 : decode cX2_rootOf 31 = .ok (.goto (-25), 3) := by decide +kernel
theorem dX2_rootOf_34 : decode cX2_rootOf 34 = .ok (.iload_n 1, 1) := by decide +kernel
theorem dX2_rootOf_35 : decode cX2_rootOf 35 = .ok (.ireturn, 1) := by decide +kernel
theorem dX2_lay_0 : decode cX2_lay 0 = .ok (.aload_n 0, 1) := by decide +kernel
theorem dX2_lay_1 : decode cX2_lay 1 = .ok (.aload_n 1, 1) := by decide +kernel
theorem dX2_lay_2 : decode cX2_lay 2 = .ok (.getfield 43, 3) := by decide +kernel
theorem dX2_lay_5 : decode cX2_lay 5 = .ok (.putfield 49, 3) := by decide +kernel
theorem dX2_lay_8 : decode cX2_lay 8 = .ok (.aload_n 0, 1) := by decide +kernel
theorem dX2_lay_9 : decode cX2_lay 9 = .ok (.aload_n 1, 1) := by decide +kernel
theorem dX2_lay_10 : decode cX2_lay 10 = .ok (.getfield 50, 3) := by decide +kernel
theorem dX2_lay_13 : decode cX2_lay 13 = .ok (.putfield 53, 3) := by decide +kernel
theorem dX2_lay_16 : decode cX2_lay 16 = .ok (.aload_n 0, 1) := by decide +kernel
theorem dX2_lay_17 : decode cX2_lay 17 = .ok (.aload_n 1, 1) := by decide +kernel
theorem dX2_lay_18 : decode cX2_lay 18 = .ok (.getfield 54, 3) := by decide +kernel
theorem dX2_lay_21 : decode cX2_lay 21 = .ok (.putfield 57, 3) := by decide +kernel
theorem dX2_lay_24 : decode cX2_lay 24 = .ok (.iconst 0, 1) := by decide +kernel
theorem dX2_lay_25 : decode cX2_lay 25 = .ok (.istore_n 2, 1) := by decide +kernel
theorem dX2_lay_26 : decode cX2_lay 26 = .ok (.iload_n 2, 1) := by decide +kernel
theorem dX2_lay_27 : decode cX2_lay 27 = .ok (.bipush 60, 2) := by decide +kernel
theorem dX2_lay_29 : decode cX2_lay 29 = .ok (.if_icmp .ge 23, 3) := by decide +kernel
theorem dX2_lay_32 : decode cX2_lay 32 = .ok (.aload_n 0, 1) := by decide +kernel
theorem dX2_lay_33 : decode cX2_lay 33 = .ok (.getfield 9, 3) := by decide +kernel
theorem dX2_lay_36 : decode cX2_lay 36 = .ok (.iload_n 2, 1) := by decide +kernel
theorem dX2_lay_37 : decode cX2_lay 37 = .ok (.iconst 0, 1) := by decide +kernel
theorem dX2_lay_38 : decode cX2_lay 38 = .ok (.iastore, 1) := by decide +kernel
theorem dX2_lay_39 : decode cX2_lay 39 = .ok (.aload_n 0, 1) := by decide +kernel
theorem dX2_lay_40 : decode cX2_lay 40 = .ok (.getfield 15, 3) := by decide +kernel
theorem dX2_lay_43 : decode cX2_lay 43 = .ok (.iload_n 2, 1) := by decide +kernel
theorem dX2_lay_44 : decode cX2_lay 44 = .ok (.iconst 0, 1) := by decide +kernel
theorem dX2_lay_45 : decode cX2_lay 45 = .ok (.iastore, 1) := by decide +kernel
theorem dX2_lay_46 : decode cX2_lay 46 = .ok (.iinc 2 1, 3) := by decide +kernel
theorem dX2_lay_49 : decode cX2_lay 49 = .ok (.goto (-23), 3) := by decide +kernel
theorem dX2_lay_52 : decode cX2_lay 52 = .ok (.iconst 0, 1) := by decide +kernel
theorem dX2_lay_53 : decode cX2_lay 53 = .ok (.istore_n 2, 1) := by decide +kernel
theorem dX2_lay_54 : decode cX2_lay 54 = .ok (.iload_n 2, 1) := by decide +kernel
theorem dX2_lay_55 : decode cX2_lay 55 = .ok (.aload_n 1, 1) := by decide +kernel
theorem dX2_lay_56 : decode cX2_lay 56 = .ok (.getfield 58, 3) := by decide +kernel
theorem dX2_lay_59 : decode cX2_lay 59 = .ok (.if_icmp .ge 44, 3) := by decide +kernel
theorem dX2_lay_62 : decode cX2_lay 62 = .ok (.aload_n 0, 1) := by decide +kernel
theorem dX2_lay_63 : decode cX2_lay 63 = .ok (.getfield 9, 3) := by decide +kernel
theorem dX2_lay_66 : decode cX2_lay 66 = .ok (.aload_n 1, 1) := by decide +kernel
theorem dX2_lay_67 : decode cX2_lay 67 = .ok (.getfield 61, 3) := by decide +kernel
theorem dX2_lay_70 : decode cX2_lay 70 = .ok (.aload_n 1, 1) := by decide +kernel
theorem dX2_lay_71 : decode cX2_lay 71 = .ok (.getfield 64, 3) := by decide +kernel
theorem dX2_lay_74 : decode cX2_lay 74 = .ok (.iload_n 2, 1) := by decide +kernel
theorem dX2_lay_75 : decode cX2_lay 75 = .ok (.iaload, 1) := by decide +kernel
theorem dX2_lay_76 : decode cX2_lay 76 = .ok (.iaload, 1) := by decide +kernel
theorem dX2_lay_77 : decode cX2_lay 77 = .ok (.bipush 6, 2) := by decide +kernel
theorem dX2_lay_79 : decode cX2_lay 79 = .ok (.imul, 1) := by decide +kernel
theorem dX2_lay_80 : decode cX2_lay 80 = .ok (.aload_n 1, 1) := by decide +kernel
theorem dX2_lay_81 : decode cX2_lay 81 = .ok (.getfield 67, 3) := by decide +kernel
theorem dX2_lay_84 : decode cX2_lay 84 = .ok (.iload_n 2, 1) := by decide +kernel
theorem dX2_lay_85 : decode cX2_lay 85 = .ok (.iaload, 1) := by decide +kernel
theorem dX2_lay_86 : decode cX2_lay 86 = .ok (.iadd, 1) := by decide +kernel
theorem dX2_lay_87 : decode cX2_lay 87 = .ok (.dup2, 1) := by decide +kernel
theorem dX2_lay_88 : decode cX2_lay 88 = .ok (.iaload, 1) := by decide +kernel
theorem dX2_lay_89 : decode cX2_lay 89 = .ok (.aload_n 1, 1) := by decide +kernel
theorem dX2_lay_90 : decode cX2_lay 90 = .ok (.getfield 70, 3) := by decide +kernel
theorem dX2_lay_93 : decode cX2_lay 93 = .ok (.iload_n 2, 1) := by decide +kernel
theorem dX2_lay_94 : decode cX2_lay 94 = .ok (.iaload, 1) := by decide +kernel
theorem dX2_lay_95 : decode cX2_lay 95 = .ok (.iadd, 1) := by decide +kernel
theorem dX2_lay_96 : decode cX2_lay 96 = .ok (.iastore, 1) := by decide +kernel
theorem dX2_lay_97 : decode cX2_lay 97 = .ok (.iinc 2 1, 3) := by decide +kernel
theorem dX2_lay_100 : decode cX2_lay 100 = .ok (.goto (-46), 3) := by decide +kernel
theorem dX2_lay_103 : decode cX2_lay 103 = .ok (.iconst 0, 1) := by decide +kernel
theorem dX2_lay_104 : decode cX2_lay 104 = .ok (.istore_n 2, 1) := by decide +kernel
theorem dX2_lay_105 : decode cX2_lay 105 = .ok (.iload_n 2, 1) := by decide +kernel
theorem dX2_lay_106 : decode cX2_lay 106 = .ok (.bipush 60, 2) := by decide +kernel
theorem dX2_lay_108 : decode cX2_lay 108 = .ok (.if_icmp .ge 33, 3) := by decide +kernel
theorem dX2_lay_111 : decode cX2_lay 111 = .ok (.aload_n 0, 1) := by decide +kernel
theorem dX2_lay_112 : decode cX2_lay 112 = .ok (.getfield 9, 3) := by decide +kernel
theorem dX2_lay_115 : decode cX2_lay 115 = .ok (.iload_n 2, 1) := by decide +kernel
theorem dX2_lay_116 : decode cX2_lay 116 = .ok (.iaload, 1) := by decide +kernel
theorem dX2_lay_117 : decode cX2_lay 117 = .ok (.ifCond .le 18, 3) := by decide +kernel
theorem dX2_lay_120 : decode cX2_lay 120 = .ok (.aload_n 0, 1) := by decide +kernel
theorem dX2_lay_121 : decode cX2_lay 121 = .ok (.getfield 15, 3) := by decide +kernel
theorem dX2_lay_124 : decode cX2_lay 124 = .ok (.iload_n 2, 1) := by decide +kernel
theorem dX2_lay_125 : decode cX2_lay 125 = .ok (.aload_n 0, 1) := by decide +kernel
theorem dX2_lay_126 : decode cX2_lay 126 = .ok (.getfield 9, 3) := by decide +kernel
theorem dX2_lay_129 : decode cX2_lay 129 = .ok (.iload_n 2, 1) := by decide +kernel
theorem dX2_lay_130 : decode cX2_lay 130 = .ok (.iaload, 1) := by decide +kernel
theorem dX2_lay_131 : decode cX2_lay 131 = .ok (.invokestatic 71, 3) := by decide +kernel
theorem dX2_lay_134 : decode cX2_lay 134 = .ok (.iastore, 1) := by decide +kernel
theorem dX2_lay_135 : decode cX2_lay 135 = .ok (.iinc 2 1, 3) := by decide +kernel
theorem dX2_lay_138 : decode cX2_lay 138 = .ok (.goto (-33), 3) := by decide +kernel
theorem dX2_lay_141 : decode cX2_lay 141 = .ok (.return_, 1) := by decide +kernel
theorem dX2_load_0 : decode cX2_load 0 = .ok (.aload_n 0, 1) := by decide +kernel
theorem dX2_load_1 : decode cX2_load 1 = .ok (.aload_n 1, 1) := by decide +kernel
theorem dX2_load_2 : decode cX2_load 2 = .ok (.invokevirtual 75, 3) := by decide +kernel
theorem dX2_load_5 : decode cX2_load 5 = .ok (.iconst 0, 1) := by decide +kernel
theorem dX2_load_6 : decode cX2_load 6 = .ok (.istore_n 2, 1) := by decide +kernel
theorem dX2_load_7 : decode cX2_load 7 = .ok (.iload_n 2, 1) := by decide +kernel
theorem dX2_load_8 : decode cX2_load 8 = .ok (.aload_n 0, 1) := by decide +kernel
theorem dX2_load_9 : decode cX2_load 9 = .ok (.getfield 49, 3) := by decide +kernel
theorem dX2_load_12 : decode cX2_load 12 = .ok (.if_icmp .ge 49, 3) := by decide +kernel
theorem dX2_load_15 : decode cX2_load 15 = .ok (.aload_n 0, 1) := by decide +kernel
theorem dX2_load_16 : decode cX2_load 16 = .ok (.getfield 22, 3) := by decide +kernel
theorem dX2_load_19 : decode cX2_load 19 = .ok (.iload_n 2, 1) := by decide +kernel
theorem dX2_load_20 : decode cX2_load 20 = .ok (.aload_n 1, 1) := by decide +kernel
theorem dX2_load_21 : decode cX2_load 21 = .ok (.getfield 79, 3) := by decide +kernel
theorem dX2_load_24 : decode cX2_load 24 = .ok (.iload_n 2, 1) := by decide +kernel
theorem dX2_load_25 : decode cX2_load 25 = .ok (.iaload, 1) := by decide +kernel
theorem dX2_load_26 : decode cX2_load 26 = .ok (.iastore, 1) := by decide +kernel
theorem dX2_load_27 : decode cX2_load 27 = .ok (.aload_n 0, 1) := by decide +kernel
theorem dX2_load_28 : decode cX2_load 28 = .ok (.getfield 25, 3) := by decide +kernel
theorem dX2_load_31 : decode cX2_load 31 = .ok (.iload_n 2, 1) := by decide +kernel
theorem dX2_load_32 : decode cX2_load 32 = .ok (.iconst 0, 1) := by decide +kernel
theorem dX2_load_33 : decode cX2_load 33 = .ok (.iastore, 1) := by decide +kernel
theorem dX2_load_34 : decode cX2_load 34 = .ok (.aload_n 0, 1) := by decide +kernel
theorem dX2_load_35 : decode cX2_load 35 = .ok (.getfield 28, 3) := by decide +kernel
theorem dX2_load_38 : decode cX2_load 38 = .ok (.iload_n 2, 1) := by decide +kernel
theorem dX2_load_39 : decode cX2_load 39 = .ok (.iconst 0, 1) := by decide +kernel
theorem dX2_load_40 : decode cX2_load 40 = .ok (.iastore, 1) := by decide +kernel
theorem dX2_load_41 : decode cX2_load 41 = .ok (.aload_n 0, 1) := by decide +kernel
theorem dX2_load_42 : decode cX2_load 42 = .ok (.getfield 31, 3) := by decide +kernel
theorem dX2_load_45 : decode cX2_load 45 = .ok (.iload_n 2, 1) := by decide +kernel
theorem dX2_load_46 : decode cX2_load 46 = .ok (.iconst 0, 1) := by decide +kernel
theorem dX2_load_47 : decode cX2_load 47 = .ok (.iastore, 1) := by decide +kernel
theorem dX2_load_48 : decode cX2_load 48 = .ok (.aload_n 0, 1) := by decide +kernel
theorem dX2_load_49 : decode cX2_load 49 = .ok (.getfield 34, 3) := by decide +kernel
theorem dX2_load_52 : decode cX2_load 52 = .ok (.iload_n 2, 1) := by decide +kernel
theorem dX2_load_53 : decode cX2_load 53 = .ok (.iconst 0, 1) := by decide +kernel
theorem dX2_load_54 : decode cX2_load 54 = .ok (.iastore, 1) := by decide +kernel
theorem dX2_load_55 : decode cX2_load 55 = .ok (.iinc 2 1, 3) := by decide +kernel
theorem dX2_load_58 : decode cX2_load 58 = .ok (.goto (-51), 3) := by decide +kernel
theorem dX2_load_61 : decode cX2_load 61 = .ok (.iconst 0, 1) := by decide +kernel
theorem dX2_load_62 : decode cX2_load 62 = .ok (.istore_n 2, 1) := by decide +kernel
theorem dX2_load_63 : decode cX2_load 63 = .ok (.iload_n 2, 1) := by decide +kernel
theorem dX2_load_64 : decode cX2_load 64 = .ok (.bipush 10, 2) := by decide +kernel
theorem dX2_load_66 : decode cX2_load 66 = .ok (.if_icmp .ge 16, 3) := by decide +kernel
theorem dX2_load_69 : decode cX2_load 69 = .ok (.aload_n 0, 1) := by decide +kernel
theorem dX2_load_70 : decode cX2_load 70 = .ok (.getfield 18, 3) := by decide +kernel
theorem dX2_load_73 : decode cX2_load 73 = .ok (.iload_n 2, 1) := by decide +kernel
theorem dX2_load_74 : decode cX2_load 74 = .ok (.iconst 0, 1) := by decide +kernel
theorem dX2_load_75 : decode cX2_load 75 = .ok (.bastore, 1) := by decide +kernel
theorem dX2_load_76 : decode cX2_load 76 = .ok (.iinc 2 1, 3) := by decide +kernel
theorem dX2_load_79 : decode cX2_load 79 = .ok (.goto (-16), 3) := by decide +kernel
theorem dX2_load_82 : decode cX2_load 82 = .ok (.iconst 0, 1) := by decide +kernel
theorem dX2_load_83 : decode cX2_load 83 = .ok (.istore_n 2, 1) := by decide +kernel
theorem dX2_load_84 : decode cX2_load 84 = .ok (.iload_n 2, 1) := by decide +kernel
theorem dX2_load_85 : decode cX2_load 85 = .ok (.bipush 10, 2) := by decide +kernel
theorem dX2_load_87 : decode cX2_load 87 = .ok (.if_icmp .ge 14, 3) := by decide +kernel
theorem dX2_load_90 : decode cX2_load 90 = .ok (.aload_n 0, 1) := by decide +kernel
theorem dX2_load_91 : decode cX2_load 91 = .ok (.iload_n 2, 1) := by decide +kernel
theorem dX2_load_92 : decode cX2_load 92 = .ok (.invokevirtual 80, 3) := by decide +kernel
theorem dX2_load_95 : decode cX2_load 95 = .ok (.iinc 2 1, 3) := by decide +kernel
theorem dX2_load_98 : decode cX2_load 98 = .ok (.goto (-14), 3) := by decide +kernel
theorem dX2_load_101 : decode cX2_load 101 = .ok (.return_, 1) := by decide +kernel
theorem dX2_join_0 : decode cX2_join 0 = .ok (.aload_n 0, 1) := by decide +kernel
theorem dX2_join_1 : decode cX2_join 1 = .ok (.iload_n 1, 1) := by decide +kernel
theorem dX2_join_2 : decode cX2_join 2 = .ok (.iconst 1, 1) := by decide +kernel
theorem dX2_join_3 : decode cX2_join 3 = .ok (.invokevirtual 84, 3) := by decide +kernel
theorem dX2_join_6 : decode cX2_join 6 = .ok (.return_, 1) := by decide +kernel
theorem dX2_leave_0 : decode cX2_leave 0 = .ok (.aload_n 0, 1) := by decide +kernel
theorem dX2_leave_1 : decode cX2_leave 1 = .ok (.iload_n 1, 1) := by decide +kernel
theorem dX2_leave_2 : decode cX2_leave 2 = .ok (.iconst (-1), 1) := by decide +kernel
theorem dX2_leave_3 : decode cX2_leave 3 = .ok (.invokevirtual 84, 3) := by decide +kernel
theorem dX2_leave_6 : decode cX2_leave 6 = .ok (.return_, 1) := by decide +kernel
theorem dX2_add_0 : decode cX2_add 0 = .ok (.iload_n 3, 1) := by decide +kernel
theorem dX2_add_1 : decode cX2_add 1 = .ok (.ifCond .ne 4, 3) := by decide +kernel
theorem dX2_add_4 : decode cX2_add 4 = .ok (.return_, 1) := by decide +kernel
theorem dX2_add_5 : decode cX2_add 5 = .ok (.aload_n 0, 1) := by decide +kernel
theorem dX2_add_6 : decode cX2_add 6 = .ok (.iload_n 1, 1) := by decide +kernel
theorem dX2_add_7 : decode cX2_add 7 = .ok (.iconst (-1), 1) := by decide +kernel
theorem dX2_add_8 : decode cX2_add 8 = .ok (.invokevirtual 84, 3) := by decide +kernel
theorem dX2_add_11 : decode cX2_add 11 = .ok (.iload_n 1, 1) := by decide +kernel
theorem dX2_add_12 : decode cX2_add 12 = .ok (.bipush 6, 2) := by decide +kernel
theorem dX2_add_14 : decode cX2_add 14 = .ok (.imul, 1) := by decide +kernel
theorem dX2_add_15 : decode cX2_add 15 = .ok (.iload_n 2, 1) := by decide +kernel
theorem dX2_add_16 : decode cX2_add 16 = .ok (.iadd, 1) := by decide +kernel
theorem dX2_add_17 : decode cX2_add 17 = .ok (.istore 4, 2) := by decide +kernel
theorem dX2_add_19 : decode cX2_add 19 = .ok (.aload_n 0, 1) := by decide +kernel
theorem dX2_add_20 : decode cX2_add 20 = .ok (.getfield 9, 3) := by decide +kernel
theorem dX2_add_23 : decode cX2_add 23 = .ok (.iload 4, 2) := by decide +kernel
theorem dX2_add_25 : decode cX2_add 25 = .ok (.dup2, 1) := by decide +kernel
theorem dX2_add_26 : decode cX2_add 26 = .ok (.iaload, 1) := by decide +kernel
theorem dX2_add_27 : decode cX2_add 27 = .ok (.iload_n 3, 1) := by decide +kernel
theorem dX2_add_28 : decode cX2_add 28 = .ok (.iadd, 1) := by decide +kernel
theorem dX2_add_29 : decode cX2_add 29 = .ok (.iastore, 1) := by decide +kernel
theorem dX2_add_30 : decode cX2_add 30 = .ok (.aload_n 0, 1) := by decide +kernel
theorem dX2_add_31 : decode cX2_add 31 = .ok (.getfield 15, 3) := by decide +kernel
theorem dX2_add_34 : decode cX2_add 34 = .ok (.iload 4, 2) := by decide +kernel
theorem dX2_add_36 : decode cX2_add 36 = .ok (.aload_n 0, 1) := by decide +kernel
theorem dX2_add_37 : decode cX2_add 37 = .ok (.getfield 9, 3) := by decide +kernel
theorem dX2_add_40 : decode cX2_add 40 = .ok (.iload 4, 2) := by decide +kernel
theorem dX2_add_42 : decode cX2_add 42 = .ok (.iaload, 1) := by decide +kernel
theorem dX2_add_43 : decode cX2_add 43 = .ok (.invokestatic 71, 3) := by decide +kernel
theorem dX2_add_46 : decode cX2_add 46 = .ok (.iastore, 1) := by decide +kernel
theorem dX2_add_47 : decode cX2_add 47 = .ok (.aload_n 0, 1) := by decide +kernel
theorem dX2_add_48 : decode cX2_add 48 = .ok (.iload_n 1, 1) := by decide +kernel
theorem dX2_add_49 : decode cX2_add 49 = .ok (.iconst 1, 1) := by decide +kernel
theorem dX2_add_50 : decode cX2_add 50 = .ok (.invokevirtual 84, 3) := by decide +kernel
theorem dX2_add_53 : decode cX2_add 53 = .ok (.return_, 1) := by decide +kernel
theorem dX2_sumFrom_0 : decode cX2_sumFrom 0 = .ok (.aload_n 0, 1) := by decide +kernel
theorem dX2_sumFrom_1 : decode cX2_sumFrom 1 = .ok (.getfield 9, 3) := by decide +kernel
theorem dX2_sumFrom_4 : decode cX2_sumFrom 4 = .ok (.iload_n 1, 1) := by decide +kernel
theorem dX2_sumFrom_5 : decode cX2_sumFrom 5 = .ok (.bipush 6, 2) := by decide +kernel
theorem dX2_sumFrom_7 : decode cX2_sumFrom 7 = .ok (.imul, 1) := by decide +kernel
theorem dX2_sumFrom_8 : decode cX2_sumFrom 8 = .ok (.iload_n 2, 1) := by decide +kernel
theorem dX2_sumFrom_9 : decode cX2_sumFrom 9 = .ok (.iadd, 1) := by decide +kernel
theorem dX2_sumFrom_10 : decode cX2_sumFrom 10 = .ok (.iaload, 1) := by decide +kernel
theorem dX2_sumFrom_11 : decode cX2_sumFrom 11 = .ok (.ireturn, 1) := by decide +kernel
theorem dX2_gives_0 : decode cX2_gives 0 = .ok (.iconst 0, 1) := by decide +kernel
theorem dX2_gives_1 : decode cX2_gives 1 = .ok (.istore_n 2, 1) := by decide +kernel
theorem dX2_gives_2 : decode cX2_gives 2 = .ok (.iload_n 2, 1) := by decide +kernel
theorem dX2_gives_3 : decode cX2_gives 3 = .ok (.aload_n 0, 1) := by decide +kernel
theorem dX2_gives_4 : decode cX2_gives 4 = .ok (.getfield 49, 3) := by decide +kernel
theorem dX2_gives_7 : decode cX2_gives 7 = .ok (.if_icmp .ge 20, 3) := by decide +kernel
theorem dX2_gives_10 : decode cX2_gives 10 = .ok (.aload_n 0, 1) := by decide +kernel
theorem dX2_gives_11 : decode cX2_gives 11 = .ok (.iload_n 1, 1) := by decide +kernel
theorem dX2_gives_12 : decode cX2_gives 12 = .ok (.iload_n 2, 1) := by decide +kernel
theorem dX2_gives_13 : decode cX2_gives 13 = .ok (.invokevirtual 88, 3) := by decide +kernel
theorem dX2_gives_16 : decode cX2_gives 16 = .ok (.ifCond .le 5, 3) := by decide +kernel
theorem dX2_gives_19 : decode cX2_gives 19 = .ok (.iconst 1, 1) := by decide +kernel
theorem dX2_gives_20 : decode cX2_gives 20 = .ok (.ireturn, 1) := by decide +kernel
theorem dX2_gives_21 : decode cX2_gives 21 = .ok (.iinc 2 1, 3) := by decide +kernel
theorem dX2_gives_24 : decode cX2_gives 24 = .ok (.goto (-22), 3) := by decide +kernel
theorem dX2_gives_27 : decode cX2_gives 27 = .ok (.iconst 0, 1) := by decide +kernel
theorem dX2_gives_28 : decode cX2_gives 28 = .ok (.ireturn, 1) := by decide +kernel
theorem dX2_giversTo_0 : decode cX2_giversTo 0 = .ok (.iconst 0, 1) := by decide +kernel
theorem dX2_giversTo_1 : decode cX2_giversTo 1 = .ok (.istore_n 2, 1) := by decide +kernel
theorem dX2_giversTo_2 : decode cX2_giversTo 2 = .ok (.iconst 0, 1) := by decide +kernel
theorem dX2_giversTo_3 : decode cX2_giversTo 3 = .ok (.istore_n 3, 1) := by decide +kernel
theorem dX2_giversTo_4 : decode cX2_giversTo 4 = .ok (.iload_n 3, 1) := by decide +kernel
theorem dX2_giversTo_5 : decode cX2_giversTo 5 = .ok (.bipush 10, 2) := by decide +kernel
theorem dX2_giversTo_7 : decode cX2_giversTo 7 = .ok (.if_icmp .ge 24, 3) := by decide +kernel
theorem dX2_giversTo_10 : decode cX2_giversTo 10 = .ok (.aload_n 0, 1) := by decide +kernel
theorem dX2_giversTo_11 : decode cX2_giversTo 11 = .ok (.iload_n 3, 1) := by decide +kernel
theorem dX2_giversTo_12 : decode cX2_giversTo 12 = .ok (.iload_n 1, 1) := by decide +kernel
theorem dX2_giversTo_13 : decode cX2_giversTo 13 = .ok (.invokevirtual 88, 3) := by decide +kernel
theorem dX2_giversTo_16 : decode cX2_giversTo 16 = .ok (.ifCond .le 9, 3) := by decide +kernel
theorem dX2_giversTo_19 : decode cX2_giversTo 19 = .ok (.iload_n 2, 1) := by decide +kernel
theorem dX2_giversTo_20 : decode cX2_giversTo 20 = .ok (.iconst 1, 1) := by decide +kernel
theorem dX2_giversTo_21 : decode cX2_giversTo 21 = .ok (.iload_n 3, 1) := by decide +kernel
theorem dX2_giversTo_22 : decode cX2_giversTo 22 = .ok (.ishl, 1) := by decide +kernel
theorem dX2_giversTo_23 : decode cX2_giversTo 23 = .ok (.ior, 1) := by decide +kernel
theorem dX2_giversTo_24 : decode cX2_giversTo 24 = .ok (.istore_n 2, 1) := by decide +kernel
theorem dX2_giversTo_25 : decode cX2_giversTo 25 = .ok (.iinc 3 1, 3) := by decide +kernel
theorem dX2_giversTo_28 : decode cX2_giversTo 28 = .ok (.goto (-24), 3) := by decide +kernel
theorem dX2_giversTo_31 : decode cX2_giversTo 31 = .ok (.iload_n 2, 1) := by decide +kernel
theorem dX2_giversTo_32 : decode cX2_giversTo 32 = .ok (.ireturn, 1) := by decide +kernel
theorem dX2_overlapOf_0 : decode cX2_overlapOf 0 = .ok (.iconst 0, 1) := by decide +kernel
theorem dX2_overlapOf_1 : decode cX2_overlapOf 1 = .ok (.istore_n 3, 1) := by decide +kernel
theorem dX2_overlapOf_2 : decode cX2_overlapOf 2 = .ok (.iconst 0, 1) := by decide +kernel
theorem dX2_overlapOf_3 : decode cX2_overlapOf 3 = .ok (.istore 4, 2) := by decide +kernel
theorem dX2_overlapOf_5 : decode cX2_overlapOf 5 = .ok (.iload 4, 2) := by decide +kernel
theorem dX2_overlapOf_7 : decode cX2_overlapOf 7 = .ok (.aload_n 0, 1) := by decide +kernel
theorem dX2_overlapOf_8 : decode cX2_overlapOf 8 = .ok (.getfield 49, 3) := by decide +kernel
theorem dX2_overlapOf_11 : decode cX2_overlapOf 11 = .ok (.if_icmp .ge 37, 3) := by decide +kernel
theorem dX2_overlapOf_14 : decode cX2_overlapOf 14 = .ok (.iload_n 3, 1) := by decide +kernel
theorem dX2_overlapOf_15 : decode cX2_overlapOf 15 = .ok (.aload_n 0, 1) := by decide +kernel
theorem dX2_overlapOf_16 : decode cX2_overlapOf 16 = .ok (.getfield 15, 3) := by decide +kernel
theorem dX2_overlapOf_19 : decode cX2_overlapOf 19 = .ok (.iload_n 1, 1) := by decide +kernel
theorem dX2_overlapOf_20 : decode cX2_overlapOf 20 = .ok (.bipush 6, 2) := by decide +kernel
theorem dX2_overlapOf_22 : decode cX2_overlapOf 22 = .ok (.imul, 1) := by decide +kernel
theorem dX2_overlapOf_23 : decode cX2_overlapOf 23 = .ok (.iload 4, 2) := by decide +kernel
theorem dX2_overlapOf_25 : decode cX2_overlapOf 25 = .ok (.iadd, 1) := by decide +kernel
theorem dX2_overlapOf_26 : decode cX2_overlapOf 26 = .ok (.iaload, 1) := by decide +kernel
theorem dX2_overlapOf_27 : decode cX2_overlapOf 27 = .ok (.aload_n 0, 1) := by decide +kernel
theorem dX2_overlapOf_28 : decode cX2_overlapOf 28 = .ok (.getfield 15, 3) := by decide +kernel
theorem dX2_overlapOf_31 : decode cX2_overlapOf 31 = .ok (.iload_n 2, 1) := by decide +kernel
theorem dX2_overlapOf_32 : decode cX2_overlapOf 32 = .ok (.bipush 6, 2) := by decide +kernel
theorem dX2_overlapOf_34 : decode cX2_overlapOf 34 = .ok (.imul, 1) := by decide +kernel
theorem dX2_overlapOf_35 : decode cX2_overlapOf 35 = .ok (.iload 4, 2) := by decide +kernel
theorem dX2_overlapOf_37 : decode cX2_overlapOf 37 = .ok (.iadd, 1) := by decide +kernel
theorem dX2_overlapOf_38 : decode cX2_overlapOf 38 = .ok (.iaload, 1) := by decide +kernel
theorem dX2_overlapOf_39 : decode cX2_overlapOf 39 = .ok (.imul, 1) := by decide +kernel
theorem dX2_overlapOf_40 : decode cX2_overlapOf 40 = .ok (.iadd, 1) := by decide +kernel
theorem dX2_overlapOf_41 : decode cX2_overlapOf 41 = .ok (.istore_n 3, 1) := by decide +kernel
theorem dX2_overlapOf_42 : decode cX2_overlapOf 42 = .ok (.iinc 4 1, 3) := by decide +kernel
theorem dX2_overlapOf_45 : decode cX2_overlapOf 45 = .ok (.goto (-40), 3) := by decide +kernel
theorem dX2_overlapOf_48 : decode cX2_overlapOf 48 = .ok (.iload_n 3, 1) := by decide +kernel
theorem dX2_overlapOf_49 : decode cX2_overlapOf 49 = .ok (.sipush 10000, 3) := by decide +kernel
theorem dX2_overlapOf_52 : decode cX2_overlapOf 52 = .ok (.idiv, 1) := by decide +kernel
theorem dX2_overlapOf_53 : decode cX2_overlapOf 53 = .ok (.ireturn, 1) := by decide +kernel
theorem dX2_termOf_0 : decode cX2_termOf 0 = .ok (.aload_n 0, 1) := by decide +kernel
theorem dX2_termOf_1 : decode cX2_termOf 1 = .ok (.getfield 15, 3) := by decide +kernel
theorem dX2_termOf_4 : decode cX2_termOf 4 = .ok (.iload_n 1, 1) := by decide +kernel
theorem dX2_termOf_5 : decode cX2_termOf 5 = .ok (.bipush 6, 2) := by decide +kernel
theorem dX2_termOf_7 : decode cX2_termOf 7 = .ok (.imul, 1) := by decide +kernel
theorem dX2_termOf_8 : decode cX2_termOf 8 = .ok (.iload_n 3, 1) := by decide +kernel
theorem dX2_termOf_9 : decode cX2_termOf 9 = .ok (.iadd, 1) := by decide +kernel
theorem dX2_termOf_10 : decode cX2_termOf 10 = .ok (.iaload, 1) := by decide +kernel
theorem dX2_termOf_11 : decode cX2_termOf 11 = .ok (.aload_n 0, 1) := by decide +kernel
theorem dX2_termOf_12 : decode cX2_termOf 12 = .ok (.getfield 15, 3) := by decide +kernel
theorem dX2_termOf_15 : decode cX2_termOf 15 = .ok (.iload_n 2, 1) := by decide +kernel
theorem dX2_termOf_16 : decode cX2_termOf 16 = .ok (.bipush 6, 2) := by decide +kernel
theorem dX2_termOf_18 : decode cX2_termOf 18 = .ok (.imul, 1) := by decide +kernel
theorem dX2_termOf_19 : decode cX2_termOf 19 = .ok (.iload_n 3, 1) := by decide +kernel
theorem dX2_termOf_20 : decode cX2_termOf 20 = .ok (.iadd, 1) := by decide +kernel
theorem dX2_termOf_21 : decode cX2_termOf 21 = .ok (.iaload, 1) := by decide +kernel
theorem dX2_termOf_22 : decode cX2_termOf 22 = .ok (.imul, 1) := by decide +kernel
theorem dX2_termOf_23 : decode cX2_termOf 23 = .ok (.istore 5, 2) := by decide +kernel
theorem dX2_termOf_25 : decode cX2_termOf 25 = .ok (.ldc2_w 92, 3) := by decide +kernel
theorem dX2_termOf_28 : decode cX2_termOf 28 = .ok (.aload_n 0, 1) := by decide +kernel
theorem dX2_termOf_29 : decode cX2_termOf 29 = .ok (.getfield 57, 3) := by decide +kernel
theorem dX2_termOf_32 : decode cX2_termOf 32 = .ok (.iload 4, 2) := by decide +kernel
theorem dX2_termOf_34 : decode cX2_termOf 34 = .ok (.iadd, 1) := by decide +kernel
theorem dX2_termOf_35 : decode cX2_termOf 35 = .ok (.i2l, 1) := by decide +kernel
theorem dX2_termOf_36 : decode cX2_termOf 36 = .ok (.lmul, 1) := by decide +kernel
theorem dX2_termOf_37 : decode cX2_termOf 37 = .ok (.lstore 6, 2) := by decide +kernel
theorem dX2_termOf_39 : decode cX2_termOf 39 = .ok (.iload 5, 2) := by decide +kernel
theorem dX2_termOf_41 : decode cX2_termOf 41 = .ok (.ifCond .eq 10, 3) := by decide +kernel
theorem dX2_termOf_44 : decode cX2_termOf 44 = .ok (.lload 6, 2) := by decide +kernel
theorem dX2_termOf_46 : decode cX2_termOf 46 = .ok (.lconst 0, 1) := by decide +kernel
theorem dX2_termOf_47 : decode cX2_termOf 47 = .ok (.lcmp, 1) := by decide +kernel
theorem dX2_termOf_48 : decode cX2_termOf 48 = .ok (.ifCond .gt 5, 3) := by decide +kernel
theorem dX2_termOf_51 : decode cX2_termOf 51 = .ok (.iconst 0, 1) := by decide +kernel
theorem dX2_termOf_52 : decode cX2_termOf 52 = .ok (.ireturn, 1) := by decide +kernel
theorem dX2_termOf_53 : decode cX2_termOf 53 = .ok (.ldc2_w 94, 3) := by decide +kernel
theorem dX2_termOf_56 : decode cX2_termOf 56 = .ok (.iload 5, 2) := by decide +kernel
theorem dX2_termOf_58 : decode cX2_termOf 58 = .ok (.i2l, 1) := by decide +kernel
theorem dX2_termOf_59 : decode cX2_termOf 59 = .ok (.lmul, 1) := by decide +kernel
theorem dX2_termOf_60 : decode cX2_termOf 60 = .ok (.aload_n 0, 1) := by decide +kernel
theorem dX2_termOf_61 : decode cX2_termOf 61 = .ok (.getfield 57, 3) := by decide +kernel
theorem dX2_termOf_64 : decode cX2_termOf 64 = .ok (.i2l, 1) := by decide +kernel
theorem dX2_termOf_65 : decode cX2_termOf 65 = .ok (.lmul, 1) := by decide +kernel
theorem dX2_termOf_66 : decode cX2_termOf 66 = .ok (.lload 6, 2) := by decide +kernel
theorem dX2_termOf_68 : decode cX2_termOf 68 = .ok (.ldiv, 1) := by decide +kernel
theorem dX2_termOf_69 : decode cX2_termOf 69 = .ok (.l2i, 1) := by decide +kernel
theorem dX2_termOf_70 : decode cX2_termOf 70 = .ok (.ireturn, 1) := by decide +kernel
theorem dX2_settle_0 : decode cX2_settle 0 = .ok (.aload_n 0, 1) := by decide +kernel
theorem dX2_settle_1 : decode cX2_settle 1 = .ok (.iconst 0, 1) := by decide +kernel
theorem dX2_settle_2 : decode cX2_settle 2 = .ok (.putfield 96, 3) := by decide +kernel
theorem dX2_settle_5 : decode cX2_settle 5 = .ok (.iconst 0, 1) := by decide +kernel
theorem dX2_settle_6 : decode cX2_settle 6 = .ok (.istore_n 1, 1) := by decide +kernel
theorem dX2_settle_7 : decode cX2_settle 7 = .ok (.iload_n 1, 1) := by decide +kernel
theorem dX2_settle_8 : decode cX2_settle 8 = .ok (.aload_n 0, 1) := by decide +kernel
theorem dX2_settle_9 : decode cX2_settle 9 = .ok (.getfield 49, 3) := by decide +kernel
theorem dX2_settle_12 : decode cX2_settle 12 = .ok (.if_icmp .ge 35, 3) := by decide +kernel
theorem dX2_settle_15 : decode cX2_settle 15 = .ok (.aload_n 0, 1) := by decide +kernel
theorem dX2_settle_16 : decode cX2_settle 16 = .ok (.getfield 37, 3) := by decide +kernel
theorem dX2_settle_19 : decode cX2_settle 19 = .ok (.iload_n 1, 1) := by decide +kernel
theorem dX2_settle_20 : decode cX2_settle 20 = .ok (.aload_n 0, 1) := by decide +kernel
theorem dX2_settle_21 : decode cX2_settle 21 = .ok (.iload_n 1, 1) := by decide +kernel
theorem dX2_settle_22 : decode cX2_settle 22 = .ok (.invokevirtual 99, 3) := by decide +kernel
theorem dX2_settle_25 : decode cX2_settle 25 = .ok (.iastore, 1) := by decide +kernel
theorem dX2_settle_26 : decode cX2_settle 26 = .ok (.aload_n 0, 1) := by decide +kernel
theorem dX2_settle_27 : decode cX2_settle 27 = .ok (.dup, 1) := by decide +kernel
theorem dX2_settle_28 : decode cX2_settle 28 = .ok (.getfield 96, 3) := by decide +kernel
theorem dX2_settle_31 : decode cX2_settle 31 = .ok (.aload_n 0, 1) := by decide +kernel
theorem dX2_settle_32 : decode cX2_settle 32 = .ok (.getfield 37, 3) := by decide +kernel
theorem dX2_settle_35 : decode cX2_settle 35 = .ok (.iload_n 1, 1) := by decide +kernel
theorem dX2_settle_36 : decode cX2_settle 36 = .ok (.iaload, 1) := by decide +kernel
theorem dX2_settle_37 : decode cX2_settle 37 = .ok (.iadd, 1) := by decide +kernel
theorem dX2_settle_38 : decode cX2_settle 38 = .ok (.putfield 96, 3) := by decide +kernel
theorem dX2_settle_41 : decode cX2_settle 41 = .ok (.iinc 1 1, 3) := by decide +kernel
theorem dX2_settle_44 : decode cX2_settle 44 = .ok (.goto (-37), 3) := by decide +kernel
theorem dX2_settle_47 : decode cX2_settle 47 = .ok (.aload_n 0, 1) := by decide +kernel
theorem dX2_settle_48 : decode cX2_settle 48 = .ok (.aload_n 0, 1) := by decide +kernel
theorem dX2_settle_49 : decode cX2_settle 49 = .ok (.getfield 53, 3) := by decide +kernel
theorem dX2_settle_52 : decode cX2_settle 52 = .ok (.invokevirtual 102, 3) := by decide +kernel
theorem dX2_settle_55 : decode cX2_settle 55 = .ok (.return_, 1) := by decide +kernel
theorem dX2_claimOf_0 : decode cX2_claimOf 0 = .ok (.aload_n 0, 1) := by decide +kernel
theorem dX2_claimOf_1 : decode cX2_claimOf 1 = .ok (.getfield 22, 3) := by decide +kernel
theorem dX2_claimOf_4 : decode cX2_claimOf 4 = .ok (.iload_n 1, 1) := by decide +kernel
theorem dX2_claimOf_5 : decode cX2_claimOf 5 = .ok (.iaload, 1) := by decide +kernel
theorem dX2_claimOf_6 : decode cX2_claimOf 6 = .ok (.tableswitch 79 1 4 #[30, 37, 63, 72], 30) := by decide +kernel
theorem dX2_claimOf_36 : decode cX2_claimOf 36 = .ok (.aload_n 0, 1) := by decide +kernel
theorem dX2_claimOf_37 : decode cX2_claimOf 37 = .ok (.getfield 34, 3) := by decide +kernel
theorem dX2_claimOf_40 : decode cX2_claimOf 40 = .ok (.iload_n 1, 1) := by decide +kernel
theorem dX2_claimOf_41 : decode cX2_claimOf 41 = .ok (.iaload, 1) := by decide +kernel
theorem dX2_claimOf_42 : decode cX2_claimOf 42 = .ok (.ireturn, 1) := by decide +kernel
theorem dX2_claimOf_43 : decode cX2_claimOf 43 = .ok (.aload_n 0, 1) := by decide +kernel
theorem dX2_claimOf_44 : decode cX2_claimOf 44 = .ok (.getfield 28, 3) := by decide +kernel
theorem dX2_claimOf_47 : decode cX2_claimOf 47 = .ok (.iload_n 1, 1) := by decide +kernel
theorem dX2_claimOf_48 : decode cX2_claimOf 48 = .ok (.iaload, 1) := by decide +kernel
theorem dX2_claimOf_49 : decode cX2_claimOf 49 = .ok (.istore_n 2, 1) := by decide +kernel
theorem dX2_claimOf_50 : decode cX2_claimOf 50 = .ok (.iconst 0, 1) := by decide +kernel
theorem dX2_claimOf_51 : decode cX2_claimOf 51 = .ok (.iload_n 2, 1) := by decide +kernel
theorem dX2_claimOf_52 : decode cX2_claimOf 52 = .ok (.iload_n 2, 1) := by decide +kernel
theorem dX2_claimOf_53 : decode cX2_claimOf 53 = .ok (.imul, 1) := by decide +kernel
theorem dX2_claimOf_54 : decode cX2_claimOf 54 = .ok (.sipush 10000, 3) := by decide +kernel
theorem dX2_claimOf_57 : decode cX2_claimOf 57 = .ok (.idiv, 1) := by decide +kernel
theorem dX2_claimOf_58 : decode cX2_claimOf 58 = .ok (.aload_n 0, 1) := by decide +kernel
theorem dX2_claimOf_59 : decode cX2_claimOf 59 = .ok (.getfield 25, 3) := by decide +kernel
theorem dX2_claimOf_62 : decode cX2_claimOf 62 = .ok (.iload_n 1, 1) := by decide +kernel
theorem dX2_claimOf_63 : decode cX2_claimOf 63 = .ok (.iaload, 1) := by decide +kernel
theorem dX2_claimOf_64 : decode cX2_claimOf 64 = .ok (.isub, 1) := by decide +kernel
theorem dX2_claimOf_65 : decode cX2_claimOf 65 = .ok (.invokestatic 105, 3) := by decide +kernel
theorem dX2_claimOf_68 : decode cX2_claimOf 68 = .ok (.ireturn, 1) := by decide +kernel
theorem dX2_claimOf_69 : decode cX2_claimOf 69 = .ok (.aload_n 0, 1) := by decide +kernel
theorem dX2_claimOf_70 : decode cX2_claimOf 70 = .ok (.getfield 34, 3) := by decide +kernel
theorem dX2_claimOf_73 : decode cX2_claimOf 73 = .ok (.iload_n 1, 1) := by decide +kernel
theorem dX2_claimOf_74 : decode cX2_claimOf 74 = .ok (.iaload, 1) := by decide +kernel
theorem dX2_claimOf_75 : decode cX2_claimOf 75 = .ok (.iconst 2, 1) := by decide +kernel
theorem dX2_claimOf_76 : decode cX2_claimOf 76 = .ok (.idiv, 1) := by decide +kernel
theorem dX2_claimOf_77 : decode cX2_claimOf 77 = .ok (.ireturn, 1) := by decide +kernel
theorem dX2_claimOf_78 : decode cX2_claimOf 78 = .ok (.aload_n 0, 1) := by decide +kernel
theorem dX2_claimOf_79 : decode cX2_claimOf 79 = .ok (.getfield 25, 3) := by decide +kernel
theorem dX2_claimOf_82 : decode cX2_claimOf 82 = .ok (.iload_n 1, 1) := by decide +kernel
theorem dX2_claimOf_83 : decode cX2_claimOf 83 = .ok (.iaload, 1) := by decide +kernel
theorem dX2_claimOf_84 : decode cX2_claimOf 84 = .ok (.ireturn, 1) := by decide +kernel
theorem dX2_claimOf_85 : decode cX2_claimOf 85 = .ok (.aload_n 0, 1) := by decide +kernel
theorem dX2_claimOf_86 : decode cX2_claimOf 86 = .ok (.getfield 25, 3) := by decide +kernel
theorem dX2_claimOf_89 : decode cX2_claimOf 89 = .ok (.iload_n 1, 1) := by decide +kernel
theorem dX2_claimOf_90 : decode cX2_claimOf 90 = .ok (.iaload, 1) := by decide +kernel
theorem dX2_claimOf_91 : decode cX2_claimOf 91 = .ok (.iconst 5, 1) := by decide +kernel
theorem dX2_claimOf_92 : decode cX2_claimOf 92 = .ok (.aload_n 0, 1) := by decide +kernel
theorem dX2_claimOf_93 : decode cX2_claimOf 93 = .ok (.getfield 31, 3) := by decide +kernel
theorem dX2_claimOf_96 : decode cX2_claimOf 96 = .ok (.iload_n 1, 1) := by decide +kernel
theorem dX2_claimOf_97 : decode cX2_claimOf 97 = .ok (.iaload, 1) := by decide +kernel
theorem dX2_claimOf_98 : decode cX2_claimOf 98 = .ok (.imul, 1) := by decide +kernel
theorem dX2_claimOf_99 : decode cX2_claimOf 99 = .ok (.invokestatic 110, 3) := by decide +kernel
theorem dX2_claimOf_102 : decode cX2_claimOf 102 = .ok (.ireturn, 1) := by decide +kernel
theorem dX2_share_0 : decode cX2_share 0 = .ok (.aload_n 0, 1) := by decide +kernel
theorem dX2_share_1 : decode cX2_share 1 = .ok (.getfield 96, 3) := by decide +kernel
theorem dX2_share_4 : decode cX2_share 4 = .ok (.iload_n 1, 1) := by decide +kernel
theorem dX2_share_5 : decode cX2_share 5 = .ok (.if_icmp .gt 42, 3) := by decide +kernel
theorem dX2_share_8 : decode cX2_share 8 = .ok (.iconst 0, 1) := by decide +kernel
theorem dX2_share_9 : decode cX2_share 9 = .ok (.istore_n 2, 1) := by decide +kernel
theorem dX2_share_10 : decode cX2_share 10 = .ok (.iload_n 2, 1) := by decide +kernel
theorem dX2_share_11 : decode cX2_share 11 = .ok (.aload_n 0, 1) := by decide +kernel
theorem dX2_share_12 : decode cX2_share 12 = .ok (.getfield 49, 3) := by decide +kernel
theorem dX2_share_15 : decode cX2_share 15 = .ok (.if_icmp .ge 21, 3) := by decide +kernel
theorem dX2_share_18 : decode cX2_share 18 = .ok (.aload_n 0, 1) := by decide +kernel
theorem dX2_share_19 : decode cX2_share 19 = .ok (.getfield 40, 3) := by decide +kernel
theorem dX2_share_22 : decode cX2_share 22 = .ok (.iload_n 2, 1) := by decide +kernel
theorem dX2_share_23 : decode cX2_share 23 = .ok (.aload_n 0, 1) := by decide +kernel
theorem dX2_share_24 : decode cX2_share 24 = .ok (.getfield 37, 3) := by decide +kernel
theorem dX2_share_27 : decode cX2_share 27 = .ok (.iload_n 2, 1) := by decide +kernel
theorem dX2_share_28 : decode cX2_share 28 = .ok (.iaload, 1) := by decide +kernel
theorem dX2_share_29 : decode cX2_share 29 = .ok (.iastore, 1) := by decide +kernel
theorem dX2_share_30 : decode cX2_share 30 = .ok (.iinc 2 1, 3) := by decide +kernel
theorem dX2_share_33 : decode cX2_share 33 = .ok (.goto (-23), 3) := by decide +kernel
theorem dX2_share_36 : decode cX2_share 36 = .ok (.aload_n 0, 1) := by decide +kernel
theorem dX2_share_37 : decode cX2_share 37 = .ok (.iload_n 1, 1) := by decide +kernel
theorem dX2_share_38 : decode cX2_share 38 = .ok (.aload_n 0, 1) := by decide +kernel
theorem dX2_share_39 : decode cX2_share 39 = .ok (.getfield 96, 3) := by decide +kernel
theorem dX2_share_42 : decode cX2_share 42 = .ok (.isub, 1) := by decide +kernel
theorem dX2_share_43 : decode cX2_share 43 = .ok (.putfield 113, 3) := by decide +kernel
theorem dX2_share_46 : decode cX2_share 46 = .ok (.return_, 1) := by decide +kernel
theorem dX2_share_47 : decode cX2_share 47 = .ok (.iload_n 1, 1) := by decide +kernel
theorem dX2_share_48 : decode cX2_share 48 = .ok (.istore_n 2, 1) := by decide +kernel
theorem dX2_share_49 : decode cX2_share 49 = .ok (.iconst 0, 1) := by decide +kernel
theorem dX2_share_50 : decode cX2_share 50 = .ok (.istore_n 3, 1) := by decide +kernel
theorem dX2_share_51 : decode cX2_share 51 = .ok (.iload_n 3, 1) := by decide +kernel
theorem dX2_share_52 : decode cX2_share 52 = .ok (.aload_n 0, 1) := by decide +kernel
theorem dX2_share_53 : decode cX2_share 53 = .ok (.getfield 49, 3) := by decide +kernel
theorem dX2_share_56 : decode cX2_share 56 = .ok (.if_icmp .ge 37, 3) := by decide +kernel
theorem dX2_share_59 : decode cX2_share 59 = .ok (.aload_n 0, 1) := by decide +kernel
theorem dX2_share_60 : decode cX2_share 60 = .ok (.getfield 40, 3) := by decide +kernel
theorem dX2_share_63 : decode cX2_share 63 = .ok (.iload_n 3, 1) := by decide +kernel
theorem dX2_share_64 : decode cX2_share 64 = .ok (.aload_n 0, 1) := by decide +kernel
theorem dX2_share_65 : decode cX2_share 65 = .ok (.getfield 37, 3) := by decide +kernel
theorem dX2_share_68 : decode cX2_share 68 = .ok (.iload_n 3, 1) := by decide +kernel
theorem dX2_share_69 : decode cX2_share 69 = .ok (.iaload, 1) := by decide +kernel
theorem dX2_share_70 : decode cX2_share 70 = .ok (.iload_n 1, 1) := by decide +kernel
theorem dX2_share_71 : decode cX2_share 71 = .ok (.imul, 1) := by decide +kernel
theorem dX2_share_72 : decode cX2_share 72 = .ok (.aload_n 0, 1) := by decide +kernel
theorem dX2_share_73 : decode cX2_share 73 = .ok (.getfield 96, 3) := by decide +kernel
theorem dX2_share_76 : decode cX2_share 76 = .ok (.idiv, 1) := by decide +kernel
theorem dX2_share_77 : decode cX2_share 77 = .ok (.iastore, 1) := by decide +kernel
theorem dX2_share_78 : decode cX2_share 78 = .ok (.iload_n 2, 1) := by decide +kernel
theorem dX2_share_79 : decode cX2_share 79 = .ok (.aload_n 0, 1) := by decide +kernel
theorem dX2_share_80 : decode cX2_share 80 = .ok (.getfield 40, 3) := by decide +kernel
theorem dX2_share_83 : decode cX2_share 83 = .ok (.iload_n 3, 1) := by decide +kernel
theorem dX2_share_84 : decode cX2_share 84 = .ok (.iaload, 1) := by decide +kernel
theorem dX2_share_85 : decode cX2_share 85 = .ok (.isub, 1) := by decide +kernel
theorem dX2_share_86 : decode cX2_share 86 = .ok (.istore_n 2, 1) := by decide +kernel
theorem dX2_share_87 : decode cX2_share 87 = .ok (.iinc 3 1, 3) := by decide +kernel
theorem dX2_share_90 : decode cX2_share 90 = .ok (.goto (-39), 3) := by decide +kernel
theorem dX2_share_93 : decode cX2_share 93 = .ok (.iconst 0, 1) := by decide +kernel
theorem dX2_share_94 : decode cX2_share 94 = .ok (.istore_n 3, 1) := by decide +kernel
theorem dX2_share_95 : decode cX2_share 95 = .ok (.iload_n 3, 1) := by decide +kernel
theorem dX2_share_96 : decode cX2_share 96 = .ok (.aload_n 0, 1) := by decide +kernel
theorem dX2_share_97 : decode cX2_share 97 = .ok (.getfield 49, 3) := by decide +kernel
theorem dX2_share_100 : decode cX2_share 100 = .ok (.if_icmp .ge 35, 3) := by decide +kernel
theorem dX2_share_103 : decode cX2_share 103 = .ok (.iload_n 2, 1) := by decide +kernel
theorem dX2_share_104 : decode cX2_share 104 = .ok (.ifCond .le 31, 3) := by decide +kernel
theorem dX2_share_107 : decode cX2_share 107 = .ok (.aload_n 0, 1) := by decide +kernel
theorem dX2_share_108 : decode cX2_share 108 = .ok (.getfield 37, 3) := by decide +kernel
theorem dX2_share_111 : decode cX2_share 111 = .ok (.iload_n 3, 1) := by decide +kernel
theorem dX2_share_112 : decode cX2_share 112 = .ok (.iaload, 1) := by decide +kernel
theorem dX2_share_113 : decode cX2_share 113 = .ok (.ifCond .le 16, 3) := by decide +kernel
theorem dX2_share_116 : decode cX2_share 116 = .ok (.aload_n 0, 1) := by decide +kernel
theorem dX2_share_117 : decode cX2_share 117 = .ok (.getfield 40, 3) := by decide +kernel
theorem dX2_share_120 : decode cX2_share 120 = .ok (.iload_n 3, 1) := by decide +kernel
theorem dX2_share_121 : decode cX2_share 121 = .ok (.dup2, 1) := by decide +kernel
theorem dX2_share_122 : decode cX2_share 122 = .ok (.iaload, 1) := by decide +kernel
theorem dX2_share_123 : decode cX2_share 123 = .ok (.iconst 1, 1) := by decide +kernel
theorem dX2_share_124 : decode cX2_share 124 = .ok (.iadd, 1) := by decide +kernel
theorem dX2_share_125 : decode cX2_share 125 = .ok (.iastore, 1) := by decide +kernel
theorem dX2_share_126 : decode cX2_share 126 = .ok (.iinc 2 (-1), 3) := by decide +kernel
theorem dX2_share_129 : decode cX2_share 129 = .ok (.iinc 3 1, 3) := by decide +kernel
theorem dX2_share_132 : decode cX2_share 132 = .ok (.goto (-37), 3) := by decide +kernel
theorem dX2_share_135 : decode cX2_share 135 = .ok (.aload_n 0, 1) := by decide +kernel
theorem dX2_share_136 : decode cX2_share 136 = .ok (.iconst 0, 1) := by decide +kernel
theorem dX2_share_137 : decode cX2_share 137 = .ok (.putfield 113, 3) := by decide +kernel
theorem dX2_share_140 : decode cX2_share 140 = .ok (.return_, 1) := by decide +kernel
theorem dX2_allPaid_0 : decode cX2_allPaid 0 = .ok (.iconst 0, 1) := by decide +kernel
theorem dX2_allPaid_1 : decode cX2_allPaid 1 = .ok (.istore_n 1, 1) := by decide +kernel
theorem dX2_allPaid_2 : decode cX2_allPaid 2 = .ok (.iconst 0, 1) := by decide +kernel
theorem dX2_allPaid_3 : decode cX2_allPaid 3 = .ok (.istore_n 2, 1) := by decide +kernel
theorem dX2_allPaid_4 : decode cX2_allPaid 4 = .ok (.iload_n 2, 1) := by decide +kernel
theorem dX2_allPaid_5 : decode cX2_allPaid 5 = .ok (.aload_n 0, 1) := by decide +kernel
theorem dX2_allPaid_6 : decode cX2_allPaid 6 = .ok (.getfield 49, 3) := by decide +kernel
theorem dX2_allPaid_9 : decode cX2_allPaid 9 = .ok (.if_icmp .ge 18, 3) := by decide +kernel
theorem dX2_allPaid_12 : decode cX2_allPaid 12 = .ok (.iload_n 1, 1) := by decide +kernel
theorem dX2_allPaid_13 : decode cX2_allPaid 13 = .ok (.aload_n 0, 1) := by decide +kernel
theorem dX2_allPaid_14 : decode cX2_allPaid 14 = .ok (.getfield 40, 3) := by decide +kernel
theorem dX2_allPaid_17 : decode cX2_allPaid 17 = .ok (.iload_n 2, 1) := by decide +kernel
theorem dX2_allPaid_18 : decode cX2_allPaid 18 = .ok (.iaload, 1) := by decide +kernel
theorem dX2_allPaid_19 : decode cX2_allPaid 19 = .ok (.iadd, 1) := by decide +kernel
theorem dX2_allPaid_20 : decode cX2_allPaid 20 = .ok (.istore_n 1, 1) := by decide +kernel
theorem dX2_allPaid_21 : decode cX2_allPaid 21 = .ok (.iinc 2 1, 3) := by decide +kernel
theorem dX2_allPaid_24 : decode cX2_allPaid 24 = .ok (.goto (-20), 3) := by decide +kernel
theorem dX2_allPaid_27 : decode cX2_allPaid 27 = .ok (.iload_n 1, 1) := by decide +kernel
theorem dX2_allPaid_28 : decode cX2_allPaid 28 = .ok (.ireturn, 1) := by decide +kernel
theorem dX2_weigh_0 : decode cX2_weigh 0 = .ok (.aload_n 0, 1) := by decide +kernel
theorem dX2_weigh_1 : decode cX2_weigh 1 = .ok (.iload_n 1, 1) := by decide +kernel
theorem dX2_weigh_2 : decode cX2_weigh 2 = .ok (.invokevirtual 116, 3) := by decide +kernel
theorem dX2_weigh_5 : decode cX2_weigh 5 = .ok (.ifCond .ne 4, 3) := by decide +kernel
theorem dX2_weigh_8 : decode cX2_weigh 8 = .ok (.return_, 1) := by decide +kernel
theorem dX2_weigh_9 : decode cX2_weigh 9 = .ok (.aload_n 0, 1) := by decide +kernel
theorem dX2_weigh_10 : decode cX2_weigh 10 = .ok (.getfield 18, 3) := by decide +kernel
theorem dX2_weigh_13 : decode cX2_weigh 13 = .ok (.iload_n 1, 1) := by decide +kernel
theorem dX2_weigh_14 : decode cX2_weigh 14 = .ok (.iload_n 2, 1) := by decide +kernel
theorem dX2_weigh_15 : decode cX2_weigh 15 = .ok (.ifCond .le 7, 3) := by decide +kernel
theorem dX2_weigh_18 : decode cX2_weigh 18 = .ok (.iconst 1, 1) := by decide +kernel
theorem dX2_weigh_19 : decode cX2_weigh 19 = .ok (.goto 4, 3) := by decide +kernel
theorem dX2_weigh_22 : decode cX2_weigh 22 = .ok (.iconst 0, 1) := by decide +kernel
theorem dX2_weigh_23 : decode cX2_weigh 23 = .ok (.bastore, 1) := by decide +kernel
theorem dX2_weigh_24 : decode cX2_weigh 24 = .ok (.iconst 0, 1) := by decide +kernel
theorem dX2_weigh_25 : decode cX2_weigh 25 = .ok (.istore_n 3, 1) := by decide +kernel
theorem dX2_weigh_26 : decode cX2_weigh 26 = .ok (.iload_n 3, 1) := by decide +kernel
theorem dX2_weigh_27 : decode cX2_weigh 27 = .ok (.aload_n 0, 1) := by decide +kernel
theorem dX2_weigh_28 : decode cX2_weigh 28 = .ok (.getfield 49, 3) := by decide +kernel
theorem dX2_weigh_31 : decode cX2_weigh 31 = .ok (.if_icmp .ge 77, 3) := by decide +kernel
theorem dX2_weigh_34 : decode cX2_weigh 34 = .ok (.iload_n 1, 1) := by decide +kernel
theorem dX2_weigh_35 : decode cX2_weigh 35 = .ok (.bipush 6, 2) := by decide +kernel
theorem dX2_weigh_37 : decode cX2_weigh 37 = .ok (.imul, 1) := by decide +kernel
theorem dX2_weigh_38 : decode cX2_weigh 38 = .ok (.iload_n 3, 1) := by decide +kernel
theorem dX2_weigh_39 : decode cX2_weigh 39 = .ok (.iadd, 1) := by decide +kernel
theorem dX2_weigh_40 : decode cX2_weigh 40 = .ok (.istore 4, 2) := by decide +kernel
theorem dX2_weigh_42 : decode cX2_weigh 42 = .ok (.aload_n 0, 1) := by decide +kernel
theorem dX2_weigh_43 : decode cX2_weigh 43 = .ok (.getfield 25, 3) := by decide +kernel
theorem dX2_weigh_46 : decode cX2_weigh 46 = .ok (.iload_n 3, 1) := by decide +kernel
theorem dX2_weigh_47 : decode cX2_weigh 47 = .ok (.dup2, 1) := by decide +kernel
theorem dX2_weigh_48 : decode cX2_weigh 48 = .ok (.iaload, 1) := by decide +kernel
theorem dX2_weigh_49 : decode cX2_weigh 49 = .ok (.iload_n 2, 1) := by decide +kernel
theorem dX2_weigh_50 : decode cX2_weigh 50 = .ok (.aload_n 0, 1) := by decide +kernel
theorem dX2_weigh_51 : decode cX2_weigh 51 = .ok (.getfield 9, 3) := by decide +kernel
theorem dX2_weigh_54 : decode cX2_weigh 54 = .ok (.iload 4, 2) := by decide +kernel
theorem dX2_weigh_56 : decode cX2_weigh 56 = .ok (.iaload, 1) := by decide +kernel
theorem dX2_weigh_57 : decode cX2_weigh 57 = .ok (.imul, 1) := by decide +kernel
theorem dX2_weigh_58 : decode cX2_weigh 58 = .ok (.iadd, 1) := by decide +kernel
theorem dX2_weigh_59 : decode cX2_weigh 59 = .ok (.iastore, 1) := by decide +kernel
theorem dX2_weigh_60 : decode cX2_weigh 60 = .ok (.aload_n 0, 1) := by decide +kernel
theorem dX2_weigh_61 : decode cX2_weigh 61 = .ok (.getfield 28, 3) := by decide +kernel
theorem dX2_weigh_64 : decode cX2_weigh 64 = .ok (.iload_n 3, 1) := by decide +kernel
theorem dX2_weigh_65 : decode cX2_weigh 65 = .ok (.dup2, 1) := by decide +kernel
theorem dX2_weigh_66 : decode cX2_weigh 66 = .ok (.iaload, 1) := by decide +kernel
theorem dX2_weigh_67 : decode cX2_weigh 67 = .ok (.iload_n 2, 1) := by decide +kernel
theorem dX2_weigh_68 : decode cX2_weigh 68 = .ok (.aload_n 0, 1) := by decide +kernel
theorem dX2_weigh_69 : decode cX2_weigh 69 = .ok (.getfield 15, 3) := by decide +kernel
theorem dX2_weigh_72 : decode cX2_weigh 72 = .ok (.iload 4, 2) := by decide +kernel
theorem dX2_weigh_74 : decode cX2_weigh 74 = .ok (.iaload, 1) := by decide +kernel
theorem dX2_weigh_75 : decode cX2_weigh 75 = .ok (.imul, 1) := by decide +kernel
theorem dX2_weigh_76 : decode cX2_weigh 76 = .ok (.iadd, 1) := by decide +kernel
theorem dX2_weigh_77 : decode cX2_weigh 77 = .ok (.iastore, 1) := by decide +kernel
theorem dX2_weigh_78 : decode cX2_weigh 78 = .ok (.aload_n 0, 1) := by decide +kernel
theorem dX2_weigh_79 : decode cX2_weigh 79 = .ok (.getfield 31, 3) := by decide +kernel
theorem dX2_weigh_82 : decode cX2_weigh 82 = .ok (.iload_n 3, 1) := by decide +kernel
theorem dX2_weigh_83 : decode cX2_weigh 83 = .ok (.dup2, 1) := by decide +kernel
theorem dX2_weigh_84 : decode cX2_weigh 84 = .ok (.iaload, 1) := by decide +kernel
theorem dX2_weigh_85 : decode cX2_weigh 85 = .ok (.aload_n 0, 1) := by decide +kernel
theorem dX2_weigh_86 : decode cX2_weigh 86 = .ok (.getfield 9, 3) := by decide +kernel
theorem dX2_weigh_89 : decode cX2_weigh 89 = .ok (.iload 4, 2) := by decide +kernel
theorem dX2_weigh_91 : decode cX2_weigh 91 = .ok (.iaload, 1) := by decide +kernel
theorem dX2_weigh_92 : decode cX2_weigh 92 = .ok (.ifCond .le 7, 3) := by decide +kernel
theorem dX2_weigh_95 : decode cX2_weigh 95 = .ok (.iload_n 2, 1) := by decide +kernel
theorem dX2_weigh_96 : decode cX2_weigh 96 = .ok (.goto 4, 3) := by decide +kernel
theorem dX2_weigh_99 : decode cX2_weigh 99 = .ok (.iconst 0, 1) := by decide +kernel
theorem dX2_weigh_100 : decode cX2_weigh 100 = .ok (.iadd, 1) := by decide +kernel
theorem dX2_weigh_101 : decode cX2_weigh 101 = .ok (.iastore, 1) := by decide +kernel
theorem dX2_weigh_102 : decode cX2_weigh 102 = .ok (.iinc 3 1, 3) := by decide +kernel
theorem dX2_weigh_105 : decode cX2_weigh 105 = .ok (.goto (-79), 3) := by decide +kernel
theorem dX2_weigh_108 : decode cX2_weigh 108 = .ok (.iconst 0, 1) := by decide +kernel
theorem dX2_weigh_109 : decode cX2_weigh 109 = .ok (.istore_n 3, 1) := by decide +kernel
theorem dX2_weigh_110 : decode cX2_weigh 110 = .ok (.iload_n 3, 1) := by decide +kernel
theorem dX2_weigh_111 : decode cX2_weigh 111 = .ok (.bipush 10, 2) := by decide +kernel
theorem dX2_weigh_113 : decode cX2_weigh 113 = .ok (.if_icmp .ge 30, 3) := by decide +kernel
theorem dX2_weigh_116 : decode cX2_weigh 116 = .ok (.aload_n 0, 1) := by decide +kernel
theorem dX2_weigh_117 : decode cX2_weigh 117 = .ok (.getfield 18, 3) := by decide +kernel
theorem dX2_weigh_120 : decode cX2_weigh 120 = .ok (.iload_n 3, 1) := by decide +kernel
theorem dX2_weigh_121 : decode cX2_weigh 121 = .ok (.baload, 1) := by decide +kernel
theorem dX2_weigh_122 : decode cX2_weigh 122 = .ok (.ifCond .eq 15, 3) := by decide +kernel
theorem dX2_weigh_125 : decode cX2_weigh 125 = .ok (.iload_n 3, 1) := by decide +kernel
theorem dX2_weigh_126 : decode cX2_weigh 126 = .ok (.iload_n 1, 1) := by decide +kernel
theorem dX2_weigh_127 : decode cX2_weigh 127 = .ok (.if_icmp .eq 10, 3) := by decide +kernel
theorem dX2_weigh_130 : decode cX2_weigh 130 = .ok (.aload_n 0, 1) := by decide +kernel
theorem dX2_weigh_131 : decode cX2_weigh 131 = .ok (.iload_n 1, 1) := by decide +kernel
theorem dX2_weigh_132 : decode cX2_weigh 132 = .ok (.iload_n 3, 1) := by decide +kernel
theorem dX2_weigh_133 : decode cX2_weigh 133 = .ok (.iload_n 2, 1) := by decide +kernel
theorem dX2_weigh_134 : decode cX2_weigh 134 = .ok (.invokevirtual 120, 3) := by decide +kernel
theorem dX2_weigh_137 : decode cX2_weigh 137 = .ok (.iinc 3 1, 3) := by decide +kernel
theorem dX2_weigh_140 : decode cX2_weigh 140 = .ok (.goto (-30), 3) := by decide +kernel
theorem dX2_weigh_143 : decode cX2_weigh 143 = .ok (.return_, 1) := by decide +kernel
theorem dX2_weighPair_0 : decode cX2_weighPair 0 = .ok (.aload_n 0, 1) := by decide +kernel
theorem dX2_weighPair_1 : decode cX2_weighPair 1 = .ok (.iload_n 1, 1) := by decide +kernel
theorem dX2_weighPair_2 : decode cX2_weighPair 2 = .ok (.iload_n 2, 1) := by decide +kernel
theorem dX2_weighPair_3 : decode cX2_weighPair 3 = .ok (.invokevirtual 124, 3) := by decide +kernel
theorem dX2_weighPair_6 : decode cX2_weighPair 6 = .ok (.istore 4, 2) := by decide +kernel
theorem dX2_weighPair_8 : decode cX2_weighPair 8 = .ok (.iload 4, 2) := by decide +kernel
theorem dX2_weighPair_10 : decode cX2_weighPair 10 = .ok (.ifCond .ne 4, 3) := by decide +kernel
theorem dX2_weighPair_13 : decode cX2_weighPair 13 = .ok (.return_, 1) := by decide +kernel
theorem dX2_weighPair_14 : decode cX2_weighPair 14 = .ok (.iconst 0, 1) := by decide +kernel
theorem dX2_weighPair_15 : decode cX2_weighPair 15 = .ok (.istore 5, 2) := by decide +kernel
theorem dX2_weighPair_17 : decode cX2_weighPair 17 = .ok (.iload 5, 2) := by decide +kernel
theorem dX2_weighPair_19 : decode cX2_weighPair 19 = .ok (.aload_n 0, 1) := by decide +kernel
theorem dX2_weighPair_20 : decode cX2_weighPair 20 = .ok (.getfield 49, 3) := by decide +kernel
theorem dX2_weighPair_23 : decode cX2_weighPair 23 = .ok (.if_icmp .ge 31, 3) := by decide +kernel
theorem dX2_weighPair_26 : decode cX2_weighPair 26 = .ok (.aload_n 0, 1) := by decide +kernel
theorem dX2_weighPair_27 : decode cX2_weighPair 27 = .ok (.getfield 34, 3) := by decide +kernel
theorem dX2_weighPair_30 : decode cX2_weighPair 30 = .ok (.iload 5, 2) := by decide +kernel
theorem dX2_weighPair_32 : decode cX2_weighPair 32 = .ok (.dup2, 1) := by decide +kernel
theorem dX2_weighPair_33 : decode cX2_weighPair 33 = .ok (.iaload, 1) := by decide +kernel
theorem dX2_weighPair_34 : decode cX2_weighPair 34 = .ok (.iload_n 3, 1) := by decide +kernel
theorem dX2_weighPair_35 : decode cX2_weighPair 35 = .ok (.aload_n 0, 1) := by decide +kernel
theorem dX2_weighPair_36 : decode cX2_weighPair 36 = .ok (.iload_n 1, 1) := by decide +kernel
theorem dX2_weighPair_37 : decode cX2_weighPair 37 = .ok (.iload_n 2, 1) := by decide +kernel
theorem dX2_weighPair_38 : decode cX2_weighPair 38 = .ok (.iload 5, 2) := by decide +kernel
theorem dX2_weighPair_40 : decode cX2_weighPair 40 = .ok (.iload 4, 2) := by decide +kernel
theorem dX2_weighPair_42 : decode cX2_weighPair 42 = .ok (.invokevirtual 127, 3) := by decide +kernel
theorem dX2_weighPair_45 : decode cX2_weighPair 45 = .ok (.imul, 1) := by decide +kernel
theorem dX2_weighPair_46 : decode cX2_weighPair 46 = .ok (.iadd, 1) := by decide +kernel
theorem dX2_weighPair_47 : decode cX2_weighPair 47 = .ok (.iastore, 1) := by decide +kernel
theorem dX2_weighPair_48 : decode cX2_weighPair 48 = .ok (.iinc 5 1, 3) := by decide +kernel
theorem dX2_weighPair_51 : decode cX2_weighPair 51 = .ok (.goto (-34), 3) := by decide +kernel
theorem dX2_weighPair_54 : decode cX2_weighPair 54 = .ok (.return_, 1) := by decide +kernel
