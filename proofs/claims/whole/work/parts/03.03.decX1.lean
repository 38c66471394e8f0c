theorem dX1_init_0 : decode cX1_init 0 = .ok (.aload_n 0, 1) := by decide +kernel
theorem dX1_init_1 : decode cX1_init 1 = .ok (.invokespecial 3, 3) := by decide +kernel
theorem dX1_init_4 : decode cX1_init 4 = .ok (.aload_n 0, 1) := by decide +kernel
theorem dX1_init_5 : decode cX1_init 5 = .ok (.bipush 16, 2) := by decide +kernel
theorem dX1_init_7 : decode cX1_init 7 = .ok (.newarray .int, 2) := by decide +kernel
theorem dX1_init_9 : decode cX1_init 9 = .ok (.putfield 11, 3) := by decide +kernel
theorem dX1_init_12 : decode cX1_init 12 = .ok (.aload_n 0, 1) := by decide +kernel
theorem dX1_init_13 : decode cX1_init 13 = .ok (.aload_n 1, 1) := by decide +kernel
theorem dX1_init_14 : decode cX1_init 14 = .ok (.putfield 15, 3) := by decide +kernel
theorem dX1_init_17 : decode cX1_init 17 = .ok (.return_, 1) := by decide +kernel
theorem dX1_answer_0 : decode cX1_answer 0 = .ok (.aload_n 0, 1) := by decide +kernel
theorem dX1_answer_1 : decode cX1_answer 1 = .ok (.iconst 0, 1) := by decide +kernel
theorem dX1_answer_2 : decode cX1_answer 2 = .ok (.putfield 19, 3) := by decide +kernel
theorem dX1_answer_5 : decode cX1_answer 5 = .ok (.aload_n 0, 1) := by decide +kernel
theorem dX1_answer_6 : decode cX1_answer 6 = .ok (.iload_n 1, 1) := by decide +kernel
theorem dX1_answer_7 : decode cX1_answer 7 = .ok (.putfield 23, 3) := by decide +kernel
theorem dX1_answer_10 : decode cX1_answer 10 = .ok (.iload_n 2, 1) := by decide +kernel
theorem dX1_answer_11 : decode cX1_answer 11 = .ok (.ifCond .ne 11, 3) := by decide +kernel
theorem dX1_answer_14 : decode cX1_answer 14 = .ok (.aload_n 0, 1) := by decide +kernel
theorem dX1_answer_15 : decode cX1_answer 15 = .ok (.iconst 0, 1) := by decide +kernel
theorem dX1_answer_16 : decode cX1_answer 16 = .ok (.invokevirtual 26, 3) := by decide +kernel
theorem dX1_answer_19 : decode cX1_answer 19 = .ok (.goto 8, 3) := by decide +kernel
theorem dX1_answer_22 : decode cX1_answer 22 = .ok (.aload_n 0, 1) := by decide +kernel
theorem dX1_answer_23 : decode cX1_answer 23 = .ok (.iconst 0, 1) := by decide +kernel
theorem dX1_answer_24 : decode cX1_answer 24 = .ok (.invokevirtual 30, 3) := by decide +kernel
theorem dX1_answer_27 : decode cX1_answer 27 = .ok (.ireturn, 1) := by decide +kernel
theorem dX1_size_0 : decode cX1_size 0 = .ok (.aload_n 0, 1) := by decide +kernel
theorem dX1_size_1 : decode cX1_size 1 = .ok (.aload_n 0, 1) := by decide +kernel
theorem dX1_size_2 : decode cX1_size 2 = .ok (.getstatic 33, 3) := by decide +kernel
theorem dX1_size_5 : decode cX1_size 5 = .ok (.invokevirtual 36, 3) := by decide +kernel
theorem dX1_size_8 : decode cX1_size 8 = .ok (.iload_n 1, 1) := by decide +kernel
theorem dX1_size_9 : decode cX1_size 9 = .ok (.iconst 1, 1) := by decide +kernel
theorem dX1_size_10 : decode cX1_size 10 = .ok (.iadd, 1) := by decide +kernel
theorem dX1_size_11 : decode cX1_size 11 = .ok (.invokevirtual 40, 3) := by decide +kernel
theorem dX1_size_14 : decode cX1_size 14 = .ok (.ireturn, 1) := by decide +kernel
theorem dX1_mark_0 : decode cX1_mark 0 = .ok (.aload_n 0, 1) := by decide +kernel
theorem dX1_mark_1 : decode cX1_mark 1 = .ok (.aload_n 0, 1) := by decide +kernel
theorem dX1_mark_2 : decode cX1_mark 2 = .ok (.getstatic 44, 3) := by decide +kernel
theorem dX1_mark_5 : decode cX1_mark 5 = .ok (.invokevirtual 36, 3) := by decide +kernel
theorem dX1_mark_8 : decode cX1_mark 8 = .ok (.iload_n 1, 1) := by decide +kernel
theorem dX1_mark_9 : decode cX1_mark 9 = .ok (.iconst 1, 1) := by decide +kernel
theorem dX1_mark_10 : decode cX1_mark 10 = .ok (.iadd, 1) := by decide +kernel
theorem dX1_mark_11 : decode cX1_mark 11 = .ok (.invokevirtual 47, 3) := by decide +kernel
theorem dX1_mark_14 : decode cX1_mark 14 = .ok (.ireturn, 1) := by decide +kernel
theorem dX1_bodyFor_0 : decode cX1_bodyFor 0 = .ok (.aload_n 0, 1) := by decide +kernel
theorem dX1_bodyFor_1 : decode cX1_bodyFor 1 = .ok (.getfield 15, 3) := by decide +kernel
theorem dX1_bodyFor_4 : decode cX1_bodyFor 4 = .ok (.getfield 50, 3) := by decide +kernel
theorem dX1_bodyFor_7 : decode cX1_bodyFor 7 = .ok (.aload_n 0, 1) := by decide +kernel
theorem dX1_bodyFor_8 : decode cX1_bodyFor 8 = .ok (.getfield 23, 3) := by decide +kernel
theorem dX1_bodyFor_11 : decode cX1_bodyFor 11 = .ok (.iaload, 1) := by decide +kernel
theorem dX1_bodyFor_12 : decode cX1_bodyFor 12 = .ok (.istore_n 2, 1) := by decide +kernel
theorem dX1_bodyFor_13 : decode cX1_bodyFor 13 = .ok (.iconst 0, 1) := by decide +kernel
theorem dX1_bodyFor_14 : decode cX1_bodyFor 14 = .ok (.istore_n 3, 1) := by decide +kernel
theorem dX1_bodyFor_15 : decode cX1_bodyFor 15 = .ok (.iload_n 3, 1) := by decide +kernel
theorem dX1_bodyFor_16 : decode cX1_bodyFor 16 = .ok (.bipush 6, 2) := by decide +kernel
theorem dX1_bodyFor_18 : decode cX1_bodyFor 18 = .ok (.if_icmp .ge 29, 3) := by decide +kernel
theorem dX1_bodyFor_21 : decode cX1_bodyFor 21 = .ok (.iload_n 2, 1) := by decide +kernel
theorem dX1_bodyFor_22 : decode cX1_bodyFor 22 = .ok (.ifCond .le 25, 3) := by decide +kernel
theorem dX1_bodyFor_25 : decode cX1_bodyFor 25 = .ok (.aload_n 1, 1) := by decide +kernel
theorem dX1_bodyFor_26 : decode cX1_bodyFor 26 = .ok (.iload_n 2, 1) := by decide +kernel
theorem dX1_bodyFor_27 : decode cX1_bodyFor 27 = .ok (.iaload, 1) := by decide +kernel
theorem dX1_bodyFor_28 : decode cX1_bodyFor 28 = .ok (.ifCond .eq 7, 3) := by decide +kernel
theorem dX1_bodyFor_31 : decode cX1_bodyFor 31 = .ok (.aload_n 1, 1) := by decide +kernel
theorem dX1_bodyFor_32 : decode cX1_bodyFor 32 = .ok (.iload_n 2, 1) := by decide +kernel
theorem dX1_bodyFor_33 : decode cX1_bodyFor 33 = .ok (.iaload, 1) := by decide +kernel
theorem dX1_bodyFor_34 : decode cX1_bodyFor 34 = .ok (.ireturn, 1) := by decide +kernel
theorem dX1_bodyFor_35 : decode cX1_bodyFor 35 = .ok (.getstatic 55, 3) := by decide +kernel
theorem dX1_bodyFor_38 : decode cX1_bodyFor 38 = .ok (.iload_n 2, 1) := by decide +kernel
theorem dX1_bodyFor_39 : decode cX1_bodyFor 39 = .ok (.iaload, 1) := by decide +kernel
theorem dX1_bodyFor_40 : decode cX1_bodyFor 40 = .ok (.istore_n 2, 1) := by decide +kernel
theorem dX1_bodyFor_41 : decode cX1_bodyFor 41 = .ok (.iinc 3 1, 3) := by decide +kernel
theorem dX1_bodyFor_44 : decode cX1_bodyFor 44 = .ok (.goto (-29), 3) := by decide +kernel
theorem dX1_bodyFor_47 : decode cX1_bodyFor 47 = .ok (.aload_n 1, 1) := by decide +kernel
theorem dX1_bodyFor_48 : decode cX1_bodyFor 48 = .ok (.iconst 0, 1) := by decide +kernel
theorem dX1_bodyFor_49 : decode cX1_bodyFor 49 = .ok (.iaload, 1) := by decide +kernel
theorem dX1_bodyFor_50 : decode cX1_bodyFor 50 = .ok (.ireturn, 1) := by decide +kernel
theorem dX1_sizeBy_0 : decode cX1_sizeBy 0 = .ok (.iload_n 2, 1) := by decide +kernel
theorem dX1_sizeBy_1 : decode cX1_sizeBy 1 = .ok (.bipush 12, 2) := by decide +kernel
theorem dX1_sizeBy_3 : decode cX1_sizeBy 3 = .ok (.if_icmp .le 5, 3) := by decide +kernel
theorem dX1_sizeBy_6 : decode cX1_sizeBy 6 = .ok (.iconst 0, 1) := by decide +kernel
theorem dX1_sizeBy_7 : decode cX1_sizeBy 7 = .ok (.ireturn, 1) := by decide +kernel
theorem dX1_sizeBy_8 : decode cX1_sizeBy 8 = .ok (.aload_n 0, 1) := by decide +kernel
theorem dX1_sizeBy_9 : decode cX1_sizeBy 9 = .ok (.iload_n 1, 1) := by decide +kernel
theorem dX1_sizeBy_10 : decode cX1_sizeBy 10 = .ok (.invokevirtual 58, 3) := by decide +kernel
theorem dX1_sizeBy_13 : decode cX1_sizeBy 13 = .ok (.iload_n 1, 1) := by decide +kernel
theorem dX1_sizeBy_14 : decode cX1_sizeBy 14 = .ok (.tableswitch 84 11 14 #[30, 48, 59, 72], 30) := by decide +kernel
theorem dX1_sizeBy_44 : decode cX1_sizeBy 44 = .ok (.aload_n 0, 1) := by decide +kernel
theorem dX1_sizeBy_45 : decode cX1_sizeBy 45 = .ok (.bipush 10, 2) := by decide +kernel
theorem dX1_sizeBy_47 : decode cX1_sizeBy 47 = .ok (.iload_n 2, 1) := by decide +kernel
theorem dX1_sizeBy_48 : decode cX1_sizeBy 48 = .ok (.iconst 1, 1) := by decide +kernel
theorem dX1_sizeBy_49 : decode cX1_sizeBy 49 = .ok (.iadd, 1) := by decide +kernel
theorem dX1_sizeBy_50 : decode cX1_sizeBy 50 = .ok (.invokevirtual 40, 3) := by decide +kernel
theorem dX1_sizeBy_53 : decode cX1_sizeBy 53 = .ok (.aload_n 0, 1) := by decide +kernel
theorem dX1_sizeBy_54 : decode cX1_sizeBy 54 = .ok (.iload_n 2, 1) := by decide +kernel
theorem dX1_sizeBy_55 : decode cX1_sizeBy 55 = .ok (.iconst 1, 1) := by decide +kernel
theorem dX1_sizeBy_56 : decode cX1_sizeBy 56 = .ok (.iadd, 1) := by decide +kernel
theorem dX1_sizeBy_57 : decode cX1_sizeBy 57 = .ok (.invokevirtual 30, 3) := by decide +kernel
theorem dX1_sizeBy_60 : decode cX1_sizeBy 60 = .ok (.iadd, 1) := by decide +kernel
theorem dX1_sizeBy_61 : decode cX1_sizeBy 61 = .ok (.ireturn, 1) := by decide +kernel
theorem dX1_sizeBy_62 : decode cX1_sizeBy 62 = .ok (.aload_n 0, 1) := by decide +kernel
theorem dX1_sizeBy_63 : decode cX1_sizeBy 63 = .ok (.bipush 11, 2) := by decide +kernel
theorem dX1_sizeBy_65 : decode cX1_sizeBy 65 = .ok (.iload_n 2, 1) := by decide +kernel
theorem dX1_sizeBy_66 : decode cX1_sizeBy 66 = .ok (.iconst 1, 1) := by decide +kernel
theorem dX1_sizeBy_67 : decode cX1_sizeBy 67 = .ok (.iadd, 1) := by decide +kernel
theorem dX1_sizeBy_68 : decode cX1_sizeBy 68 = .ok (.invokevirtual 40, 3) := by decide +kernel
theorem dX1_sizeBy_71 : decode cX1_sizeBy 71 = .ok (.ineg, 1) := by decide +kernel
theorem dX1_sizeBy_72 : decode cX1_sizeBy 72 = .ok (.ireturn, 1) := by decide +kernel
theorem dX1_sizeBy_73 : decode cX1_sizeBy 73 = .ok (.aload_n 0, 1) := by decide +kernel
theorem dX1_sizeBy_74 : decode cX1_sizeBy 74 = .ok (.bipush 10, 2) := by decide +kernel
theorem dX1_sizeBy_76 : decode cX1_sizeBy 76 = .ok (.iload_n 2, 1) := by decide +kernel
theorem dX1_sizeBy_77 : decode cX1_sizeBy 77 = .ok (.iconst 1, 1) := by decide +kernel
theorem dX1_sizeBy_78 : decode cX1_sizeBy 78 = .ok (.iadd, 1) := by decide +kernel
theorem dX1_sizeBy_79 : decode cX1_sizeBy 79 = .ok (.invokevirtual 40, 3) := by decide +kernel
theorem dX1_sizeBy_82 : decode cX1_sizeBy 82 = .ok (.bipush 100, 2) := by decide +kernel
theorem dX1_sizeBy_84 : decode cX1_sizeBy 84 = .ok (.isub, 1) := by decide +kernel
theorem dX1_sizeBy_85 : decode cX1_sizeBy 85 = .ok (.ireturn, 1) := by decide +kernel
theorem dX1_sizeBy_86 : decode cX1_sizeBy 86 = .ok (.iconst 2, 1) := by decide +kernel
theorem dX1_sizeBy_87 : decode cX1_sizeBy 87 = .ok (.aload_n 0, 1) := by decide +kernel
theorem dX1_sizeBy_88 : decode cX1_sizeBy 88 = .ok (.bipush 13, 2) := by decide +kernel
theorem dX1_sizeBy_90 : decode cX1_sizeBy 90 = .ok (.iload_n 2, 1) := by decide +kernel
theorem dX1_sizeBy_91 : decode cX1_sizeBy 91 = .ok (.iconst 1, 1) := by decide +kernel
theorem dX1_sizeBy_92 : decode cX1_sizeBy 92 = .ok (.iadd, 1) := by decide +kernel
theorem dX1_sizeBy_93 : decode cX1_sizeBy 93 = .ok (.invokevirtual 40, 3) := by decide +kernel
theorem dX1_sizeBy_96 : decode cX1_sizeBy 96 = .ok (.imul, 1) := by decide +kernel
theorem dX1_sizeBy_97 : decode cX1_sizeBy 97 = .ok (.ireturn, 1) := by decide +kernel
theorem dX1_sizeBy_98 : decode cX1_sizeBy 98 = .ok (.aload_n 0, 1) := by decide +kernel
theorem dX1_sizeBy_99 : decode cX1_sizeBy 99 = .ok (.getfield 15, 3) := by decide +kernel
theorem dX1_sizeBy_102 : decode cX1_sizeBy 102 = .ok (.getfield 62, 3) := by decide +kernel
theorem dX1_sizeBy_105 : decode cX1_sizeBy 105 = .ok (.aload_n 0, 1) := by decide +kernel
theorem dX1_sizeBy_106 : decode cX1_sizeBy 106 = .ok (.getfield 23, 3) := by decide +kernel
theorem dX1_sizeBy_109 : decode cX1_sizeBy 109 = .ok (.iaload, 1) := by decide +kernel
theorem dX1_sizeBy_110 : decode cX1_sizeBy 110 = .ok (.ireturn, 1) := by decide +kernel
theorem dX1_markBy_0 : decode cX1_markBy 0 = .ok (.iload_n 2, 1) := by decide +kernel
theorem dX1_markBy_1 : decode cX1_markBy 1 = .ok (.bipush 12, 2) := by decide +kernel
theorem dX1_markBy_3 : decode cX1_markBy 3 = .ok (.if_icmp .le 5, 3) := by decide +kernel
theorem dX1_markBy_6 : decode cX1_markBy 6 = .ok (.iconst 0, 1) := by decide +kernel
theorem dX1_markBy_7 : decode cX1_markBy 7 = .ok (.ireturn, 1) := by decide +kernel
theorem dX1_markBy_8 : decode cX1_markBy 8 = .ok (.aload_n 0, 1) := by decide +kernel
theorem dX1_markBy_9 : decode cX1_markBy 9 = .ok (.iload_n 1, 1) := by decide +kernel
theorem dX1_markBy_10 : decode cX1_markBy 10 = .ok (.invokevirtual 58, 3) := by decide +kernel
theorem dX1_markBy_13 : decode cX1_markBy 13 = .ok (.iload_n 1, 1) := by decide +kernel
theorem dX1_markBy_14 : decode cX1_markBy 14 = .ok (.tableswitch 97 21 24 #[30, 53, 67, 85], 30) := by decide +kernel
theorem dX1_markBy_44 : decode cX1_markBy 44 = .ok (.aload_n 0, 1) := by decide +kernel
theorem dX1_markBy_45 : decode cX1_markBy 45 = .ok (.bipush 20, 2) := by decide +kernel
theorem dX1_markBy_47 : decode cX1_markBy 47 = .ok (.iload_n 2, 1) := by decide +kernel
theorem dX1_markBy_48 : decode cX1_markBy 48 = .ok (.iconst 1, 1) := by decide +kernel
theorem dX1_markBy_49 : decode cX1_markBy 49 = .ok (.iadd, 1) := by decide +kernel
theorem dX1_markBy_50 : decode cX1_markBy 50 = .ok (.invokevirtual 47, 3) := by decide +kernel
theorem dX1_markBy_53 : decode cX1_markBy 53 = .ok (.aload_n 0, 1) := by decide +kernel
theorem dX1_markBy_54 : decode cX1_markBy 54 = .ok (.getfield 15, 3) := by decide +kernel
theorem dX1_markBy_57 : decode cX1_markBy 57 = .ok (.getfield 65, 3) := by decide +kernel
theorem dX1_markBy_60 : decode cX1_markBy 60 = .ok (.aload_n 0, 1) := by decide +kernel
theorem dX1_markBy_61 : decode cX1_markBy 61 = .ok (.getfield 23, 3) := by decide +kernel
theorem dX1_markBy_64 : decode cX1_markBy 64 = .ok (.iaload, 1) := by decide +kernel
theorem dX1_markBy_65 : decode cX1_markBy 65 = .ok (.iadd, 1) := by decide +kernel
theorem dX1_markBy_66 : decode cX1_markBy 66 = .ok (.ireturn, 1) := by decide +kernel
theorem dX1_markBy_67 : decode cX1_markBy 67 = .ok (.aload_n 0, 1) := by decide +kernel
theorem dX1_markBy_68 : decode cX1_markBy 68 = .ok (.bipush 21, 2) := by decide +kernel
theorem dX1_markBy_70 : decode cX1_markBy 70 = .ok (.iload_n 2, 1) := by decide +kernel
theorem dX1_markBy_71 : decode cX1_markBy 71 = .ok (.iconst 1, 1) := by decide +kernel
theorem dX1_markBy_72 : decode cX1_markBy 72 = .ok (.iadd, 1) := by decide +kernel
theorem dX1_markBy_73 : decode cX1_markBy 73 = .ok (.invokevirtual 47, 3) := by decide +kernel
theorem dX1_markBy_76 : decode cX1_markBy 76 = .ok (.sipush 1000, 3) := by decide +kernel
theorem dX1_markBy_79 : decode cX1_markBy 79 = .ok (.isub, 1) := by decide +kernel
theorem dX1_markBy_80 : decode cX1_markBy 80 = .ok (.ireturn, 1) := by decide +kernel
theorem dX1_markBy_81 : decode cX1_markBy 81 = .ok (.aload_n 0, 1) := by decide +kernel
theorem dX1_markBy_82 : decode cX1_markBy 82 = .ok (.bipush 20, 2) := by decide +kernel
theorem dX1_markBy_84 : decode cX1_markBy 84 = .ok (.iload_n 2, 1) := by decide +kernel
theorem dX1_markBy_85 : decode cX1_markBy 85 = .ok (.iconst 1, 1) := by decide +kernel
theorem dX1_markBy_86 : decode cX1_markBy 86 = .ok (.iadd, 1) := by decide +kernel
theorem dX1_markBy_87 : decode cX1_markBy 87 = .ok (.invokevirtual 47, 3) := by decide +kernel
theorem dX1_markBy_90 : decode cX1_markBy 90 = .ok (.aload_n 0, 1) := by decide +kernel
theorem dX1_markBy_91 : decode cX1_markBy 91 = .ok (.iload_n 2, 1) := by decide +kernel
theorem dX1_markBy_92 : decode cX1_markBy 92 = .ok (.iconst 1, 1) := by decide +kernel
theorem dX1_markBy_93 : decode cX1_markBy 93 = .ok (.iadd, 1) := by decide +kernel
theorem dX1_markBy_94 : decode cX1_markBy 94 = .ok (.invokevirtual 26, 3) := by decide +kernel
theorem dX1_markBy_97 : decode cX1_markBy 97 = .ok (.isub, 1) := by decide +kernel
theorem dX1_markBy_98 : decode cX1_markBy 98 = .ok (.ireturn, 1) := by decide +kernel
theorem dX1_markBy_99 : decode cX1_markBy 99 = .ok (.iconst 2, 1) := by decide +kernel
theorem dX1_markBy_100 : decode cX1_markBy 100 = .ok (.aload_n 0, 1) := by decide +kernel
theorem dX1_markBy_101 : decode cX1_markBy 101 = .ok (.bipush 21, 2) := by decide +kernel
theorem dX1_markBy_103 : decode cX1_markBy 103 = .ok (.iload_n 2, 1) := by decide +kernel
theorem dX1_markBy_104 : decode cX1_markBy 104 = .ok (.iconst 1, 1) := by decide +kernel
theorem dX1_markBy_105 : decode cX1_markBy 105 = .ok (.iadd, 1) := by decide +kernel
theorem dX1_markBy_106 : decode cX1_markBy 106 = .ok (.invokevirtual 47, 3) := by decide +kernel
theorem dX1_markBy_109 : decode cX1_markBy 109 = .ok (.imul, 1) := by decide +kernel
theorem dX1_markBy_110 : decode cX1_markBy 110 = .ok (.ireturn, 1) := by decide +kernel
theorem dX1_markBy_111 : decode cX1_markBy 111 = .ok (.aload_n 0, 1) := by decide +kernel
theorem dX1_markBy_112 : decode cX1_markBy 112 = .ok (.getfield 23, 3) := by decide +kernel
theorem dX1_markBy_115 : decode cX1_markBy 115 = .ok (.ireturn, 1) := by decide +kernel
theorem dX1_leaveNumber_0 : decode cX1_leaveNumber 0 = .ok (.aload_n 0, 1) := by decide +kernel
theorem dX1_leaveNumber_1 : decode cX1_leaveNumber 1 = .ok (.getfield 19, 3) := by decide +kernel
theorem dX1_leaveNumber_4 : decode cX1_leaveNumber 4 = .ok (.bipush 16, 2) := by decide +kernel
theorem dX1_leaveNumber_6 : decode cX1_leaveNumber 6 = .ok (.if_icmp .ge 23, 3) := by decide +kernel
theorem dX1_leaveNumber_9 : decode cX1_leaveNumber 9 = .ok (.aload_n 0, 1) := by decide +kernel
theorem dX1_leaveNumber_10 : decode cX1_leaveNumber 10 = .ok (.getfield 11, 3) := by decide +kernel
theorem dX1_leaveNumber_13 : decode cX1_leaveNumber 13 = .ok (.aload_n 0, 1) := by decide +kernel
theorem dX1_leaveNumber_14 : decode cX1_leaveNumber 14 = .ok (.getfield 19, 3) := by decide +kernel
theorem dX1_leaveNumber_17 : decode cX1_leaveNumber 17 = .ok (.iload_n 1, 1) := by decide +kernel
theorem dX1_leaveNumber_18 : decode cX1_leaveNumber 18 = .ok (.iastore, 1) := by decide +kernel
theorem dX1_leaveNumber_19 : decode cX1_leaveNumber 19 = .ok (.aload_n 0, 1) := by decide +kernel
theorem dX1_leaveNumber_20 : decode cX1_leaveNumber 20 = .ok (.dup, 1) := by decide +kernel
theorem dX1_leaveNumber_21 : decode cX1_leaveNumber 21 = .ok (.getfield 19, 3) := by decide +kernel
theorem dX1_leaveNumber_24 : decode cX1_leaveNumber 24 = .ok (.iconst 1, 1) := by decide +kernel
theorem dX1_leaveNumber_25 : decode cX1_leaveNumber 25 = .ok (.iadd, 1) := by decide +kernel
theorem dX1_leaveNumber_26 : decode cX1_leaveNumber 26 = .ok (.putfield 19, 3) := by decide +kernel
theorem dX1_leaveNumber_29 : decode cX1_leaveNumber 29 = .ok (.return_, 1) := by decide +kernel
