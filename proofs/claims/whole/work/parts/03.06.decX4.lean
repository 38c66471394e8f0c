theorem dX4_init_0 : decode cX4_init 0 = .ok (.aload_n 0, 1) := by decide +kernel
theorem dX4_init_1 : decode cX4_init 1 = .ok (.invokespecial 3, 3) := by decide +kernel
theorem dX4_init_4 : decode cX4_init 4 = .ok (.aload_n 0, 1) := by decide +kernel
theorem dX4_init_5 : decode cX4_init 5 = .ok (.bipush 6, 2) := by decide +kernel
theorem dX4_init_7 : decode cX4_init 7 = .ok (.newarray .int, 2) := by decide +kernel
theorem dX4_init_9 : decode cX4_init 9 = .ok (.putfield 9, 3) := by decide +kernel
theorem dX4_init_12 : decode cX4_init 12 = .ok (.aload_n 0, 1) := by decide +kernel
theorem dX4_init_13 : decode cX4_init 13 = .ok (.bipush 10, 2) := by decide +kernel
theorem dX4_init_15 : decode cX4_init 15 = .ok (.newarray .int, 2) := by decide +kernel
theorem dX4_init_17 : decode cX4_init 17 = .ok (.putfield 15, 3) := by decide +kernel
theorem dX4_init_20 : decode cX4_init 20 = .ok (.aload_n 0, 1) := by decide +kernel
theorem dX4_init_21 : decode cX4_init 21 = .ok (.bipush 20, 2) := by decide +kernel
theorem dX4_init_23 : decode cX4_init 23 = .ok (.newarray .int, 2) := by decide +kernel
theorem dX4_init_25 : decode cX4_init 25 = .ok (.putfield 18, 3) := by decide +kernel
theorem dX4_init_28 : decode cX4_init 28 = .ok (.aload_n 0, 1) := by decide +kernel
theorem dX4_init_29 : decode cX4_init 29 = .ok (.bipush 20, 2) := by decide +kernel
theorem dX4_init_31 : decode cX4_init 31 = .ok (.newarray .int, 2) := by decide +kernel
theorem dX4_init_33 : decode cX4_init 33 = .ok (.putfield 21, 3) := by decide +kernel
theorem dX4_init_36 : decode cX4_init 36 = .ok (.aload_n 0, 1) := by decide +kernel
theorem dX4_init_37 : decode cX4_init 37 = .ok (.bipush 20, 2) := by decide +kernel
theorem dX4_init_39 : decode cX4_init 39 = .ok (.newarray .int, 2) := by decide +kernel
theorem dX4_init_41 : decode cX4_init 41 = .ok (.putfield 24, 3) := by decide +kernel
theorem dX4_init_44 : decode cX4_init 44 = .ok (.return_, 1) := by decide +kernel
theorem dX4_beginAnew_0 : decode cX4_beginAnew 0 = .ok (.aload_n 0, 1) := by decide +kernel
theorem dX4_beginAnew_1 : decode cX4_beginAnew 1 = .ok (.iconst 1, 1) := by decide +kernel
theorem dX4_beginAnew_2 : decode cX4_beginAnew 2 = .ok (.putfield 27, 3) := by decide +kernel
theorem dX4_beginAnew_5 : decode cX4_beginAnew 5 = .ok (.aload_n 0, 1) := by decide +kernel
theorem dX4_beginAnew_6 : decode cX4_beginAnew 6 = .ok (.iconst 0, 1) := by decide +kernel
theorem dX4_beginAnew_7 : decode cX4_beginAnew 7 = .ok (.putfield 31, 3) := by decide +kernel
theorem dX4_beginAnew_10 : decode cX4_beginAnew 10 = .ok (.aload_n 0, 1) := by decide +kernel
theorem dX4_beginAnew_11 : decode cX4_beginAnew 11 = .ok (.iconst 0, 1) := by decide +kernel
theorem dX4_beginAnew_12 : decode cX4_beginAnew 12 = .ok (.putfield 35, 3) := by decide +kernel
theorem dX4_beginAnew_15 : decode cX4_beginAnew 15 = .ok (.aload_n 0, 1) := by decide +kernel
theorem dX4_beginAnew_16 : decode cX4_beginAnew 16 = .ok (.iconst 0, 1) := by decide +kernel
theorem dX4_beginAnew_17 : decode cX4_beginAnew 17 = .ok (.putfield 38, 3) := by decide +kernel
theorem dX4_beginAnew_20 : decode cX4_beginAnew 20 = .ok (.aload_n 0, 1) := by decide +kernel
theorem dX4_beginAnew_21 : decode cX4_beginAnew 21 = .ok (.iconst 0, 1) := by decide +kernel
theorem dX4_beginAnew_22 : decode cX4_beginAnew 22 = .ok (.putfield 41, 3) := by decide +kernel
theorem dX4_beginAnew_25 : decode cX4_beginAnew 25 = .ok (.iconst 0, 1) := by decide +kernel
theorem dX4_beginAnew_26 : decode cX4_beginAnew 26 = .ok (.istore_n 1, 1) := by decide +kernel
theorem dX4_beginAnew_27 : decode cX4_beginAnew 27 = .ok (.iload_n 1, 1) := by decide +kernel
theorem dX4_beginAnew_28 : decode cX4_beginAnew 28 = .ok (.bipush 10, 2) := by decide +kernel
theorem dX4_beginAnew_30 : decode cX4_beginAnew 30 = .ok (.if_icmp .ge 16, 3) := by decide +kernel
theorem dX4_beginAnew_33 : decode cX4_beginAnew 33 = .ok (.aload_n 0, 1) := by decide +kernel
theorem dX4_beginAnew_34 : decode cX4_beginAnew 34 = .ok (.getfield 15, 3) := by decide +kernel
theorem dX4_beginAnew_37 : decode cX4_beginAnew 37 = .ok (.iload_n 1, 1) := by decide +kernel
theorem dX4_beginAnew_38 : decode cX4_beginAnew 38 = .ok (.iload_n 1, 1) := by decide +kernel
theorem dX4_beginAnew_39 : decode cX4_beginAnew 39 = .ok (.iastore, 1) := by decide +kernel
theorem dX4_beginAnew_40 : decode cX4_beginAnew 40 = .ok (.iinc 1 1, 3) := by decide +kernel
theorem dX4_beginAnew_43 : decode cX4_beginAnew 43 = .ok (.goto (-16), 3) := by decide +kernel
theorem dX4_beginAnew_46 : decode cX4_beginAnew 46 = .ok (.return_, 1) := by decide +kernel
theorem dX4_becomeLike_0 : decode cX4_becomeLike 0 = .ok (.aload_n 0, 1) := by decide +kernel
theorem dX4_becomeLike_1 : decode cX4_becomeLike 1 = .ok (.aload_n 1, 1) := by decide +kernel
theorem dX4_becomeLike_2 : decode cX4_becomeLike 2 = .ok (.getfield 27, 3) := by decide +kernel
theorem dX4_becomeLike_5 : decode cX4_becomeLike 5 = .ok (.putfield 27, 3) := by decide +kernel
theorem dX4_becomeLike_8 : decode cX4_becomeLike 8 = .ok (.aload_n 0, 1) := by decide +kernel
theorem dX4_becomeLike_9 : decode cX4_becomeLike 9 = .ok (.aload_n 1, 1) := by decide +kernel
theorem dX4_becomeLike_10 : decode cX4_becomeLike 10 = .ok (.getfield 31, 3) := by decide +kernel
theorem dX4_becomeLike_13 : decode cX4_becomeLike 13 = .ok (.putfield 31, 3) := by decide +kernel
theorem dX4_becomeLike_16 : decode cX4_becomeLike 16 = .ok (.aload_n 0, 1) := by decide +kernel
theorem dX4_becomeLike_17 : decode cX4_becomeLike 17 = .ok (.aload_n 1, 1) := by decide +kernel
theorem dX4_becomeLike_18 : decode cX4_becomeLike 18 = .ok (.getfield 35, 3) := by decide +kernel
theorem dX4_becomeLike_21 : decode cX4_becomeLike 21 = .ok (.putfield 35, 3) := by decide +kernel
theorem dX4_becomeLike_24 : decode cX4_becomeLike 24 = .ok (.aload_n 0, 1) := by decide +kernel
theorem dX4_becomeLike_25 : decode cX4_becomeLike 25 = .ok (.aload_n 1, 1) := by decide +kernel
theorem dX4_becomeLike_26 : decode cX4_becomeLike 26 = .ok (.getfield 38, 3) := by decide +kernel
theorem dX4_becomeLike_29 : decode cX4_becomeLike 29 = .ok (.putfield 38, 3) := by decide +kernel
theorem dX4_becomeLike_32 : decode cX4_becomeLike 32 = .ok (.aload_n 0, 1) := by decide +kernel
theorem dX4_becomeLike_33 : decode cX4_becomeLike 33 = .ok (.aload_n 1, 1) := by decide +kernel
theorem dX4_becomeLike_34 : decode cX4_becomeLike 34 = .ok (.getfield 41, 3) := by decide +kernel
theorem dX4_becomeLike_37 : decode cX4_becomeLike 37 = .ok (.putfield 41, 3) := by decide +kernel
theorem dX4_becomeLike_40 : decode cX4_becomeLike 40 = .ok (.aload_n 1, 1) := by decide +kernel
theorem dX4_becomeLike_41 : decode cX4_becomeLike 41 = .ok (.getfield 9, 3) := by decide +kernel
theorem dX4_becomeLike_44 : decode cX4_becomeLike 44 = .ok (.iconst 0, 1) := by decide +kernel
theorem dX4_becomeLike_45 : decode cX4_becomeLike 45 = .ok (.aload_n 0, 1) := by decide +kernel
theorem dX4_becomeLike_46 : decode cX4_becomeLike 46 = .ok (.getfield 9, 3) := by decide +kernel
theorem dX4_becomeLike_49 : decode cX4_becomeLike 49 = .ok (.iconst 0, 1) := by decide +kernel
theorem dX4_becomeLike_50 : decode cX4_becomeLike 50 = .ok (.bipush 6, 2) := by decide +kernel
theorem dX4_becomeLike_52 : decode cX4_becomeLike 52 = .ok (.invokestatic 44, 3) := by decide +kernel
theorem dX4_becomeLike_55 : decode cX4_becomeLike 55 = .ok (.aload_n 1, 1) := by decide +kernel
theorem dX4_becomeLike_56 : decode cX4_becomeLike 56 = .ok (.getfield 15, 3) := by decide +kernel
theorem dX4_becomeLike_59 : decode cX4_becomeLike 59 = .ok (.iconst 0, 1) := by decide +kernel
theorem dX4_becomeLike_60 : decode cX4_becomeLike 60 = .ok (.aload_n 0, 1) := by decide +kernel
theorem dX4_becomeLike_61 : decode cX4_becomeLike 61 = .ok (.getfield 15, 3) := by decide +kernel
theorem dX4_becomeLike_64 : decode cX4_becomeLike 64 = .ok (.iconst 0, 1) := by decide +kernel
theorem dX4_becomeLike_65 : decode cX4_becomeLike 65 = .ok (.bipush 10, 2) := by decide +kernel
theorem dX4_becomeLike_67 : decode cX4_becomeLike 67 = .ok (.invokestatic 44, 3) := by decide +kernel
theorem dX4_becomeLike_70 : decode cX4_becomeLike 70 = .ok (.aload_n 1, 1) := by decide +kernel
theorem dX4_becomeLike_71 : decode cX4_becomeLike 71 = .ok (.getfield 18, 3) := by decide +kernel
theorem dX4_becomeLike_74 : decode cX4_becomeLike 74 = .ok (.iconst 0, 1) := by decide +kernel
theorem dX4_becomeLike_75 : decode cX4_becomeLike 75 = .ok (.aload_n 0, 1) := by decide +kernel
theorem dX4_becomeLike_76 : decode cX4_becomeLike 76 = .ok (.getfield 18, 3) := by decide +kernel
theorem dX4_becomeLike_79 : decode cX4_becomeLike 79 = .ok (.iconst 0, 1) := by decide +kernel
theorem dX4_becomeLike_80 : decode cX4_becomeLike 80 = .ok (.bipush 20, 2) := by decide +kernel
theorem dX4_becomeLike_82 : decode cX4_becomeLike 82 = .ok (.invokestatic 44, 3) := by decide +kernel
theorem dX4_becomeLike_85 : decode cX4_becomeLike 85 = .ok (.aload_n 1, 1) := by decide +kernel
theorem dX4_becomeLike_86 : decode cX4_becomeLike 86 = .ok (.getfield 21, 3) := by decide +kernel
theorem dX4_becomeLike_89 : decode cX4_becomeLike 89 = .ok (.iconst 0, 1) := by decide +kernel
theorem dX4_becomeLike_90 : decode cX4_becomeLike 90 = .ok (.aload_n 0, 1) := by decide +kernel
theorem dX4_becomeLike_91 : decode cX4_becomeLike 91 = .ok (.getfield 21, 3) := by decide +kernel
theorem dX4_becomeLike_94 : decode cX4_becomeLike 94 = .ok (.iconst 0, 1) := by decide +kernel
theorem dX4_becomeLike_95 : decode cX4_becomeLike 95 = .ok (.bipush 20, 2) := by decide +kernel
theorem dX4_becomeLike_97 : decode cX4_becomeLike 97 = .ok (.invokestatic 44, 3) := by decide +kernel
theorem dX4_becomeLike_100 : decode cX4_becomeLike 100 = .ok (.aload_n 1, 1) := by decide +kernel
theorem dX4_becomeLike_101 : decode cX4_becomeLike 101 = .ok (.getfield 24, 3) := by decide +kernel
theorem dX4_becomeLike_104 : decode cX4_becomeLike 104 = .ok (.iconst 0, 1) := by decide +kernel
theorem dX4_becomeLike_105 : decode cX4_becomeLike 105 = .ok (.aload_n 0, 1) := by decide +kernel
theorem dX4_becomeLike_106 : decode cX4_becomeLike 106 = .ok (.getfield 24, 3) := by decide +kernel
theorem dX4_becomeLike_109 : decode cX4_becomeLike 109 = .ok (.iconst 0, 1) := by decide +kernel
theorem dX4_becomeLike_110 : decode cX4_becomeLike 110 = .ok (.bipush 20, 2) := by decide +kernel
theorem dX4_becomeLike_112 : decode cX4_becomeLike 112 = .ok (.invokestatic 44, 3) := by decide +kernel
theorem dX4_becomeLike_115 : decode cX4_becomeLike 115 = .ok (.return_, 1) := by decide +kernel
theorem dX4_putGift_0 : decode cX4_putGift 0 = .ok (.aload_n 0, 1) := by decide +kernel
theorem dX4_putGift_1 : decode cX4_putGift 1 = .ok (.getfield 41, 3) := by decide +kernel
theorem dX4_putGift_4 : decode cX4_putGift 4 = .ok (.istore 5, 2) := by decide +kernel
theorem dX4_putGift_6 : decode cX4_putGift 6 = .ok (.iload 5, 2) := by decide +kernel
theorem dX4_putGift_8 : decode cX4_putGift 8 = .ok (.iload_n 1, 1) := by decide +kernel
theorem dX4_putGift_9 : decode cX4_putGift 9 = .ok (.if_icmp .le 57, 3) := by decide +kernel
theorem dX4_putGift_12 : decode cX4_putGift 12 = .ok (.aload_n 0, 1) := by decide +kernel
theorem dX4_putGift_13 : decode cX4_putGift 13 = .ok (.getfield 18, 3) := by decide +kernel
theorem dX4_putGift_16 : decode cX4_putGift 16 = .ok (.iload 5, 2) := by decide +kernel
theorem dX4_putGift_18 : decode cX4_putGift 18 = .ok (.aload_n 0, 1) := by decide +kernel
theorem dX4_putGift_19 : decode cX4_putGift 19 = .ok (.getfield 18, 3) := by decide +kernel
theorem dX4_putGift_22 : decode cX4_putGift 22 = .ok (.iload 5, 2) := by decide +kernel
theorem dX4_putGift_24 : decode cX4_putGift 24 = .ok (.iconst 1, 1) := by decide +kernel
theorem dX4_putGift_25 : decode cX4_putGift 25 = .ok (.isub, 1) := by decide +kernel
theorem dX4_putGift_26 : decode cX4_putGift 26 = .ok (.iaload, 1) := by decide +kernel
theorem dX4_putGift_27 : decode cX4_putGift 27 = .ok (.iastore, 1) := by decide +kernel
theorem dX4_putGift_28 : decode cX4_putGift 28 = .ok (.aload_n 0, 1) := by decide +kernel
theorem dX4_putGift_29 : decode cX4_putGift 29 = .ok (.getfield 21, 3) := by decide +kernel
theorem dX4_putGift_32 : decode cX4_putGift 32 = .ok (.iload 5, 2) := by decide +kernel
theorem dX4_putGift_34 : decode cX4_putGift 34 = .ok (.aload_n 0, 1) := by decide +kernel
theorem dX4_putGift_35 : decode cX4_putGift 35 = .ok (.getfield 21, 3) := by decide +kernel
theorem dX4_putGift_38 : decode cX4_putGift 38 = .ok (.iload 5, 2) := by decide +kernel
theorem dX4_putGift_40 : decode cX4_putGift 40 = .ok (.iconst 1, 1) := by decide +kernel
theorem dX4_putGift_41 : decode cX4_putGift 41 = .ok (.isub, 1) := by decide +kernel
theorem dX4_putGift_42 : decode cX4_putGift 42 = .ok (.iaload, 1) := by decide +kernel
theorem dX4_putGift_43 : decode cX4_putGift 43 = .ok (.iastore, 1) := by decide +kernel
theorem dX4_putGift_44 : decode cX4_putGift 44 = .ok (.aload_n 0, 1) := by decide +kernel
theorem dX4_putGift_45 : decode cX4_putGift 45 = .ok (.getfield 24, 3) := by decide +kernel
theorem dX4_putGift_48 : decode cX4_putGift 48 = .ok (.iload 5, 2) := by decide +kernel
theorem dX4_putGift_50 : decode cX4_putGift 50 = .ok (.aload_n 0, 1) := by decide +kernel
theorem dX4_putGift_51 : decode cX4_putGift 51 = .ok (.getfield 24, 3) := by decide +kernel
theorem dX4_putGift_54 : decode cX4_putGift 54 = .ok (.iload 5, 2) := by decide +kernel
theorem dX4_putGift_56 : decode cX4_putGift 56 = .ok (.iconst 1, 1) := by decide +kernel
theorem dX4_putGift_57 : decode cX4_putGift 57 = .ok (.isub, 1) := by decide +kernel
theorem dX4_putGift_58 : decode cX4_putGift 58 = .ok (.iaload, 1) := by decide +kernel
theorem dX4_putGift_59 : decode cX4_putGift 59 = .ok (.iastore, 1) := by decide +kernel
theorem dX4_putGift_60 : decode cX4_putGift 60 = .ok (.iinc 5 (-1), 3) := by decide +kernel
theorem dX4_putGift_63 : decode cX4_putGift 63 = .ok (.goto (-57), 3) := by decide +kernel
theorem dX4_putGift_66 : decode cX4_putGift 66 = .ok (.aload_n 0, 1) := by decide +kernel
theorem dX4_putGift_67 : decode cX4_putGift 67 = .ok (.getfield 18, 3) := by decide +kernel
theorem dX4_putGift_70 : decode cX4_putGift 70 = .ok (.iload_n 1, 1) := by decide +kernel
theorem dX4_putGift_71 : decode cX4_putGift 71 = .ok (.iload_n 2, 1) := by decide +kernel
theorem dX4_putGift_72 : decode cX4_putGift 72 = .ok (.iastore, 1) := by decide +kernel
theorem dX4_putGift_73 : decode cX4_putGift 73 = .ok (.aload_n 0, 1) := by decide +kernel
theorem dX4_putGift_74 : decode cX4_putGift 74 = .ok (.getfield 21, 3) := by decide +kernel
theorem dX4_putGift_77 : decode cX4_putGift 77 = .ok (.iload_n 1, 1) := by decide +kernel
theorem dX4_putGift_78 : decode cX4_putGift 78 = .ok (.iload_n 3, 1) := by decide +kernel
theorem dX4_putGift_79 : decode cX4_putGift 79 = .ok (.iastore, 1) := by decide +kernel
theorem dX4_putGift_80 : decode cX4_putGift 80 = .ok (.aload_n 0, 1) := by decide +kernel
theorem dX4_putGift_81 : decode cX4_putGift 81 = .ok (.getfield 24, 3) := by decide +kernel
theorem dX4_putGift_84 : decode cX4_putGift 84 = .ok (.iload_n 1, 1) := by decide +kernel
theorem dX4_putGift_85 : decode cX4_putGift 85 = .ok (.iload 4, 2) := by decide +kernel
theorem dX4_putGift_87 : decode cX4_putGift 87 = .ok (.iastore, 1) := by decide +kernel
theorem dX4_putGift_88 : decode cX4_putGift 88 = .ok (.aload_n 0, 1) := by decide +kernel
theorem dX4_putGift_89 : decode cX4_putGift 89 = .ok (.dup, 1) := by decide +kernel
theorem dX4_putGift_90 : decode cX4_putGift 90 = .ok (.getfield 41, 3) := by decide +kernel
theorem dX4_putGift_93 : decode cX4_putGift 93 = .ok (.iconst 1, 1) := by decide +kernel
theorem dX4_putGift_94 : decode cX4_putGift 94 = .ok (.iadd, 1) := by decide +kernel
theorem dX4_putGift_95 : decode cX4_putGift 95 = .ok (.putfield 41, 3) := by decide +kernel
theorem dX4_putGift_98 : decode cX4_putGift 98 = .ok (.return_, 1) := by decide +kernel
theorem dX4_takeGift_0 : decode cX4_takeGift 0 = .ok (.aload_n 0, 1) := by decide +kernel
theorem dX4_takeGift_1 : decode cX4_takeGift 1 = .ok (.dup, 1) := by decide +kernel
theorem dX4_takeGift_2 : decode cX4_takeGift 2 = .ok (.getfield 41, 3) := by decide +kernel
theorem dX4_takeGift_5 : decode cX4_takeGift 5 = .ok (.iconst 1, 1) := by decide +kernel
theorem dX4_takeGift_6 : decode cX4_takeGift 6 = .ok (.isub, 1) := by decide +kernel
theorem dX4_takeGift_7 : decode cX4_takeGift 7 = .ok (.putfield 41, 3) := by decide +kernel
theorem dX4_takeGift_10 : decode cX4_takeGift 10 = .ok (.iload_n 1, 1) := by decide +kernel
theorem dX4_takeGift_11 : decode cX4_takeGift 11 = .ok (.istore_n 2, 1) := by decide +kernel
theorem dX4_takeGift_12 : decode cX4_takeGift 12 = .ok (.iload_n 2, 1) := by decide +kernel
theorem dX4_takeGift_13 : decode cX4_takeGift 13 = .ok (.aload_n 0, 1) := by decide +kernel
theorem dX4_takeGift_14 : decode cX4_takeGift 14 = .ok (.getfield 41, 3) := by decide +kernel
theorem dX4_takeGift_17 : decode cX4_takeGift 17 = .ok (.if_icmp .ge 51, 3) := by decide +kernel
theorem dX4_takeGift_20 : decode cX4_takeGift 20 = .ok (.aload_n 0, 1) := by decide +kernel
theorem dX4_takeGift_21 : decode cX4_takeGift 21 = .ok (.getfield 18, 3) := by decide +kernel
theorem dX4_takeGift_24 : decode cX4_takeGift 24 = .ok (.iload_n 2, 1) := by decide +kernel
theorem dX4_takeGift_25 : decode cX4_takeGift 25 = .ok (.aload_n 0, 1) := by decide +kernel
theorem dX4_takeGift_26 : decode cX4_takeGift 26 = .ok (.getfield 18, 3) := by decide +kernel
theorem dX4_takeGift_29 : decode cX4_takeGift 29 = .ok (.iload_n 2, 1) := by decide +kernel
theorem dX4_takeGift_30 : decode cX4_takeGift 30 = .ok (.iconst 1, 1) := by decide +kernel
theorem dX4_takeGift_31 : decode cX4_takeGift 31 = .ok (.iadd, 1) := by decide +kernel
theorem dX4_takeGift_32 : decode cX4_takeGift 32 = .ok (.iaload, 1) := by decide +kernel
theorem dX4_takeGift_33 : decode cX4_takeGift 33 = .ok (.iastore, 1) := by decide +kernel
theorem dX4_takeGift_34 : decode cX4_takeGift 34 = .ok (.aload_n 0, 1) := by decide +kernel
theorem dX4_takeGift_35 : decode cX4_takeGift 35 = .ok (.getfield 21, 3) := by decide +kernel
theorem dX4_takeGift_38 : decode cX4_takeGift 38 = .ok (.iload_n 2, 1) := by decide +kernel
theorem dX4_takeGift_39 : decode cX4_takeGift 39 = .ok (.aload_n 0, 1) := by decide +kernel
theorem dX4_takeGift_40 : decode cX4_takeGift 40 = .ok (.getfield 21, 3) := by decide +kernel
theorem dX4_takeGift_43 : decode cX4_takeGift 43 = .ok (.iload_n 2, 1) := by decide +kernel
theorem dX4_takeGift_44 : decode cX4_takeGift 44 = .ok (.iconst 1, 1) := by decide +kernel
theorem dX4_takeGift_45 : decode cX4_takeGift 45 = .ok (.iadd, 1) := by decide +kernel
theorem dX4_takeGift_46 : decode cX4_takeGift 46 = .ok (.iaload, 1) := by decide +kernel
theorem dX4_takeGift_47 : decode cX4_takeGift 47 = .ok (.iastore, 1) := by decide +kernel
theorem dX4_takeGift_48 : decode cX4_takeGift 48 = .ok (.aload_n 0, 1) := by decide +kernel
theorem dX4_takeGift_49 : decode cX4_takeGift 49 = .ok (.getfield 24, 3) := by decide +kernel
theorem dX4_takeGift_52 : decode cX4_takeGift 52 = .ok (.iload_n 2, 1) := by decide +kernel
theorem dX4_takeGift_53 : decode cX4_takeGift 53 = .ok (.aload_n 0, 1) := by decide +kernel
theorem dX4_takeGift_54 : decode cX4_takeGift 54 = .ok (.getfield 24, 3) := by decide +kernel
theorem dX4_takeGift_57 : decode cX4_takeGift 57 = .ok (.iload_n 2, 1) := by decide +kernel
theorem dX4_takeGift_58 : decode cX4_takeGift 58 = .ok (.iconst 1, 1) := by decide +kernel
theorem dX4_takeGift_59 : decode cX4_takeGift 59 = .ok (.iadd, 1) := by decide +kernel
theorem dX4_takeGift_60 : decode cX4_takeGift 60 = .ok (.iaload, 1) := by decide +kernel
theorem dX4_takeGift_61 : decode cX4_takeGift 61 = .ok (.iastore, 1) := by decide +kernel
theorem dX4_takeGift_62 : decode cX4_takeGift 62 = .ok (.iinc 2 1, 3) := by decide +kernel
theorem dX4_takeGift_65 : decode cX4_takeGift 65 = .ok (.goto (-53), 3) := by decide +kernel
theorem dX4_takeGift_68 : decode cX4_takeGift 68 = .ok (.return_, 1) := by decide +kernel
theorem dX4_giversNamed_0 : decode cX4_giversNamed 0 = .ok (.iconst 0, 1) := by decide +kernel
theorem dX4_giversNamed_1 : decode cX4_giversNamed 1 = .ok (.istore_n 2, 1) := by decide +kernel
theorem dX4_giversNamed_2 : decode cX4_giversNamed 2 = .ok (.iconst 0, 1) := by decide +kernel
theorem dX4_giversNamed_3 : decode cX4_giversNamed 3 = .ok (.istore_n 3, 1) := by decide +kernel
theorem dX4_giversNamed_4 : decode cX4_giversNamed 4 = .ok (.iload_n 3, 1) := by decide +kernel
theorem dX4_giversNamed_5 : decode cX4_giversNamed 5 = .ok (.bipush 10, 2) := by decide +kernel
theorem dX4_giversNamed_7 : decode cX4_giversNamed 7 = .ok (.if_icmp .ge 25, 3) := by decide +kernel
theorem dX4_giversNamed_10 : decode cX4_giversNamed 10 = .ok (.aload_n 0, 1) := by decide +kernel
theorem dX4_giversNamed_11 : decode cX4_giversNamed 11 = .ok (.getfield 15, 3) := by decide +kernel
theorem dX4_giversNamed_14 : decode cX4_giversNamed 14 = .ok (.iload_n 3, 1) := by decide +kernel
theorem dX4_giversNamed_15 : decode cX4_giversNamed 15 = .ok (.iaload, 1) := by decide +kernel
theorem dX4_giversNamed_16 : decode cX4_giversNamed 16 = .ok (.iload_n 1, 1) := by decide +kernel
theorem dX4_giversNamed_17 : decode cX4_giversNamed 17 = .ok (.if_icmp .ne 9, 3) := by decide +kernel
theorem dX4_giversNamed_20 : decode cX4_giversNamed 20 = .ok (.iload_n 2, 1) := by decide +kernel
theorem dX4_giversNamed_21 : decode cX4_giversNamed 21 = .ok (.iconst 1, 1) := by decide +kernel
theorem dX4_giversNamed_22 : decode cX4_giversNamed 22 = .ok (.iload_n 3, 1) := by decide +kernel
theorem dX4_giversNamed_23 : decode cX4_giversNamed 23 = .ok (.ishl, 1) := by decide +kernel
theorem dX4_giversNamed_24 : decode cX4_giversNamed 24 = .ok (.ior, 1) := by decide +kernel
theorem dX4_giversNamed_25 : decode cX4_giversNamed 25 = .ok (.istore_n 2, 1) := by decide +kernel
theorem dX4_giversNamed_26 : decode cX4_giversNamed 26 = .ok (.iinc 3 1, 3) := by decide +kernel
theorem dX4_giversNamed_29 : decode cX4_giversNamed 29 = .ok (.goto (-25), 3) := by decide +kernel
theorem dX4_giversNamed_32 : decode cX4_giversNamed 32 = .ok (.iload_n 2, 1) := by decide +kernel
theorem dX4_giversNamed_33 : decode cX4_giversNamed 33 = .ok (.ireturn, 1) := by decide +kernel
theorem dX4_rename_0 : decode cX4_rename 0 = .ok (.iconst 0, 1) := by decide +kernel
theorem dX4_rename_1 : decode cX4_rename 1 = .ok (.istore_n 3, 1) := by decide +kernel
theorem dX4_rename_2 : decode cX4_rename 2 = .ok (.iload_n 3, 1) := by decide +kernel
theorem dX4_rename_3 : decode cX4_rename 3 = .ok (.bipush 10, 2) := by decide +kernel
theorem dX4_rename_5 : decode cX4_rename 5 = .ok (.if_icmp .ge 25, 3) := by decide +kernel
theorem dX4_rename_8 : decode cX4_rename 8 = .ok (.iload_n 1, 1) := by decide +kernel
theorem dX4_rename_9 : decode cX4_rename 9 = .ok (.iload_n 3, 1) := by decide +kernel
theorem dX4_rename_10 : decode cX4_rename 10 = .ok (.ishr, 1) := by decide +kernel
theorem dX4_rename_11 : decode cX4_rename 11 = .ok (.iconst 1, 1) := by decide +kernel
theorem dX4_rename_12 : decode cX4_rename 12 = .ok (.iand, 1) := by decide +kernel
theorem dX4_rename_13 : decode cX4_rename 13 = .ok (.iconst 1, 1) := by decide +kernel
theorem dX4_rename_14 : decode cX4_rename 14 = .ok (.if_icmp .ne 10, 3) := by decide +kernel
theorem dX4_rename_17 : decode cX4_rename 17 = .ok (.aload_n 0, 1) := by decide +kernel
theorem dX4_rename_18 : decode cX4_rename 18 = .ok (.getfield 15, 3) := by decide +kernel
theorem dX4_rename_21 : decode cX4_rename 21 = .ok (.iload_n 3, 1) := by decide +kernel
theorem dX4_rename_22 : decode cX4_rename 22 = .ok (.iload_n 2, 1) := by decide +kernel
theorem dX4_rename_23 : decode cX4_rename 23 = .ok (.iastore, 1) := by decide +kernel
theorem dX4_rename_24 : decode cX4_rename 24 = .ok (.iinc 3 1, 3) := by decide +kernel
theorem dX4_rename_27 : decode cX4_rename 27 = .ok (.goto (-25), 3) := by decide +kernel
theorem dX4_rename_30 : decode cX4_rename 30 = .ok (.return_, 1) := by decide +kernel
theorem dX4_allCoins_0 : decode cX4_allCoins 0 = .ok (.iconst 0, 1) := by decide +kernel
theorem dX4_allCoins_1 : decode cX4_allCoins 1 = .ok (.istore_n 1, 1) := by decide +kernel
theorem dX4_allCoins_2 : decode cX4_allCoins 2 = .ok (.iconst 0, 1) := by decide +kernel
theorem dX4_allCoins_3 : decode cX4_allCoins 3 = .ok (.istore_n 2, 1) := by decide +kernel
theorem dX4_allCoins_4 : decode cX4_allCoins 4 = .ok (.iload_n 2, 1) := by decide +kernel
theorem dX4_allCoins_5 : decode cX4_allCoins 5 = .ok (.aload_n 0, 1) := by decide +kernel
theorem dX4_allCoins_6 : decode cX4_allCoins 6 = .ok (.getfield 41, 3) := by decide +kernel
theorem dX4_allCoins_9 : decode cX4_allCoins 9 = .ok (.if_icmp .ge 18, 3) := by decide +kernel
theorem dX4_allCoins_12 : decode cX4_allCoins 12 = .ok (.iload_n 1, 1) := by decide +kernel
theorem dX4_allCoins_13 : decode cX4_allCoins 13 = .ok (.aload_n 0, 1) := by decide +kernel
theorem dX4_allCoins_14 : decode cX4_allCoins 14 = .ok (.getfield 24, 3) := by decide +kernel
theorem dX4_allCoins_17 : decode cX4_allCoins 17 = .ok (.iload_n 2, 1) := by decide +kernel
theorem dX4_allCoins_18 : decode cX4_allCoins 18 = .ok (.iaload, 1) := by decide +kernel
theorem dX4_allCoins_19 : decode cX4_allCoins 19 = .ok (.iadd, 1) := by decide +kernel
theorem dX4_allCoins_20 : decode cX4_allCoins 20 = .ok (.istore_n 1, 1) := by decide +kernel
theorem dX4_allCoins_21 : decode cX4_allCoins 21 = .ok (.iinc 2 1, 3) := by decide +kernel
theorem dX4_allCoins_24 : decode cX4_allCoins 24 = .ok (.goto (-20), 3) := by decide +kernel
theorem dX4_allCoins_27 : decode cX4_allCoins 27 = .ok (.iload_n 1, 1) := by decide +kernel
theorem dX4_allCoins_28 : decode cX4_allCoins 28 = .ok (.ireturn, 1) := by decide +kernel
