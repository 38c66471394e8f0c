theorem dX6_init_0 : decode cX6_init 0 = .ok (.aload_n 0, 1) := by decide +kernel
theorem dX6_init_1 : decode cX6_init 1 = .ok (.invokespecial 3, 3) := by decide +kernel
theorem dX6_init_4 : decode cX6_init 4 = .ok (.aload_n 0, 1) := by decide +kernel
theorem dX6_init_5 : decode cX6_init 5 = .ok (.sipush 130, 3) := by decide +kernel
theorem dX6_init_8 : decode cX6_init 8 = .ok (.newarray .int, 2) := by decide +kernel
theorem dX6_init_10 : decode cX6_init 10 = .ok (.putfield 11, 3) := by decide +kernel
theorem dX6_init_13 : decode cX6_init 13 = .ok (.return_, 1) := by decide +kernel
theorem dX6_append_0 : decode cX6_append 0 = .ok (.aload_n 0, 1) := by decide +kernel
theorem dX6_append_1 : decode cX6_append 1 = .ok (.getfield 15, 3) := by decide +kernel
theorem dX6_append_4 : decode cX6_append 4 = .ok (.sipush 130, 3) := by decide +kernel
theorem dX6_append_7 : decode cX6_append 7 = .ok (.if_icmp .lt 5, 3) := by decide +kernel
theorem dX6_append_10 : decode cX6_append 10 = .ok (.iconst 0, 1) := by decide +kernel
theorem dX6_append_11 : decode cX6_append 11 = .ok (.ireturn, 1) := by decide +kernel
theorem dX6_append_12 : decode cX6_append 12 = .ok (.aload_n 0, 1) := by decide +kernel
theorem dX6_append_13 : decode cX6_append 13 = .ok (.getfield 11, 3) := by decide +kernel
theorem dX6_append_16 : decode cX6_append 16 = .ok (.aload_n 0, 1) := by decide +kernel
theorem dX6_append_17 : decode cX6_append 17 = .ok (.getfield 15, 3) := by decide +kernel
theorem dX6_append_20 : decode cX6_append 20 = .ok (.iload_n 1, 1) := by decide +kernel
theorem dX6_append_21 : decode cX6_append 21 = .ok (.iastore, 1) := by decide +kernel
theorem dX6_append_22 : decode cX6_append 22 = .ok (.aload_n 0, 1) := by decide +kernel
theorem dX6_append_23 : decode cX6_append 23 = .ok (.dup, 1) := by decide +kernel
theorem dX6_append_24 : decode cX6_append 24 = .ok (.getfield 15, 3) := by decide +kernel
theorem dX6_append_27 : decode cX6_append 27 = .ok (.iconst 1, 1) := by decide +kernel
theorem dX6_append_28 : decode cX6_append 28 = .ok (.iadd, 1) := by decide +kernel
theorem dX6_append_29 : decode cX6_append 29 = .ok (.putfield 15, 3) := by decide +kernel
theorem dX6_append_32 : decode cX6_append 32 = .ok (.iconst 1, 1) := by decide +kernel
theorem dX6_append_33 : decode cX6_append 33 = .ok (.ireturn, 1) := by decide +kernel
theorem dX6_readInto_0 : decode cX6_readInto 0 = .ok (.aload_n 0, 1) := by decide +kernel
theorem dX6_readInto_1 : decode cX6_readInto 1 = .ok (.iconst 0, 1) := by decide +kernel
theorem dX6_readInto_2 : decode cX6_readInto 2 = .ok (.putfield 19, 3) := by decide +kernel
theorem dX6_readInto_5 : decode cX6_readInto 5 = .ok (.aload_n 1, 1) := by decide +kernel
theorem dX6_readInto_6 : decode cX6_readInto 6 = .ok (.invokevirtual 22, 3) := by decide +kernel
theorem dX6_readInto_9 : decode cX6_readInto 9 = .ok (.aload_n 0, 1) := by decide +kernel
theorem dX6_readInto_10 : decode cX6_readInto 10 = .ok (.aload_n 1, 1) := by decide +kernel
theorem dX6_readInto_11 : decode cX6_readInto 11 = .ok (.invokevirtual 27, 3) := by decide +kernel
theorem dX6_readInto_14 : decode cX6_readInto 14 = .ok (.ifCond .eq 23, 3) := by decide +kernel
theorem dX6_readInto_17 : decode cX6_readInto 17 = .ok (.aload_n 0, 1) := by decide +kernel
theorem dX6_readInto_18 : decode cX6_readInto 18 = .ok (.aload_n 1, 1) := by decide +kernel
theorem dX6_readInto_19 : decode cX6_readInto 19 = .ok (.invokevirtual 31, 3) := by decide +kernel
theorem dX6_readInto_22 : decode cX6_readInto 22 = .ok (.ifCond .eq 15, 3) := by decide +kernel
theorem dX6_readInto_25 : decode cX6_readInto 25 = .ok (.aload_n 0, 1) := by decide +kernel
theorem dX6_readInto_26 : decode cX6_readInto 26 = .ok (.aload_n 1, 1) := by decide +kernel
theorem dX6_readInto_27 : decode cX6_readInto 27 = .ok (.invokevirtual 34, 3) := by decide +kernel
theorem dX6_readInto_30 : decode cX6_readInto 30 = .ok (.ifCond .eq 7, 3) := by decide +kernel
theorem dX6_readInto_33 : decode cX6_readInto 33 = .ok (.iconst 1, 1) := by decide +kernel
theorem dX6_readInto_34 : decode cX6_readInto 34 = .ok (.goto 4, 3) := by decide +kernel
theorem dX6_readInto_37 : decode cX6_readInto 37 = .ok (.iconst 0, 1) := by decide +kernel
theorem dX6_readInto_38 : decode cX6_readInto 38 = .ok (.ireturn, 1) := by decide +kernel
theorem dX6_readLaw_0 : decode cX6_readLaw 0 = .ok (.aload_n 0, 1) := by decide +kernel
theorem dX6_readLaw_1 : decode cX6_readLaw 1 = .ok (.bipush 109, 2) := by decide +kernel
theorem dX6_readLaw_3 : decode cX6_readLaw 3 = .ok (.invokevirtual 37, 3) := by decide +kernel
theorem dX6_readLaw_6 : decode cX6_readLaw 6 = .ok (.ifCond .eq 13, 3) := by decide +kernel
theorem dX6_readLaw_9 : decode cX6_readLaw 9 = .ok (.aload_n 0, 1) := by decide +kernel
theorem dX6_readLaw_10 : decode cX6_readLaw 10 = .ok (.iconst 0, 1) := by decide +kernel
theorem dX6_readLaw_11 : decode cX6_readLaw 11 = .ok (.bipush 99, 2) := by decide +kernel
theorem dX6_readLaw_13 : decode cX6_readLaw 13 = .ok (.invokevirtual 41, 3) := by decide +kernel
theorem dX6_readLaw_16 : decode cX6_readLaw 16 = .ok (.ifCond .ne 5, 3) := by decide +kernel
theorem dX6_readLaw_19 : decode cX6_readLaw 19 = .ok (.iconst 0, 1) := by decide +kernel
theorem dX6_readLaw_20 : decode cX6_readLaw 20 = .ok (.ireturn, 1) := by decide +kernel
theorem dX6_readLaw_21 : decode cX6_readLaw 21 = .ok (.aload_n 1, 1) := by decide +kernel
theorem dX6_readLaw_22 : decode cX6_readLaw 22 = .ok (.aload_n 0, 1) := by decide +kernel
theorem dX6_readLaw_23 : decode cX6_readLaw 23 = .ok (.getfield 45, 3) := by decide +kernel
theorem dX6_readLaw_26 : decode cX6_readLaw 26 = .ok (.bipush 10, 2) := by decide +kernel
theorem dX6_readLaw_28 : decode cX6_readLaw 28 = .ok (.imul, 1) := by decide +kernel
theorem dX6_readLaw_29 : decode cX6_readLaw 29 = .ok (.putfield 48, 3) := by decide +kernel
theorem dX6_readLaw_32 : decode cX6_readLaw 32 = .ok (.aload_n 0, 1) := by decide +kernel
theorem dX6_readLaw_33 : decode cX6_readLaw 33 = .ok (.bipush 44, 2) := by decide +kernel
theorem dX6_readLaw_35 : decode cX6_readLaw 35 = .ok (.invokevirtual 37, 3) := by decide +kernel
theorem dX6_readLaw_38 : decode cX6_readLaw 38 = .ok (.ifCond .eq 13, 3) := by decide +kernel
theorem dX6_readLaw_41 : decode cX6_readLaw 41 = .ok (.aload_n 0, 1) := by decide +kernel
theorem dX6_readLaw_42 : decode cX6_readLaw 42 = .ok (.iconst 1, 1) := by decide +kernel
theorem dX6_readLaw_43 : decode cX6_readLaw 43 = .ok (.bipush 99, 2) := by decide +kernel
theorem dX6_readLaw_45 : decode cX6_readLaw 45 = .ok (.invokevirtual 41, 3) := by decide +kernel
theorem dX6_readLaw_48 : decode cX6_readLaw 48 = .ok (.ifCond .ne 5, 3) := by decide +kernel
theorem dX6_readLaw_51 : decode cX6_readLaw 51 = .ok (.iconst 0, 1) := by decide +kernel
theorem dX6_readLaw_52 : decode cX6_readLaw 52 = .ok (.ireturn, 1) := by decide +kernel
theorem dX6_readLaw_53 : decode cX6_readLaw 53 = .ok (.aload_n 1, 1) := by decide +kernel
theorem dX6_readLaw_54 : decode cX6_readLaw 54 = .ok (.aload_n 0, 1) := by decide +kernel
theorem dX6_readLaw_55 : decode cX6_readLaw 55 = .ok (.getfield 45, 3) := by decide +kernel
theorem dX6_readLaw_58 : decode cX6_readLaw 58 = .ok (.putfield 51, 3) := by decide +kernel
theorem dX6_readLaw_61 : decode cX6_readLaw 61 = .ok (.aload_n 0, 1) := by decide +kernel
theorem dX6_readLaw_62 : decode cX6_readLaw 62 = .ok (.bipush 59, 2) := by decide +kernel
theorem dX6_readLaw_64 : decode cX6_readLaw 64 = .ok (.invokevirtual 37, 3) := by decide +kernel
theorem dX6_readLaw_67 : decode cX6_readLaw 67 = .ok (.ireturn, 1) := by decide +kernel
theorem dX6_readProjects_0 : decode cX6_readProjects 0 = .ok (.iconst 0, 1) := by decide +kernel
theorem dX6_readProjects_1 : decode cX6_readProjects 1 = .ok (.istore_n 2, 1) := by decide +kernel
theorem dX6_readProjects_2 : decode cX6_readProjects 2 = .ok (.iload_n 2, 1) := by decide +kernel
theorem dX6_readProjects_3 : decode cX6_readProjects 3 = .ok (.bipush 6, 2) := by decide +kernel
theorem dX6_readProjects_5 : decode cX6_readProjects 5 = .ok (.if_icmp .gt 98, 3) := by decide +kernel
theorem dX6_readProjects_8 : decode cX6_readProjects 8 = .ok (.aload_n 0, 1) := by decide +kernel
theorem dX6_readProjects_9 : decode cX6_readProjects 9 = .ok (.invokevirtual 54, 3) := by decide +kernel
theorem dX6_readProjects_12 : decode cX6_readProjects 12 = .ok (.invokestatic 58, 3) := by decide +kernel
theorem dX6_readProjects_15 : decode cX6_readProjects 15 = .ok (.istore_n 3, 1) := by decide +kernel
theorem dX6_readProjects_16 : decode cX6_readProjects 16 = .ok (.iload_n 3, 1) := by decide +kernel
theorem dX6_readProjects_17 : decode cX6_readProjects 17 = .ok (.ifCond .ne 24, 3) := by decide +kernel
theorem dX6_readProjects_20 : decode cX6_readProjects 20 = .ok (.aload_n 1, 1) := by decide +kernel
theorem dX6_readProjects_21 : decode cX6_readProjects 21 = .ok (.getfield 62, 3) := by decide +kernel
theorem dX6_readProjects_24 : decode cX6_readProjects 24 = .ok (.ifCond .gt 11, 3) := by decide +kernel
theorem dX6_readProjects_27 : decode cX6_readProjects 27 = .ok (.aload_n 0, 1) := by decide +kernel
theorem dX6_readProjects_28 : decode cX6_readProjects 28 = .ok (.iconst 1, 1) := by decide +kernel
theorem dX6_readProjects_29 : decode cX6_readProjects 29 = .ok (.invokevirtual 65, 3) := by decide +kernel
theorem dX6_readProjects_32 : decode cX6_readProjects 32 = .ok (.ifCond .eq 7, 3) := by decide +kernel
theorem dX6_readProjects_35 : decode cX6_readProjects 35 = .ok (.iconst 1, 1) := by decide +kernel
theorem dX6_readProjects_36 : decode cX6_readProjects 36 = .ok (.goto 4, 3) := by decide +kernel
theorem dX6_readProjects_39 : decode cX6_readProjects 39 = .ok (.iconst 0, 1) := by decide +kernel
theorem dX6_readProjects_40 : decode cX6_readProjects 40 = .ok (.ireturn, 1) := by decide +kernel
theorem dX6_readProjects_41 : decode cX6_readProjects 41 = .ok (.aload_n 1, 1) := by decide +kernel
theorem dX6_readProjects_42 : decode cX6_readProjects 42 = .ok (.getfield 62, 3) := by decide +kernel
theorem dX6_readProjects_45 : decode cX6_readProjects 45 = .ok (.bipush 6, 2) := by decide +kernel
theorem dX6_readProjects_47 : decode cX6_readProjects 47 = .ok (.if_icmp .lt 9, 3) := by decide +kernel
theorem dX6_readProjects_50 : decode cX6_readProjects 50 = .ok (.aload_n 0, 1) := by decide +kernel
theorem dX6_readProjects_51 : decode cX6_readProjects 51 = .ok (.iconst 3, 1) := by decide +kernel
theorem dX6_readProjects_52 : decode cX6_readProjects 52 = .ok (.invokevirtual 65, 3) := by decide +kernel
theorem dX6_readProjects_55 : decode cX6_readProjects 55 = .ok (.ireturn, 1) := by decide +kernel
theorem dX6_readProjects_56 : decode cX6_readProjects 56 = .ok (.aload_n 0, 1) := by decide +kernel
theorem dX6_readProjects_57 : decode cX6_readProjects 57 = .ok (.dup, 1) := by decide +kernel
theorem dX6_readProjects_58 : decode cX6_readProjects 58 = .ok (.getfield 19, 3) := by decide +kernel
theorem dX6_readProjects_61 : decode cX6_readProjects 61 = .ok (.iconst 1, 1) := by decide +kernel
theorem dX6_readProjects_62 : decode cX6_readProjects 62 = .ok (.iadd, 1) := by decide +kernel
theorem dX6_readProjects_63 : decode cX6_readProjects 63 = .ok (.putfield 19, 3) := by decide +kernel
theorem dX6_readProjects_66 : decode cX6_readProjects 66 = .ok (.aload_n 0, 1) := by decide +kernel
theorem dX6_readProjects_67 : decode cX6_readProjects 67 = .ok (.bipush 59, 2) := by decide +kernel
theorem dX6_readProjects_69 : decode cX6_readProjects 69 = .ok (.invokevirtual 37, 3) := by decide +kernel
theorem dX6_readProjects_72 : decode cX6_readProjects 72 = .ok (.ifCond .ne 5, 3) := by decide +kernel
theorem dX6_readProjects_75 : decode cX6_readProjects 75 = .ok (.iconst 0, 1) := by decide +kernel
theorem dX6_readProjects_76 : decode cX6_readProjects 76 = .ok (.ireturn, 1) := by decide +kernel
theorem dX6_readProjects_77 : decode cX6_readProjects 77 = .ok (.aload_n 1, 1) := by decide +kernel
theorem dX6_readProjects_78 : decode cX6_readProjects 78 = .ok (.getfield 69, 3) := by decide +kernel
theorem dX6_readProjects_81 : decode cX6_readProjects 81 = .ok (.aload_n 1, 1) := by decide +kernel
theorem dX6_readProjects_82 : decode cX6_readProjects 82 = .ok (.getfield 62, 3) := by decide +kernel
theorem dX6_readProjects_85 : decode cX6_readProjects 85 = .ok (.iload_n 3, 1) := by decide +kernel
theorem dX6_readProjects_86 : decode cX6_readProjects 86 = .ok (.iastore, 1) := by decide +kernel
theorem dX6_readProjects_87 : decode cX6_readProjects 87 = .ok (.aload_n 1, 1) := by decide +kernel
theorem dX6_readProjects_88 : decode cX6_readProjects 88 = .ok (.dup, 1) := by decide +kernel
theorem dX6_readProjects_89 : decode cX6_readProjects 89 = .ok (.getfield 62, 3) := by decide +kernel
theorem dX6_readProjects_92 : decode cX6_readProjects 92 = .ok (.iconst 1, 1) := by decide +kernel
theorem dX6_readProjects_93 : decode cX6_readProjects 93 = .ok (.iadd, 1) := by decide +kernel
theorem dX6_readProjects_94 : decode cX6_readProjects 94 = .ok (.putfield 62, 3) := by decide +kernel
theorem dX6_readProjects_97 : decode cX6_readProjects 97 = .ok (.iinc 2 1, 3) := by decide +kernel
theorem dX6_readProjects_100 : decode cX6_readProjects 100 = .ok (.goto (-98), 3) := by decide +kernel
theorem dX6_readProjects_103 : decode cX6_readProjects 103 = .ok (.iconst 1, 1) := by decide +kernel
theorem dX6_readProjects_104 : decode cX6_readProjects 104 = .ok (.ireturn, 1) := by decide +kernel
theorem dX6_readGifts_0 : decode cX6_readGifts 0 = .ok (.iconst 0, 1) := by decide +kernel
theorem dX6_readGifts_1 : decode cX6_readGifts 1 = .ok (.istore_n 2, 1) := by decide +kernel
theorem dX6_readGifts_2 : decode cX6_readGifts 2 = .ok (.iload_n 2, 1) := by decide +kernel
theorem dX6_readGifts_3 : decode cX6_readGifts 3 = .ok (.sipush 130, 3) := by decide +kernel
theorem dX6_readGifts_6 : decode cX6_readGifts 6 = .ok (.if_icmp .ge 54, 3) := by decide +kernel
theorem dX6_readGifts_9 : decode cX6_readGifts 9 = .ok (.aload_n 0, 1) := by decide +kernel
theorem dX6_readGifts_10 : decode cX6_readGifts 10 = .ok (.getfield 19, 3) := by decide +kernel
theorem dX6_readGifts_13 : decode cX6_readGifts 13 = .ok (.aload_n 0, 1) := by decide +kernel
theorem dX6_readGifts_14 : decode cX6_readGifts 14 = .ok (.getfield 15, 3) := by decide +kernel
theorem dX6_readGifts_17 : decode cX6_readGifts 17 = .ok (.if_icmp .ge 43, 3) := by decide +kernel
theorem dX6_readGifts_20 : decode cX6_readGifts 20 = .ok (.aload_n 0, 1) := by decide +kernel
theorem dX6_readGifts_21 : decode cX6_readGifts 21 = .ok (.invokevirtual 54, 3) := by decide +kernel
theorem dX6_readGifts_24 : decode cX6_readGifts 24 = .ok (.bipush 103, 2) := by decide +kernel
theorem dX6_readGifts_26 : decode cX6_readGifts 26 = .ok (.if_icmp .ne 18, 3) := by decide +kernel
theorem dX6_readGifts_29 : decode cX6_readGifts 29 = .ok (.aload_n 1, 1) := by decide +kernel
theorem dX6_readGifts_30 : decode cX6_readGifts 30 = .ok (.getfield 72, 3) := by decide +kernel
theorem dX6_readGifts_33 : decode cX6_readGifts 33 = .ok (.bipush 20, 2) := by decide +kernel
theorem dX6_readGifts_35 : decode cX6_readGifts 35 = .ok (.if_icmp .lt 9, 3) := by decide +kernel
theorem dX6_readGifts_38 : decode cX6_readGifts 38 = .ok (.aload_n 0, 1) := by decide +kernel
theorem dX6_readGifts_39 : decode cX6_readGifts 39 = .ok (.iconst 3, 1) := by decide +kernel
theorem dX6_readGifts_40 : decode cX6_readGifts 40 = .ok (.invokevirtual 65, 3) := by decide +kernel
theorem dX6_readGifts_43 : decode cX6_readGifts 43 = .ok (.ireturn, 1) := by decide +kernel
theorem dX6_readGifts_44 : decode cX6_readGifts 44 = .ok (.aload_n 0, 1) := by decide +kernel
theorem dX6_readGifts_45 : decode cX6_readGifts 45 = .ok (.aload_n 1, 1) := by decide +kernel
theorem dX6_readGifts_46 : decode cX6_readGifts 46 = .ok (.invokevirtual 75, 3) := by decide +kernel
theorem dX6_readGifts_49 : decode cX6_readGifts 49 = .ok (.ifCond .ne 5, 3) := by decide +kernel
theorem dX6_readGifts_52 : decode cX6_readGifts 52 = .ok (.iconst 0, 1) := by decide +kernel
theorem dX6_readGifts_53 : decode cX6_readGifts 53 = .ok (.ireturn, 1) := by decide +kernel
theorem dX6_readGifts_54 : decode cX6_readGifts 54 = .ok (.iinc 2 1, 3) := by decide +kernel
theorem dX6_readGifts_57 : decode cX6_readGifts 57 = .ok (.goto (-55), 3) := by decide +kernel
theorem dX6_readGifts_60 : decode cX6_readGifts 60 = .ok (.iconst 1, 1) := by decide +kernel
theorem dX6_readGifts_61 : decode cX6_readGifts 61 = .ok (.ireturn, 1) := by decide +kernel
theorem dX6_readGift_0 : decode cX6_readGift 0 = .ok (.aload_n 0, 1) := by decide +kernel
theorem dX6_readGift_1 : decode cX6_readGift 1 = .ok (.bipush 103, 2) := by decide +kernel
theorem dX6_readGift_3 : decode cX6_readGift 3 = .ok (.invokevirtual 37, 3) := by decide +kernel
theorem dX6_readGift_6 : decode cX6_readGift 6 = .ok (.ifCond .eq 13, 3) := by decide +kernel
theorem dX6_readGift_9 : decode cX6_readGift 9 = .ok (.aload_n 0, 1) := by decide +kernel
theorem dX6_readGift_10 : decode cX6_readGift 10 = .ok (.iconst 0, 1) := by decide +kernel
theorem dX6_readGift_11 : decode cX6_readGift 11 = .ok (.bipush 9, 2) := by decide +kernel
theorem dX6_readGift_13 : decode cX6_readGift 13 = .ok (.invokevirtual 41, 3) := by decide +kernel
theorem dX6_readGift_16 : decode cX6_readGift 16 = .ok (.ifCond .ne 5, 3) := by decide +kernel
theorem dX6_readGift_19 : decode cX6_readGift 19 = .ok (.iconst 0, 1) := by decide +kernel
theorem dX6_readGift_20 : decode cX6_readGift 20 = .ok (.ireturn, 1) := by decide +kernel
theorem dX6_readGift_21 : decode cX6_readGift 21 = .ok (.aload_n 0, 1) := by decide +kernel
theorem dX6_readGift_22 : decode cX6_readGift 22 = .ok (.getfield 45, 3) := by decide +kernel
theorem dX6_readGift_25 : decode cX6_readGift 25 = .ok (.istore_n 2, 1) := by decide +kernel
theorem dX6_readGift_26 : decode cX6_readGift 26 = .ok (.aload_n 0, 1) := by decide +kernel
theorem dX6_readGift_27 : decode cX6_readGift 27 = .ok (.bipush 44, 2) := by decide +kernel
theorem dX6_readGift_29 : decode cX6_readGift 29 = .ok (.invokevirtual 37, 3) := by decide +kernel
theorem dX6_readGift_32 : decode cX6_readGift 32 = .ok (.ifCond .eq 17, 3) := by decide +kernel
theorem dX6_readGift_35 : decode cX6_readGift 35 = .ok (.aload_n 0, 1) := by decide +kernel
theorem dX6_readGift_36 : decode cX6_readGift 36 = .ok (.iconst 0, 1) := by decide +kernel
theorem dX6_readGift_37 : decode cX6_readGift 37 = .ok (.aload_n 1, 1) := by decide +kernel
theorem dX6_readGift_38 : decode cX6_readGift 38 = .ok (.getfield 62, 3) := by decide +kernel
theorem dX6_readGift_41 : decode cX6_readGift 41 = .ok (.iconst 1, 1) := by decide +kernel
theorem dX6_readGift_42 : decode cX6_readGift 42 = .ok (.isub, 1) := by decide +kernel
theorem dX6_readGift_43 : decode cX6_readGift 43 = .ok (.invokevirtual 41, 3) := by decide +kernel
theorem dX6_readGift_46 : decode cX6_readGift 46 = .ok (.ifCond .ne 5, 3) := by decide +kernel
theorem dX6_readGift_49 : decode cX6_readGift 49 = .ok (.iconst 0, 1) := by decide +kernel
theorem dX6_readGift_50 : decode cX6_readGift 50 = .ok (.ireturn, 1) := by decide +kernel
theorem dX6_readGift_51 : decode cX6_readGift 51 = .ok (.aload_n 0, 1) := by decide +kernel
theorem dX6_readGift_52 : decode cX6_readGift 52 = .ok (.getfield 45, 3) := by decide +kernel
theorem dX6_readGift_55 : decode cX6_readGift 55 = .ok (.istore_n 3, 1) := by decide +kernel
theorem dX6_readGift_56 : decode cX6_readGift 56 = .ok (.aload_n 0, 1) := by decide +kernel
theorem dX6_readGift_57 : decode cX6_readGift 57 = .ok (.bipush 44, 2) := by decide +kernel
theorem dX6_readGift_59 : decode cX6_readGift 59 = .ok (.invokevirtual 37, 3) := by decide +kernel
theorem dX6_readGift_62 : decode cX6_readGift 62 = .ok (.ifCond .eq 13, 3) := by decide +kernel
theorem dX6_readGift_65 : decode cX6_readGift 65 = .ok (.aload_n 0, 1) := by decide +kernel
theorem dX6_readGift_66 : decode cX6_readGift 66 = .ok (.iconst 1, 1) := by decide +kernel
theorem dX6_readGift_67 : decode cX6_readGift 67 = .ok (.bipush 99, 2) := by decide +kernel
theorem dX6_readGift_69 : decode cX6_readGift 69 = .ok (.invokevirtual 41, 3) := by decide +kernel
theorem dX6_readGift_72 : decode cX6_readGift 72 = .ok (.ifCond .ne 5, 3) := by decide +kernel
theorem dX6_readGift_75 : decode cX6_readGift 75 = .ok (.iconst 0, 1) := by decide +kernel
theorem dX6_readGift_76 : decode cX6_readGift 76 = .ok (.ireturn, 1) := by decide +kernel
theorem dX6_readGift_77 : decode cX6_readGift 77 = .ok (.aload_n 0, 1) := by decide +kernel
theorem dX6_readGift_78 : decode cX6_readGift 78 = .ok (.getfield 45, 3) := by decide +kernel
theorem dX6_readGift_81 : decode cX6_readGift 81 = .ok (.istore 4, 2) := by decide +kernel
theorem dX6_readGift_83 : decode cX6_readGift 83 = .ok (.aload_n 0, 1) := by decide +kernel
theorem dX6_readGift_84 : decode cX6_readGift 84 = .ok (.bipush 59, 2) := by decide +kernel
theorem dX6_readGift_86 : decode cX6_readGift 86 = .ok (.invokevirtual 37, 3) := by decide +kernel
theorem dX6_readGift_89 : decode cX6_readGift 89 = .ok (.ifCond .ne 5, 3) := by decide +kernel
theorem dX6_readGift_92 : decode cX6_readGift 92 = .ok (.iconst 0, 1) := by decide +kernel
theorem dX6_readGift_93 : decode cX6_readGift 93 = .ok (.ireturn, 1) := by decide +kernel
theorem dX6_readGift_94 : decode cX6_readGift 94 = .ok (.aload_n 1, 1) := by decide +kernel
theorem dX6_readGift_95 : decode cX6_readGift 95 = .ok (.aload_n 1, 1) := by decide +kernel
theorem dX6_readGift_96 : decode cX6_readGift 96 = .ok (.getfield 72, 3) := by decide +kernel
theorem dX6_readGift_99 : decode cX6_readGift 99 = .ok (.iload_n 2, 1) := by decide +kernel
theorem dX6_readGift_100 : decode cX6_readGift 100 = .ok (.iload_n 3, 1) := by decide +kernel
theorem dX6_readGift_101 : decode cX6_readGift 101 = .ok (.iload 4, 2) := by decide +kernel
theorem dX6_readGift_103 : decode cX6_readGift 103 = .ok (.invokevirtual 78, 3) := by decide +kernel
theorem dX6_readGift_106 : decode cX6_readGift 106 = .ok (.iconst 1, 1) := by decide +kernel
theorem dX6_readGift_107 : decode cX6_readGift 107 = .ok (.ireturn, 1) := by decide +kernel
theorem dX6_readSign_0 : decode cX6_readSign 0 = .ok (.aload_n 0, 1) := by decide +kernel
theorem dX6_readSign_1 : decode cX6_readSign 1 = .ok (.invokevirtual 54, 3) := by decide +kernel
theorem dX6_readSign_4 : decode cX6_readSign 4 = .ok (.iload_n 1, 1) := by decide +kernel
theorem dX6_readSign_5 : decode cX6_readSign 5 = .ok (.if_icmp .eq 9, 3) := by decide +kernel
theorem dX6_readSign_8 : decode cX6_readSign 8 = .ok (.aload_n 0, 1) := by decide +kernel
theorem dX6_readSign_9 : decode cX6_readSign 9 = .ok (.iconst 1, 1) := by decide +kernel
theorem dX6_readSign_10 : decode cX6_readSign 10 = .ok (.invokevirtual 65, 3) := by decide +kernel
theorem dX6_readSign_13 : decode cX6_readSign 13 = .ok (.ireturn, 1) := by decide +kernel
theorem dX6_readSign_14 : decode cX6_readSign 14 = .ok (.aload_n 0, 1) := by decide +kernel
theorem dX6_readSign_15 : decode cX6_readSign 15 = .ok (.dup, 1) := by decide +kernel
theorem dX6_readSign_16 : decode cX6_readSign 16 = .ok (.getfield 19, 3) := by decide +kernel
theorem dX6_readSign_19 : decode cX6_readSign 19 = .ok (.iconst 1, 1) := by decide +kernel
theorem dX6_readSign_20 : decode cX6_readSign 20 = .ok (.iadd, 1) := by decide +kernel
theorem dX6_readSign_21 : decode cX6_readSign 21 = .ok (.putfield 19, 3) := by decide +kernel
theorem dX6_readSign_24 : decode cX6_readSign 24 = .ok (.iconst 1, 1) := by decide +kernel
theorem dX6_readSign_25 : decode cX6_readSign 25 = .ok (.ireturn, 1) := by decide +kernel
theorem dX6_readNumber_0 : decode cX6_readNumber 0 = .ok (.iconst 0, 1) := by decide +kernel
theorem dX6_readNumber_1 : decode cX6_readNumber 1 = .ok (.istore_n 3, 1) := by decide +kernel
theorem dX6_readNumber_2 : decode cX6_readNumber 2 = .ok (.iconst 0, 1) := by decide +kernel
theorem dX6_readNumber_3 : decode cX6_readNumber 3 = .ok (.istore 4, 2) := by decide +kernel
theorem dX6_readNumber_5 : decode cX6_readNumber 5 = .ok (.aload_n 0, 1) := by decide +kernel
theorem dX6_readNumber_6 : decode cX6_readNumber 6 = .ok (.getfield 19, 3) := by decide +kernel
theorem dX6_readNumber_9 : decode cX6_readNumber 9 = .ok (.istore 5, 2) := by decide +kernel
theorem dX6_readNumber_11 : decode cX6_readNumber 11 = .ok (.iload 5, 2) := by decide +kernel
theorem dX6_readNumber_13 : decode cX6_readNumber 13 = .ok (.aload_n 0, 1) := by decide +kernel
theorem dX6_readNumber_14 : decode cX6_readNumber 14 = .ok (.getfield 15, 3) := by decide +kernel
theorem dX6_readNumber_17 : decode cX6_readNumber 17 = .ok (.if_icmp .ge 48, 3) := by decide +kernel
theorem dX6_readNumber_20 : decode cX6_readNumber 20 = .ok (.aload_n 0, 1) := by decide +kernel
theorem dX6_readNumber_21 : decode cX6_readNumber 21 = .ok (.getfield 11, 3) := by decide +kernel
theorem dX6_readNumber_24 : decode cX6_readNumber 24 = .ok (.iload 5, 2) := by decide +kernel
theorem dX6_readNumber_26 : decode cX6_readNumber 26 = .ok (.iaload, 1) := by decide +kernel
theorem dX6_readNumber_27 : decode cX6_readNumber 27 = .ok (.invokestatic 82, 3) := by decide +kernel
theorem dX6_readNumber_30 : decode cX6_readNumber 30 = .ok (.ifCond .eq 35, 3) := by decide +kernel
theorem dX6_readNumber_33 : decode cX6_readNumber 33 = .ok (.iload_n 3, 1) := by decide +kernel
theorem dX6_readNumber_34 : decode cX6_readNumber 34 = .ok (.iconst 2, 1) := by decide +kernel
theorem dX6_readNumber_35 : decode cX6_readNumber 35 = .ok (.if_icmp .gt 30, 3) := by decide +kernel
theorem dX6_readNumber_38 : decode cX6_readNumber 38 = .ok (.iload 4, 2) := by decide +kernel
theorem dX6_readNumber_40 : decode cX6_readNumber 40 = .ok (.bipush 10, 2) := by decide +kernel
theorem dX6_readNumber_42 : decode cX6_readNumber 42 = .ok (.imul, 1) := by decide +kernel
theorem dX6_readNumber_43 : decode cX6_readNumber 43 = .ok (.aload_n 0, 1) := by decide +kernel
theorem dX6_readNumber_44 : decode cX6_readNumber 44 = .ok (.getfield 11, 3) := by decide +kernel
theorem dX6_readNumber_47 : decode cX6_readNumber 47 = .ok (.iload 5, 2) := by decide +kernel
theorem dX6_readNumber_49 : decode cX6_readNumber 49 = .ok (.iaload, 1) := by decide +kernel
theorem dX6_readNumber_50 : decode cX6_readNumber 50 = .ok (.iadd, 1) := by decide +kernel
theorem dX6_readNumber_51 : decode cX6_readNumber 51 = .ok (.bipush 48, 2) := by decide +kernel
theorem dX6_readNumber_53 : decode cX6_readNumber 53 = .ok (.isub, 1) := by decide +kernel
theorem dX6_readNumber_54 : decode cX6_readNumber 54 = .ok (.istore 4, 2) := by decide +kernel
theorem dX6_readNumber_56 : decode cX6_readNumber 56 = .ok (.iinc 3 1, 3) := by decide +kernel
theorem dX6_readNumber_59 : decode cX6_readNumber 59 = .ok (.iinc 5 1, 3) := by decide +kernel
theorem dX6_readNumber_62 : decode cX6_readNumber 62 = .ok (.goto (-51), 3) := by decide +kernel
theorem dX6_readNumber_65 : decode cX6_readNumber 65 = .ok (.iload_n 3, 1) := by decide +kernel
theorem dX6_readNumber_66 : decode cX6_readNumber 66 = .ok (.ifCond .eq 8, 3) := by decide +kernel
theorem dX6_readNumber_69 : decode cX6_readNumber 69 = .ok (.iload_n 3, 1) := by decide +kernel
theorem dX6_readNumber_70 : decode cX6_readNumber 70 = .ok (.iconst 2, 1) := by decide +kernel
theorem dX6_readNumber_71 : decode cX6_readNumber 71 = .ok (.if_icmp .le 9, 3) := by decide +kernel
theorem dX6_readNumber_74 : decode cX6_readNumber 74 = .ok (.aload_n 0, 1) := by decide +kernel
theorem dX6_readNumber_75 : decode cX6_readNumber 75 = .ok (.iconst 1, 1) := by decide +kernel
theorem dX6_readNumber_76 : decode cX6_readNumber 76 = .ok (.invokevirtual 65, 3) := by decide +kernel
theorem dX6_readNumber_79 : decode cX6_readNumber 79 = .ok (.ireturn, 1) := by decide +kernel
theorem dX6_readNumber_80 : decode cX6_readNumber 80 = .ok (.iload 4, 2) := by decide +kernel
theorem dX6_readNumber_82 : decode cX6_readNumber 82 = .ok (.iload_n 1, 1) := by decide +kernel
theorem dX6_readNumber_83 : decode cX6_readNumber 83 = .ok (.iload_n 2, 1) := by decide +kernel
theorem dX6_readNumber_84 : decode cX6_readNumber 84 = .ok (.invokestatic 85, 3) := by decide +kernel
theorem dX6_readNumber_87 : decode cX6_readNumber 87 = .ok (.ifCond .ne 9, 3) := by decide +kernel
theorem dX6_readNumber_90 : decode cX6_readNumber 90 = .ok (.aload_n 0, 1) := by decide +kernel
theorem dX6_readNumber_91 : decode cX6_readNumber 91 = .ok (.iconst 2, 1) := by decide +kernel
theorem dX6_readNumber_92 : decode cX6_readNumber 92 = .ok (.invokevirtual 65, 3) := by decide +kernel
theorem dX6_readNumber_95 : decode cX6_readNumber 95 = .ok (.ireturn, 1) := by decide +kernel
theorem dX6_readNumber_96 : decode cX6_readNumber 96 = .ok (.aload_n 0, 1) := by decide +kernel
theorem dX6_readNumber_97 : decode cX6_readNumber 97 = .ok (.iload 4, 2) := by decide +kernel
theorem dX6_readNumber_99 : decode cX6_readNumber 99 = .ok (.putfield 45, 3) := by decide +kernel
theorem dX6_readNumber_102 : decode cX6_readNumber 102 = .ok (.aload_n 0, 1) := by decide +kernel
theorem dX6_readNumber_103 : decode cX6_readNumber 103 = .ok (.dup, 1) := by decide +kernel
theorem dX6_readNumber_104 : decode cX6_readNumber 104 = .ok (.getfield 19, 3) := by decide +kernel
theorem dX6_readNumber_107 : decode cX6_readNumber 107 = .ok (.iload_n 3, 1) := by decide +kernel
theorem dX6_readNumber_108 : decode cX6_readNumber 108 = .ok (.iadd, 1) := by decide +kernel
theorem dX6_readNumber_109 : decode cX6_readNumber 109 = .ok (.putfield 19, 3) := by decide +kernel
theorem dX6_readNumber_112 : decode cX6_readNumber 112 = .ok (.iconst 1, 1) := by decide +kernel
theorem dX6_readNumber_113 : decode cX6_readNumber 113 = .ok (.ireturn, 1) := by decide +kernel
theorem dX6_byteHere_0 : decode cX6_byteHere 0 = .ok (.aload_n 0, 1) := by decide +kernel
theorem dX6_byteHere_1 : decode cX6_byteHere 1 = .ok (.getfield 19, 3) := by decide +kernel
theorem dX6_byteHere_4 : decode cX6_byteHere 4 = .ok (.aload_n 0, 1) := by decide +kernel
theorem dX6_byteHere_5 : decode cX6_byteHere 5 = .ok (.getfield 15, 3) := by decide +kernel
theorem dX6_byteHere_8 : decode cX6_byteHere 8 = .ok (.if_icmp .ge 15, 3) := by decide +kernel
theorem dX6_byteHere_11 : decode cX6_byteHere 11 = .ok (.aload_n 0, 1) := by decide +kernel
theorem dX6_byteHere_12 : decode cX6_byteHere 12 = .ok (.getfield 11, 3) := by decide +kernel
theorem dX6_byteHere_15 : decode cX6_byteHere 15 = .ok (.aload_n 0, 1) := by decide +kernel
theorem dX6_byteHere_16 : decode cX6_byteHere 16 = .ok (.getfield 19, 3) := by decide +kernel
theorem dX6_byteHere_19 : decode cX6_byteHere 19 = .ok (.iaload, 1) := by decide +kernel
theorem dX6_byteHere_20 : decode cX6_byteHere 20 = .ok (.goto 4, 3) := by decide +kernel
theorem dX6_byteHere_23 : decode cX6_byteHere 23 = .ok (.iconst (-1), 1) := by decide +kernel
theorem dX6_byteHere_24 : decode cX6_byteHere 24 = .ok (.ireturn, 1) := by decide +kernel
theorem dX6_fails_0 : decode cX6_fails 0 = .ok (.aload_n 0, 1) := by decide +kernel
theorem dX6_fails_1 : decode cX6_fails 1 = .ok (.iload_n 1, 1) := by decide +kernel
theorem dX6_fails_2 : decode cX6_fails 2 = .ok (.putfield 89, 3) := by decide +kernel
theorem dX6_fails_5 : decode cX6_fails 5 = .ok (.aload_n 0, 1) := by decide +kernel
theorem dX6_fails_6 : decode cX6_fails 6 = .ok (.aload_n 0, 1) := by decide +kernel
theorem dX6_fails_7 : decode cX6_fails 7 = .ok (.getfield 19, 3) := by decide +kernel
theorem dX6_fails_10 : decode cX6_fails 10 = .ok (.putfield 92, 3) := by decide +kernel
theorem dX6_fails_13 : decode cX6_fails 13 = .ok (.iconst 0, 1) := by decide +kernel
theorem dX6_fails_14 : decode cX6_fails 14 = .ok (.ireturn, 1) := by decide +kernel
theorem dX6_isFigure_0 : decode cX6_isFigure 0 = .ok (.iload_n 0, 1) := by decide +kernel
theorem dX6_isFigure_1 : decode cX6_isFigure 1 = .ok (.bipush 48, 2) := by decide +kernel
theorem dX6_isFigure_3 : decode cX6_isFigure 3 = .ok (.if_icmp .lt 13, 3) := by decide +kernel
theorem dX6_isFigure_6 : decode cX6_isFigure 6 = .ok (.iload_n 0, 1) := by decide +kernel
theorem dX6_isFigure_7 : decode cX6_isFigure 7 = .ok (.bipush 57, 2) := by decide +kernel
theorem dX6_isFigure_9 : decode cX6_isFigure 9 = .ok (.if_icmp .gt 7, 3) := by decide +kernel
theorem dX6_isFigure_12 : decode cX6_isFigure 12 = .ok (.iconst 1, 1) := by decide +kernel
theorem dX6_isFigure_13 : decode cX6_isFigure 13 = .ok (.goto 4, 3) := by decide +kernel
theorem dX6_isFigure_16 : decode cX6_isFigure 16 = .ok (.iconst 0, 1) := by decide +kernel
theorem dX6_isFigure_17 : decode cX6_isFigure 17 = .ok (.ireturn, 1) := by decide +kernel
theorem dX6_kindTold_0 : decode cX6_kindTold 0 = .ok (.iload_n 0, 1) := by decide +kernel
theorem dX6_kindTold_1 : decode cX6_kindTold 1 = .ok (.lookupswitch 61 #[(99, 59), (102, 57), (104, 55), (111, 51), (115, 53)], 51) := by decide +kernel
theorem dX6_kindTold_52 : decode cX6_kindTold 52 = .ok (.iconst 1, 1) := by decide +kernel
theorem dX6_kindTold_53 : decode cX6_kindTold 53 = .ok (.ireturn, 1) := by decide +kernel
theorem dX6_kindTold_54 : decode cX6_kindTold 54 = .ok (.iconst 2, 1) := by decide +kernel
theorem dX6_kindTold_55 : decode cX6_kindTold 55 = .ok (.ireturn, 1) := by decide +kernel
theorem dX6_kindTold_56 : decode cX6_kindTold 56 = .ok (.iconst 3, 1) := by decide +kernel
theorem dX6_kindTold_57 : decode cX6_kindTold 57 = .ok (.ireturn, 1) := by decide +kernel
theorem dX6_kindTold_58 : decode cX6_kindTold 58 = .ok (.iconst 4, 1) := by decide +kernel
theorem dX6_kindTold_59 : decode cX6_kindTold 59 = .ok (.ireturn, 1) := by decide +kernel
theorem dX6_kindTold_60 : decode cX6_kindTold 60 = .ok (.iconst 5, 1) := by decide +kernel
theorem dX6_kindTold_61 : decode cX6_kindTold 61 = .ok (.ireturn, 1) := by decide +kernel
theorem dX6_kindTold_62 : decode cX6_kindTold 62 = .ok (.iconst 0, 1) := by decide +kernel
theorem dX6_kindTold_63 : decode cX6_kindTold 63 = .ok (.ireturn, 1) := by decide +kernel
