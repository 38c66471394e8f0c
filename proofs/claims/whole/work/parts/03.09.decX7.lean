theorem dX7_init_0 : decode cX7_init 0 = .ok (.aload_n 0, 1) := by decide +kernel
theorem dX7_init_1 : decode cX7_init 1 = .ok (.invokespecial 1, 3) := by decide +kernel
theorem dX7_init_4 : decode cX7_init 4 = .ok (.aload_n 0, 1) := by decide +kernel
theorem dX7_init_5 : decode cX7_init 5 = .ok (.new 7, 3) := by decide +kernel
theorem dX7_init_8 : decode cX7_init 8 = .ok (.dup, 1) := by decide +kernel
theorem dX7_init_9 : decode cX7_init 9 = .ok (.invokespecial 9, 3) := by decide +kernel
theorem dX7_init_12 : decode cX7_init 12 = .ok (.putfield 10, 3) := by decide +kernel
theorem dX7_init_15 : decode cX7_init 15 = .ok (.aload_n 0, 1) := by decide +kernel
theorem dX7_init_16 : decode cX7_init 16 = .ok (.new 16, 3) := by decide +kernel
theorem dX7_init_19 : decode cX7_init 19 = .ok (.dup, 1) := by decide +kernel
theorem dX7_init_20 : decode cX7_init 20 = .ok (.invokespecial 18, 3) := by decide +kernel
theorem dX7_init_23 : decode cX7_init 23 = .ok (.putfield 19, 3) := by decide +kernel
theorem dX7_init_26 : decode cX7_init 26 = .ok (.aload_n 0, 1) := by decide +kernel
theorem dX7_init_27 : decode cX7_init 27 = .ok (.new 23, 3) := by decide +kernel
theorem dX7_init_30 : decode cX7_init 30 = .ok (.dup, 1) := by decide +kernel
theorem dX7_init_31 : decode cX7_init 31 = .ok (.invokespecial 25, 3) := by decide +kernel
theorem dX7_init_34 : decode cX7_init 34 = .ok (.putfield 26, 3) := by decide +kernel
theorem dX7_init_37 : decode cX7_init 37 = .ok (.aload_n 0, 1) := by decide +kernel
theorem dX7_init_38 : decode cX7_init 38 = .ok (.new 23, 3) := by decide +kernel
theorem dX7_init_41 : decode cX7_init 41 = .ok (.dup, 1) := by decide +kernel
theorem dX7_init_42 : decode cX7_init 42 = .ok (.invokespecial 25, 3) := by decide +kernel
theorem dX7_init_45 : decode cX7_init 45 = .ok (.putfield 30, 3) := by decide +kernel
theorem dX7_init_48 : decode cX7_init 48 = .ok (.aload_n 0, 1) := by decide +kernel
theorem dX7_init_49 : decode cX7_init 49 = .ok (.iconst 2, 1) := by decide +kernel
theorem dX7_init_50 : decode cX7_init 50 = .ok (.anewarray 23, 3) := by decide +kernel
theorem dX7_init_53 : decode cX7_init 53 = .ok (.dup, 1) := by decide +kernel
theorem dX7_init_54 : decode cX7_init 54 = .ok (.iconst 0, 1) := by decide +kernel
theorem dX7_init_55 : decode cX7_init 55 = .ok (.new 23, 3) := by decide +kernel
theorem dX7_init_58 : decode cX7_init 58 = .ok (.dup, 1) := by decide +kernel
theorem dX7_init_59 : decode cX7_init 59 = .ok (.invokespecial 25, 3) := by decide +kernel
theorem dX7_init_62 : decode cX7_init 62 = .ok (.aastore, 1) := by decide +kernel
theorem dX7_init_63 : decode cX7_init 63 = .ok (.dup, 1) := by decide +kernel
theorem dX7_init_64 : decode cX7_init 64 = .ok (.iconst 1, 1) := by decide +kernel
theorem dX7_init_65 : decode cX7_init 65 = .ok (.new 23, 3) := by decide +kernel
theorem dX7_init_68 : decode cX7_init 68 = .ok (.dup, 1) := by decide +kernel
theorem dX7_init_69 : decode cX7_init 69 = .ok (.invokespecial 25, 3) := by decide +kernel
theorem dX7_init_72 : decode cX7_init 72 = .ok (.aastore, 1) := by decide +kernel
theorem dX7_init_73 : decode cX7_init 73 = .ok (.putfield 33, 3) := by decide +kernel
theorem dX7_init_76 : decode cX7_init 76 = .ok (.aload_n 0, 1) := by decide +kernel
theorem dX7_init_77 : decode cX7_init 77 = .ok (.new 37, 3) := by decide +kernel
theorem dX7_init_80 : decode cX7_init 80 = .ok (.dup, 1) := by decide +kernel
theorem dX7_init_81 : decode cX7_init 81 = .ok (.invokespecial 39, 3) := by decide +kernel
theorem dX7_init_84 : decode cX7_init 84 = .ok (.putfield 40, 3) := by decide +kernel
theorem dX7_init_87 : decode cX7_init 87 = .ok (.aload_n 0, 1) := by decide +kernel
theorem dX7_init_88 : decode cX7_init 88 = .ok (.new 44, 3) := by decide +kernel
theorem dX7_init_91 : decode cX7_init 91 = .ok (.dup, 1) := by decide +kernel
theorem dX7_init_92 : decode cX7_init 92 = .ok (.invokespecial 46, 3) := by decide +kernel
theorem dX7_init_95 : decode cX7_init 95 = .ok (.putfield 47, 3) := by decide +kernel
theorem dX7_init_98 : decode cX7_init 98 = .ok (.aload_n 0, 1) := by decide +kernel
theorem dX7_init_99 : decode cX7_init 99 = .ok (.new 51, 3) := by decide +kernel
theorem dX7_init_102 : decode cX7_init 102 = .ok (.dup, 1) := by decide +kernel
theorem dX7_init_103 : decode cX7_init 103 = .ok (.aload_n 0, 1) := by decide +kernel
theorem dX7_init_104 : decode cX7_init 104 = .ok (.getfield 26, 3) := by decide +kernel
theorem dX7_init_107 : decode cX7_init 107 = .ok (.aload_n 0, 1) := by decide +kernel
theorem dX7_init_108 : decode cX7_init 108 = .ok (.getfield 47, 3) := by decide +kernel
theorem dX7_init_111 : decode cX7_init 111 = .ok (.invokespecial 53, 3) := by decide +kernel
theorem dX7_init_114 : decode cX7_init 114 = .ok (.putfield 56, 3) := by decide +kernel
theorem dX7_init_117 : decode cX7_init 117 = .ok (.aload_n 0, 1) := by decide +kernel
theorem dX7_init_118 : decode cX7_init 118 = .ok (.new 60, 3) := by decide +kernel
theorem dX7_init_121 : decode cX7_init 121 = .ok (.dup, 1) := by decide +kernel
theorem dX7_init_122 : decode cX7_init 122 = .ok (.aload_n 0, 1) := by decide +kernel
theorem dX7_init_123 : decode cX7_init 123 = .ok (.getfield 47, 3) := by decide +kernel
theorem dX7_init_126 : decode cX7_init 126 = .ok (.invokespecial 62, 3) := by decide +kernel
theorem dX7_init_129 : decode cX7_init 129 = .ok (.putfield 65, 3) := by decide +kernel
theorem dX7_init_132 : decode cX7_init 132 = .ok (.return_, 1) := by decide +kernel
theorem dX7_row_0 : decode cX7_row 0 = .ok (.iload_n 1, 1) := by decide +kernel
theorem dX7_row_1 : decode cX7_row 1 = .ok (.invokestatic 69, 3) := by decide +kernel
theorem dX7_row_4 : decode cX7_row 4 = .ok (.ifCond .eq 18, 3) := by decide +kernel
theorem dX7_row_7 : decode cX7_row 7 = .ok (.iload_n 2, 1) := by decide +kernel
theorem dX7_row_8 : decode cX7_row 8 = .ok (.iconst 0, 1) := by decide +kernel
theorem dX7_row_9 : decode cX7_row 9 = .ok (.iconst 2, 1) := by decide +kernel
theorem dX7_row_10 : decode cX7_row 10 = .ok (.invokestatic 73, 3) := by decide +kernel
theorem dX7_row_13 : decode cX7_row 13 = .ok (.ifCond .eq 9, 3) := by decide +kernel
theorem dX7_row_16 : decode cX7_row 16 = .ok (.iload_n 3, 1) := by decide +kernel
theorem dX7_row_17 : decode cX7_row 17 = .ok (.bipush 40, 2) := by decide +kernel
theorem dX7_row_19 : decode cX7_row 19 = .ok (.if_icmp .le 6, 3) := by decide +kernel
theorem dX7_row_22 : decode cX7_row 22 = .ok (.ldc 77, 2) := by decide +kernel
theorem dX7_row_24 : decode cX7_row 24 = .ok (.ireturn, 1) := by decide +kernel
theorem dX7_row_25 : decode cX7_row 25 = .ok (.iload_n 3, 1) := by decide +kernel
theorem dX7_row_26 : decode cX7_row 26 = .ok (.ifCond .ge 9, 3) := by decide +kernel
theorem dX7_row_29 : decode cX7_row 29 = .ok (.aload_n 0, 1) := by decide +kernel
theorem dX7_row_30 : decode cX7_row 30 = .ok (.iconst 4, 1) := by decide +kernel
theorem dX7_row_31 : decode cX7_row 31 = .ok (.invokevirtual 78, 3) := by decide +kernel
theorem dX7_row_34 : decode cX7_row 34 = .ok (.ireturn, 1) := by decide +kernel
theorem dX7_row_35 : decode cX7_row 35 = .ok (.aload_n 0, 1) := by decide +kernel
theorem dX7_row_36 : decode cX7_row 36 = .ok (.getfield 10, 3) := by decide +kernel
theorem dX7_row_39 : decode cX7_row 39 = .ok (.iload_n 1, 1) := by decide +kernel
theorem dX7_row_40 : decode cX7_row 40 = .ok (.iload_n 2, 1) := by decide +kernel
theorem dX7_row_41 : decode cX7_row 41 = .ok (.iload_n 3, 1) := by decide +kernel
theorem dX7_row_42 : decode cX7_row 42 = .ok (.invokevirtual 82, 3) := by decide +kernel
theorem dX7_row_45 : decode cX7_row 45 = .ok (.aload_n 0, 1) := by decide +kernel
theorem dX7_row_46 : decode cX7_row 46 = .ok (.iload_n 3, 1) := by decide +kernel
theorem dX7_row_47 : decode cX7_row 47 = .ok (.invokevirtual 86, 3) := by decide +kernel
theorem dX7_row_50 : decode cX7_row 50 = .ok (.ireturn, 1) := by decide +kernel
theorem dX7_set_0 : decode cX7_set 0 = .ok (.iload_n 1, 1) := by decide +kernel
theorem dX7_set_1 : decode cX7_set 1 = .ok (.invokestatic 69, 3) := by decide +kernel
theorem dX7_set_4 : decode cX7_set 4 = .ok (.ifCond .ne 6, 3) := by decide +kernel
theorem dX7_set_7 : decode cX7_set 7 = .ok (.ldc 77, 2) := by decide +kernel
theorem dX7_set_9 : decode cX7_set 9 = .ok (.ireturn, 1) := by decide +kernel
theorem dX7_set_10 : decode cX7_set 10 = .ok (.aload_n 0, 1) := by decide +kernel
theorem dX7_set_11 : decode cX7_set 11 = .ok (.getfield 10, 3) := by decide +kernel
theorem dX7_set_14 : decode cX7_set 14 = .ok (.iload_n 1, 1) := by decide +kernel
theorem dX7_set_15 : decode cX7_set 15 = .ok (.invokevirtual 89, 3) := by decide +kernel
theorem dX7_set_18 : decode cX7_set 18 = .ok (.ifCond .eq 9, 3) := by decide +kernel
theorem dX7_set_21 : decode cX7_set 21 = .ok (.aload_n 0, 1) := by decide +kernel
theorem dX7_set_22 : decode cX7_set 22 = .ok (.iconst 1, 1) := by decide +kernel
theorem dX7_set_23 : decode cX7_set 23 = .ok (.invokevirtual 78, 3) := by decide +kernel
theorem dX7_set_26 : decode cX7_set 26 = .ok (.ireturn, 1) := by decide +kernel
theorem dX7_set_27 : decode cX7_set 27 = .ok (.aload_n 0, 1) := by decide +kernel
theorem dX7_set_28 : decode cX7_set 28 = .ok (.getfield 10, 3) := by decide +kernel
theorem dX7_set_31 : decode cX7_set 31 = .ok (.iload_n 1, 1) := by decide +kernel
theorem dX7_set_32 : decode cX7_set 32 = .ok (.iload_n 2, 1) := by decide +kernel
theorem dX7_set_33 : decode cX7_set 33 = .ok (.iconst 1, 1) := by decide +kernel
theorem dX7_set_34 : decode cX7_set 34 = .ok (.invokevirtual 92, 3) := by decide +kernel
theorem dX7_set_37 : decode cX7_set 37 = .ok (.ifCond .ne 9, 3) := by decide +kernel
theorem dX7_set_40 : decode cX7_set 40 = .ok (.aload_n 0, 1) := by decide +kernel
theorem dX7_set_41 : decode cX7_set 41 = .ok (.iconst 2, 1) := by decide +kernel
theorem dX7_set_42 : decode cX7_set 42 = .ok (.invokevirtual 78, 3) := by decide +kernel
theorem dX7_set_45 : decode cX7_set 45 = .ok (.ireturn, 1) := by decide +kernel
theorem dX7_set_46 : decode cX7_set 46 = .ok (.aload_n 0, 1) := by decide +kernel
theorem dX7_set_47 : decode cX7_set 47 = .ok (.aload_n 0, 1) := by decide +kernel
theorem dX7_set_48 : decode cX7_set 48 = .ok (.getfield 10, 3) := by decide +kernel
theorem dX7_set_51 : decode cX7_set 51 = .ok (.iload_n 1, 1) := by decide +kernel
theorem dX7_set_52 : decode cX7_set 52 = .ok (.iload_n 2, 1) := by decide +kernel
theorem dX7_set_53 : decode cX7_set 53 = .ok (.iload_n 3, 1) := by decide +kernel
theorem dX7_set_54 : decode cX7_set 54 = .ok (.invokevirtual 95, 3) := by decide +kernel
theorem dX7_set_57 : decode cX7_set 57 = .ok (.invokevirtual 86, 3) := by decide +kernel
theorem dX7_set_60 : decode cX7_set 60 = .ok (.ireturn, 1) := by decide +kernel
theorem dX7_copy_0 : decode cX7_copy 0 = .ok (.iload_n 1, 1) := by decide +kernel
theorem dX7_copy_1 : decode cX7_copy 1 = .ok (.invokestatic 69, 3) := by decide +kernel
theorem dX7_copy_4 : decode cX7_copy 4 = .ok (.ifCond .eq 10, 3) := by decide +kernel
theorem dX7_copy_7 : decode cX7_copy 7 = .ok (.iload_n 3, 1) := by decide +kernel
theorem dX7_copy_8 : decode cX7_copy 8 = .ok (.invokestatic 69, 3) := by decide +kernel
theorem dX7_copy_11 : decode cX7_copy 11 = .ok (.ifCond .ne 6, 3) := by decide +kernel
theorem dX7_copy_14 : decode cX7_copy 14 = .ok (.ldc 77, 2) := by decide +kernel
theorem dX7_copy_16 : decode cX7_copy 16 = .ok (.ireturn, 1) := by decide +kernel
theorem dX7_copy_17 : decode cX7_copy 17 = .ok (.aload_n 0, 1) := by decide +kernel
theorem dX7_copy_18 : decode cX7_copy 18 = .ok (.getfield 10, 3) := by decide +kernel
theorem dX7_copy_21 : decode cX7_copy 21 = .ok (.iload_n 1, 1) := by decide +kernel
theorem dX7_copy_22 : decode cX7_copy 22 = .ok (.invokevirtual 89, 3) := by decide +kernel
theorem dX7_copy_25 : decode cX7_copy 25 = .ok (.ifCond .ne 14, 3) := by decide +kernel
theorem dX7_copy_28 : decode cX7_copy 28 = .ok (.aload_n 0, 1) := by decide +kernel
theorem dX7_copy_29 : decode cX7_copy 29 = .ok (.getfield 10, 3) := by decide +kernel
theorem dX7_copy_32 : decode cX7_copy 32 = .ok (.iload_n 3, 1) := by decide +kernel
theorem dX7_copy_33 : decode cX7_copy 33 = .ok (.invokevirtual 89, 3) := by decide +kernel
theorem dX7_copy_36 : decode cX7_copy 36 = .ok (.ifCond .eq 9, 3) := by decide +kernel
theorem dX7_copy_39 : decode cX7_copy 39 = .ok (.aload_n 0, 1) := by decide +kernel
theorem dX7_copy_40 : decode cX7_copy 40 = .ok (.iconst 1, 1) := by decide +kernel
theorem dX7_copy_41 : decode cX7_copy 41 = .ok (.invokevirtual 78, 3) := by decide +kernel
theorem dX7_copy_44 : decode cX7_copy 44 = .ok (.ireturn, 1) := by decide +kernel
theorem dX7_copy_45 : decode cX7_copy 45 = .ok (.aload_n 0, 1) := by decide +kernel
theorem dX7_copy_46 : decode cX7_copy 46 = .ok (.getfield 10, 3) := by decide +kernel
theorem dX7_copy_49 : decode cX7_copy 49 = .ok (.getfield 99, 3) := by decide +kernel
theorem dX7_copy_52 : decode cX7_copy 52 = .ok (.iload_n 1, 1) := by decide +kernel
theorem dX7_copy_53 : decode cX7_copy 53 = .ok (.iaload, 1) := by decide +kernel
theorem dX7_copy_54 : decode cX7_copy 54 = .ok (.aload_n 0, 1) := by decide +kernel
theorem dX7_copy_55 : decode cX7_copy 55 = .ok (.getfield 10, 3) := by decide +kernel
theorem dX7_copy_58 : decode cX7_copy 58 = .ok (.getfield 99, 3) := by decide +kernel
theorem dX7_copy_61 : decode cX7_copy 61 = .ok (.iload_n 3, 1) := by decide +kernel
theorem dX7_copy_62 : decode cX7_copy 62 = .ok (.iaload, 1) := by decide +kernel
theorem dX7_copy_63 : decode cX7_copy 63 = .ok (.if_icmp .eq 9, 3) := by decide +kernel
theorem dX7_copy_66 : decode cX7_copy 66 = .ok (.aload_n 0, 1) := by decide +kernel
theorem dX7_copy_67 : decode cX7_copy 67 = .ok (.iconst 5, 1) := by decide +kernel
theorem dX7_copy_68 : decode cX7_copy 68 = .ok (.invokevirtual 78, 3) := by decide +kernel
theorem dX7_copy_71 : decode cX7_copy 71 = .ok (.ireturn, 1) := by decide +kernel
theorem dX7_copy_72 : decode cX7_copy 72 = .ok (.aload_n 0, 1) := by decide +kernel
theorem dX7_copy_73 : decode cX7_copy 73 = .ok (.getfield 10, 3) := by decide +kernel
theorem dX7_copy_76 : decode cX7_copy 76 = .ok (.iload_n 1, 1) := by decide +kernel
theorem dX7_copy_77 : decode cX7_copy 77 = .ok (.iload_n 2, 1) := by decide +kernel
theorem dX7_copy_78 : decode cX7_copy 78 = .ok (.iload 5, 2) := by decide +kernel
theorem dX7_copy_80 : decode cX7_copy 80 = .ok (.invokevirtual 92, 3) := by decide +kernel
theorem dX7_copy_83 : decode cX7_copy 83 = .ok (.ifCond .eq 18, 3) := by decide +kernel
theorem dX7_copy_86 : decode cX7_copy 86 = .ok (.aload_n 0, 1) := by decide +kernel
theorem dX7_copy_87 : decode cX7_copy 87 = .ok (.getfield 10, 3) := by decide +kernel
theorem dX7_copy_90 : decode cX7_copy 90 = .ok (.iload_n 3, 1) := by decide +kernel
theorem dX7_copy_91 : decode cX7_copy 91 = .ok (.iload 4, 2) := by decide +kernel
theorem dX7_copy_93 : decode cX7_copy 93 = .ok (.iload 5, 2) := by decide +kernel
theorem dX7_copy_95 : decode cX7_copy 95 = .ok (.invokevirtual 92, 3) := by decide +kernel
theorem dX7_copy_98 : decode cX7_copy 98 = .ok (.ifCond .ne 9, 3) := by decide +kernel
theorem dX7_copy_101 : decode cX7_copy 101 = .ok (.aload_n 0, 1) := by decide +kernel
theorem dX7_copy_102 : decode cX7_copy 102 = .ok (.iconst 2, 1) := by decide +kernel
theorem dX7_copy_103 : decode cX7_copy 103 = .ok (.invokevirtual 78, 3) := by decide +kernel
theorem dX7_copy_106 : decode cX7_copy 106 = .ok (.ireturn, 1) := by decide +kernel
theorem dX7_copy_107 : decode cX7_copy 107 = .ok (.aload_n 0, 1) := by decide +kernel
theorem dX7_copy_108 : decode cX7_copy 108 = .ok (.getfield 10, 3) := by decide +kernel
theorem dX7_copy_111 : decode cX7_copy 111 = .ok (.iload_n 1, 1) := by decide +kernel
theorem dX7_copy_112 : decode cX7_copy 112 = .ok (.iload_n 2, 1) := by decide +kernel
theorem dX7_copy_113 : decode cX7_copy 113 = .ok (.iload_n 3, 1) := by decide +kernel
theorem dX7_copy_114 : decode cX7_copy 114 = .ok (.iload 4, 2) := by decide +kernel
theorem dX7_copy_116 : decode cX7_copy 116 = .ok (.iload 5, 2) := by decide +kernel
theorem dX7_copy_118 : decode cX7_copy 118 = .ok (.invokevirtual 103, 3) := by decide +kernel
theorem dX7_copy_121 : decode cX7_copy 121 = .ok (.aload_n 0, 1) := by decide +kernel
theorem dX7_copy_122 : decode cX7_copy 122 = .ok (.iload 5, 2) := by decide +kernel
theorem dX7_copy_124 : decode cX7_copy 124 = .ok (.invokevirtual 86, 3) := by decide +kernel
theorem dX7_copy_127 : decode cX7_copy 127 = .ok (.ireturn, 1) := by decide +kernel
theorem dX7_drop_0 : decode cX7_drop 0 = .ok (.iload_n 1, 1) := by decide +kernel
theorem dX7_drop_1 : decode cX7_drop 1 = .ok (.invokestatic 69, 3) := by decide +kernel
theorem dX7_drop_4 : decode cX7_drop 4 = .ok (.ifCond .ne 6, 3) := by decide +kernel
theorem dX7_drop_7 : decode cX7_drop 7 = .ok (.ldc 77, 2) := by decide +kernel
theorem dX7_drop_9 : decode cX7_drop 9 = .ok (.ireturn, 1) := by decide +kernel
theorem dX7_drop_10 : decode cX7_drop 10 = .ok (.aload_n 0, 1) := by decide +kernel
theorem dX7_drop_11 : decode cX7_drop 11 = .ok (.getfield 10, 3) := by decide +kernel
theorem dX7_drop_14 : decode cX7_drop 14 = .ok (.iload_n 1, 1) := by decide +kernel
theorem dX7_drop_15 : decode cX7_drop 15 = .ok (.invokevirtual 89, 3) := by decide +kernel
theorem dX7_drop_18 : decode cX7_drop 18 = .ok (.ifCond .eq 9, 3) := by decide +kernel
theorem dX7_drop_21 : decode cX7_drop 21 = .ok (.aload_n 0, 1) := by decide +kernel
theorem dX7_drop_22 : decode cX7_drop 22 = .ok (.iconst 1, 1) := by decide +kernel
theorem dX7_drop_23 : decode cX7_drop 23 = .ok (.invokevirtual 78, 3) := by decide +kernel
theorem dX7_drop_26 : decode cX7_drop 26 = .ok (.ireturn, 1) := by decide +kernel
theorem dX7_drop_27 : decode cX7_drop 27 = .ok (.aload_n 0, 1) := by decide +kernel
theorem dX7_drop_28 : decode cX7_drop 28 = .ok (.aload_n 0, 1) := by decide +kernel
theorem dX7_drop_29 : decode cX7_drop 29 = .ok (.getfield 10, 3) := by decide +kernel
theorem dX7_drop_32 : decode cX7_drop 32 = .ok (.iload_n 1, 1) := by decide +kernel
theorem dX7_drop_33 : decode cX7_drop 33 = .ok (.invokevirtual 107, 3) := by decide +kernel
theorem dX7_drop_36 : decode cX7_drop 36 = .ok (.invokevirtual 86, 3) := by decide +kernel
theorem dX7_drop_39 : decode cX7_drop 39 = .ok (.ireturn, 1) := by decide +kernel
theorem dX7_feed_0 : decode cX7_feed 0 = .ok (.iload_n 1, 1) := by decide +kernel
theorem dX7_feed_1 : decode cX7_feed 1 = .ok (.iconst 0, 1) := by decide +kernel
theorem dX7_feed_2 : decode cX7_feed 2 = .ok (.sipush 255, 3) := by decide +kernel
theorem dX7_feed_5 : decode cX7_feed 5 = .ok (.invokestatic 73, 3) := by decide +kernel
theorem dX7_feed_8 : decode cX7_feed 8 = .ok (.ifCond .ne 6, 3) := by decide +kernel
theorem dX7_feed_11 : decode cX7_feed 11 = .ok (.ldc 77, 2) := by decide +kernel
theorem dX7_feed_13 : decode cX7_feed 13 = .ok (.ireturn, 1) := by decide +kernel
theorem dX7_feed_14 : decode cX7_feed 14 = .ok (.aload_n 0, 1) := by decide +kernel
theorem dX7_feed_15 : decode cX7_feed 15 = .ok (.getfield 19, 3) := by decide +kernel
theorem dX7_feed_18 : decode cX7_feed 18 = .ok (.iload_n 1, 1) := by decide +kernel
theorem dX7_feed_19 : decode cX7_feed 19 = .ok (.invokevirtual 110, 3) := by decide +kernel
theorem dX7_feed_22 : decode cX7_feed 22 = .ok (.ifCond .eq 13, 3) := by decide +kernel
theorem dX7_feed_25 : decode cX7_feed 25 = .ok (.aload_n 0, 1) := by decide +kernel
theorem dX7_feed_26 : decode cX7_feed 26 = .ok (.getfield 19, 3) := by decide +kernel
theorem dX7_feed_29 : decode cX7_feed 29 = .ok (.getfield 113, 3) := by decide +kernel
theorem dX7_feed_32 : decode cX7_feed 32 = .ok (.goto 5, 3) := by decide +kernel
theorem dX7_feed_35 : decode cX7_feed 35 = .ok (.ldc 117, 2) := by decide +kernel
theorem dX7_feed_37 : decode cX7_feed 37 = .ok (.ireturn, 1) := by decide +kernel
theorem dX7_fund_0 : decode cX7_fund 0 = .ok (.aload_n 0, 1) := by decide +kernel
theorem dX7_fund_1 : decode cX7_fund 1 = .ok (.getfield 19, 3) := by decide +kernel
theorem dX7_fund_4 : decode cX7_fund 4 = .ok (.aload_n 0, 1) := by decide +kernel
theorem dX7_fund_5 : decode cX7_fund 5 = .ok (.getfield 30, 3) := by decide +kernel
theorem dX7_fund_8 : decode cX7_fund 8 = .ok (.invokevirtual 118, 3) := by decide +kernel
theorem dX7_fund_11 : decode cX7_fund 11 = .ok (.istore_n 1, 1) := by decide +kernel
theorem dX7_fund_12 : decode cX7_fund 12 = .ok (.aload_n 0, 1) := by decide +kernel
theorem dX7_fund_13 : decode cX7_fund 13 = .ok (.getfield 19, 3) := by decide +kernel
theorem dX7_fund_16 : decode cX7_fund 16 = .ok (.iconst 0, 1) := by decide +kernel
theorem dX7_fund_17 : decode cX7_fund 17 = .ok (.putfield 113, 3) := by decide +kernel
theorem dX7_fund_20 : decode cX7_fund 20 = .ok (.iload_n 1, 1) := by decide +kernel
theorem dX7_fund_21 : decode cX7_fund 21 = .ok (.ifCond .ne 25, 3) := by decide +kernel
theorem dX7_fund_24 : decode cX7_fund 24 = .ok (.aload_n 0, 1) := by decide +kernel
theorem dX7_fund_25 : decode cX7_fund 25 = .ok (.aload_n 0, 1) := by decide +kernel
theorem dX7_fund_26 : decode cX7_fund 26 = .ok (.getfield 19, 3) := by decide +kernel
theorem dX7_fund_29 : decode cX7_fund 29 = .ok (.getfield 122, 3) := by decide +kernel
theorem dX7_fund_32 : decode cX7_fund 32 = .ok (.putfield 125, 3) := by decide +kernel
theorem dX7_fund_35 : decode cX7_fund 35 = .ok (.ldc 128, 2) := by decide +kernel
theorem dX7_fund_37 : decode cX7_fund 37 = .ok (.aload_n 0, 1) := by decide +kernel
theorem dX7_fund_38 : decode cX7_fund 38 = .ok (.getfield 19, 3) := by decide +kernel
theorem dX7_fund_41 : decode cX7_fund 41 = .ok (.getfield 129, 3) := by decide +kernel
theorem dX7_fund_44 : decode cX7_fund 44 = .ok (.isub, 1) := by decide +kernel
theorem dX7_fund_45 : decode cX7_fund 45 = .ok (.ireturn, 1) := by decide +kernel
theorem dX7_fund_46 : decode cX7_fund 46 = .ok (.aload_n 0, 1) := by decide +kernel
theorem dX7_fund_47 : decode cX7_fund 47 = .ok (.getfield 26, 3) := by decide +kernel
theorem dX7_fund_50 : decode cX7_fund 50 = .ok (.aload_n 0, 1) := by decide +kernel
theorem dX7_fund_51 : decode cX7_fund 51 = .ok (.getfield 30, 3) := by decide +kernel
theorem dX7_fund_54 : decode cX7_fund 54 = .ok (.invokevirtual 132, 3) := by decide +kernel
theorem dX7_fund_57 : decode cX7_fund 57 = .ok (.aload_n 0, 1) := by decide +kernel
theorem dX7_fund_58 : decode cX7_fund 58 = .ok (.getfield 40, 3) := by decide +kernel
theorem dX7_fund_61 : decode cX7_fund 61 = .ok (.invokevirtual 136, 3) := by decide +kernel
theorem dX7_fund_64 : decode cX7_fund 64 = .ok (.aload_n 0, 1) := by decide +kernel
theorem dX7_fund_65 : decode cX7_fund 65 = .ok (.getfield 26, 3) := by decide +kernel
theorem dX7_fund_68 : decode cX7_fund 68 = .ok (.getfield 139, 3) := by decide +kernel
theorem dX7_fund_71 : decode cX7_fund 71 = .ok (.ireturn, 1) := by decide +kernel
theorem dX7_fault_0 : decode cX7_fault 0 = .ok (.aload_n 0, 1) := by decide +kernel
theorem dX7_fault_1 : decode cX7_fault 1 = .ok (.getfield 125, 3) := by decide +kernel
theorem dX7_fault_4 : decode cX7_fault 4 = .ok (.ireturn, 1) := by decide +kernel
theorem dX7_undo_0 : decode cX7_undo 0 = .ok (.aload_n 0, 1) := by decide +kernel
theorem dX7_undo_1 : decode cX7_undo 1 = .ok (.getfield 40, 3) := by decide +kernel
theorem dX7_undo_4 : decode cX7_undo 4 = .ok (.getfield 142, 3) := by decide +kernel
theorem dX7_undo_7 : decode cX7_undo 7 = .ok (.ifCond .ne 6, 3) := by decide +kernel
theorem dX7_undo_10 : decode cX7_undo 10 = .ok (.ldc 145, 2) := by decide +kernel
theorem dX7_undo_12 : decode cX7_undo 12 = .ok (.ireturn, 1) := by decide +kernel
theorem dX7_undo_13 : decode cX7_undo 13 = .ok (.aload_n 0, 1) := by decide +kernel
theorem dX7_undo_14 : decode cX7_undo 14 = .ok (.getfield 40, 3) := by decide +kernel
theorem dX7_undo_17 : decode cX7_undo 17 = .ok (.aload_n 0, 1) := by decide +kernel
theorem dX7_undo_18 : decode cX7_undo 18 = .ok (.getfield 26, 3) := by decide +kernel
theorem dX7_undo_21 : decode cX7_undo 21 = .ok (.invokevirtual 146, 3) := by decide +kernel
theorem dX7_undo_24 : decode cX7_undo 24 = .ok (.aload_n 0, 1) := by decide +kernel
theorem dX7_undo_25 : decode cX7_undo 25 = .ok (.getfield 40, 3) := by decide +kernel
theorem dX7_undo_28 : decode cX7_undo 28 = .ok (.getfield 142, 3) := by decide +kernel
theorem dX7_undo_31 : decode cX7_undo 31 = .ok (.ireturn, 1) := by decide +kernel
theorem dX7_give_0 : decode cX7_give 0 = .ok (.iload_n 1, 1) := by decide +kernel
theorem dX7_give_1 : decode cX7_give 1 = .ok (.invokestatic 149, 3) := by decide +kernel
theorem dX7_give_4 : decode cX7_give 4 = .ok (.ifCond .eq 21, 3) := by decide +kernel
theorem dX7_give_7 : decode cX7_give 7 = .ok (.aload_n 0, 1) := by decide +kernel
theorem dX7_give_8 : decode cX7_give 8 = .ok (.iload_n 2, 1) := by decide +kernel
theorem dX7_give_9 : decode cX7_give 9 = .ok (.invokevirtual 152, 3) := by decide +kernel
theorem dX7_give_12 : decode cX7_give 12 = .ok (.ifCond .eq 13, 3) := by decide +kernel
theorem dX7_give_15 : decode cX7_give 15 = .ok (.iload_n 3, 1) := by decide +kernel
theorem dX7_give_16 : decode cX7_give 16 = .ok (.iconst 1, 1) := by decide +kernel
theorem dX7_give_17 : decode cX7_give 17 = .ok (.bipush 99, 2) := by decide +kernel
theorem dX7_give_19 : decode cX7_give 19 = .ok (.invokestatic 73, 3) := by decide +kernel
theorem dX7_give_22 : decode cX7_give 22 = .ok (.ifCond .ne 6, 3) := by decide +kernel
theorem dX7_give_25 : decode cX7_give 25 = .ok (.ldc 77, 2) := by decide +kernel
theorem dX7_give_27 : decode cX7_give 27 = .ok (.ireturn, 1) := by decide +kernel
theorem dX7_give_28 : decode cX7_give 28 = .ok (.aload_n 0, 1) := by decide +kernel
theorem dX7_give_29 : decode cX7_give 29 = .ok (.getfield 26, 3) := by decide +kernel
theorem dX7_give_32 : decode cX7_give 32 = .ok (.getfield 155, 3) := by decide +kernel
theorem dX7_give_35 : decode cX7_give 35 = .ok (.bipush 20, 2) := by decide +kernel
theorem dX7_give_37 : decode cX7_give 37 = .ok (.if_icmp .lt 6, 3) := by decide +kernel
theorem dX7_give_40 : decode cX7_give 40 = .ok (.ldc 117, 2) := by decide +kernel
theorem dX7_give_42 : decode cX7_give 42 = .ok (.ireturn, 1) := by decide +kernel
theorem dX7_give_43 : decode cX7_give 43 = .ok (.aload_n 0, 1) := by decide +kernel
theorem dX7_give_44 : decode cX7_give 44 = .ok (.getfield 26, 3) := by decide +kernel
theorem dX7_give_47 : decode cX7_give 47 = .ok (.aload_n 0, 1) := by decide +kernel
theorem dX7_give_48 : decode cX7_give 48 = .ok (.getfield 26, 3) := by decide +kernel
theorem dX7_give_51 : decode cX7_give 51 = .ok (.getfield 155, 3) := by decide +kernel
theorem dX7_give_54 : decode cX7_give 54 = .ok (.iload_n 1, 1) := by decide +kernel
theorem dX7_give_55 : decode cX7_give 55 = .ok (.iload_n 2, 1) := by decide +kernel
theorem dX7_give_56 : decode cX7_give 56 = .ok (.iload_n 3, 1) := by decide +kernel
theorem dX7_give_57 : decode cX7_give 57 = .ok (.invokevirtual 158, 3) := by decide +kernel
theorem dX7_give_60 : decode cX7_give 60 = .ok (.aload_n 0, 1) := by decide +kernel
theorem dX7_give_61 : decode cX7_give 61 = .ok (.getfield 40, 3) := by decide +kernel
theorem dX7_give_64 : decode cX7_give 64 = .ok (.iconst 0, 1) := by decide +kernel
theorem dX7_give_65 : decode cX7_give 65 = .ok (.iconst 0, 1) := by decide +kernel
theorem dX7_give_66 : decode cX7_give 66 = .ok (.iconst 0, 1) := by decide +kernel
theorem dX7_give_67 : decode cX7_give 67 = .ok (.iconst 0, 1) := by decide +kernel
theorem dX7_give_68 : decode cX7_give 68 = .ok (.iconst 0, 1) := by decide +kernel
theorem dX7_give_69 : decode cX7_give 69 = .ok (.invokevirtual 162, 3) := by decide +kernel
theorem dX7_give_72 : decode cX7_give 72 = .ok (.aload_n 0, 1) := by decide +kernel
theorem dX7_give_73 : decode cX7_give 73 = .ok (.getfield 26, 3) := by decide +kernel
theorem dX7_give_76 : decode cX7_give 76 = .ok (.getfield 155, 3) := by decide +kernel
theorem dX7_give_79 : decode cX7_give 79 = .ok (.ireturn, 1) := by decide +kernel
theorem dX7_back_0 : decode cX7_back 0 = .ok (.aload_n 0, 1) := by decide +kernel
theorem dX7_back_1 : decode cX7_back 1 = .ok (.iload_n 1, 1) := by decide +kernel
theorem dX7_back_2 : decode cX7_back 2 = .ok (.invokevirtual 165, 3) := by decide +kernel
theorem dX7_back_5 : decode cX7_back 5 = .ok (.ifCond .ne 6, 3) := by decide +kernel
theorem dX7_back_8 : decode cX7_back 8 = .ok (.ldc 77, 2) := by decide +kernel
theorem dX7_back_10 : decode cX7_back 10 = .ok (.ireturn, 1) := by decide +kernel
theorem dX7_back_11 : decode cX7_back 11 = .ok (.aload_n 0, 1) := by decide +kernel
theorem dX7_back_12 : decode cX7_back 12 = .ok (.getfield 26, 3) := by decide +kernel
theorem dX7_back_15 : decode cX7_back 15 = .ok (.getfield 168, 3) := by decide +kernel
theorem dX7_back_18 : decode cX7_back 18 = .ok (.iload_n 1, 1) := by decide +kernel
theorem dX7_back_19 : decode cX7_back 19 = .ok (.iaload, 1) := by decide +kernel
theorem dX7_back_20 : decode cX7_back 20 = .ok (.istore_n 2, 1) := by decide +kernel
theorem dX7_back_21 : decode cX7_back 21 = .ok (.aload_n 0, 1) := by decide +kernel
theorem dX7_back_22 : decode cX7_back 22 = .ok (.getfield 40, 3) := by decide +kernel
theorem dX7_back_25 : decode cX7_back 25 = .ok (.iconst 1, 1) := by decide +kernel
theorem dX7_back_26 : decode cX7_back 26 = .ok (.iload_n 1, 1) := by decide +kernel
theorem dX7_back_27 : decode cX7_back 27 = .ok (.aload_n 0, 1) := by decide +kernel
theorem dX7_back_28 : decode cX7_back 28 = .ok (.getfield 26, 3) := by decide +kernel
theorem dX7_back_31 : decode cX7_back 31 = .ok (.getfield 171, 3) := by decide +kernel
theorem dX7_back_34 : decode cX7_back 34 = .ok (.iload_n 1, 1) := by decide +kernel
theorem dX7_back_35 : decode cX7_back 35 = .ok (.iaload, 1) := by decide +kernel
theorem dX7_back_36 : decode cX7_back 36 = .ok (.aload_n 0, 1) := by decide +kernel
theorem dX7_back_37 : decode cX7_back 37 = .ok (.getfield 26, 3) := by decide +kernel
theorem dX7_back_40 : decode cX7_back 40 = .ok (.getfield 174, 3) := by decide +kernel
theorem dX7_back_43 : decode cX7_back 43 = .ok (.iload_n 1, 1) := by decide +kernel
theorem dX7_back_44 : decode cX7_back 44 = .ok (.iaload, 1) := by decide +kernel
theorem dX7_back_45 : decode cX7_back 45 = .ok (.iload_n 2, 1) := by decide +kernel
theorem dX7_back_46 : decode cX7_back 46 = .ok (.invokevirtual 162, 3) := by decide +kernel
theorem dX7_back_49 : decode cX7_back 49 = .ok (.aload_n 0, 1) := by decide +kernel
theorem dX7_back_50 : decode cX7_back 50 = .ok (.getfield 26, 3) := by decide +kernel
theorem dX7_back_53 : decode cX7_back 53 = .ok (.iload_n 1, 1) := by decide +kernel
theorem dX7_back_54 : decode cX7_back 54 = .ok (.invokevirtual 177, 3) := by decide +kernel
theorem dX7_back_57 : decode cX7_back 57 = .ok (.iload_n 2, 1) := by decide +kernel
theorem dX7_back_58 : decode cX7_back 58 = .ok (.ireturn, 1) := by decide +kernel
theorem dX7_pot_0 : decode cX7_pot 0 = .ok (.aload_n 0, 1) := by decide +kernel
theorem dX7_pot_1 : decode cX7_pot 1 = .ok (.getfield 26, 3) := by decide +kernel
theorem dX7_pot_4 : decode cX7_pot 4 = .ok (.getfield 181, 3) := by decide +kernel
theorem dX7_pot_7 : decode cX7_pot 7 = .ok (.ifCond .ne 6, 3) := by decide +kernel
theorem dX7_pot_10 : decode cX7_pot 10 = .ok (.ldc 145, 2) := by decide +kernel
theorem dX7_pot_12 : decode cX7_pot 12 = .ok (.ireturn, 1) := by decide +kernel
theorem dX7_pot_13 : decode cX7_pot 13 = .ok (.iload_n 1, 1) := by decide +kernel
theorem dX7_pot_14 : decode cX7_pot 14 = .ok (.iconst 0, 1) := by decide +kernel
theorem dX7_pot_15 : decode cX7_pot 15 = .ok (.sipush 999, 3) := by decide +kernel
theorem dX7_pot_18 : decode cX7_pot 18 = .ok (.invokestatic 73, 3) := by decide +kernel
theorem dX7_pot_21 : decode cX7_pot 21 = .ok (.ifCond .ne 6, 3) := by decide +kernel
theorem dX7_pot_24 : decode cX7_pot 24 = .ok (.ldc 77, 2) := by decide +kernel
theorem dX7_pot_26 : decode cX7_pot 26 = .ok (.ireturn, 1) := by decide +kernel
theorem dX7_pot_27 : decode cX7_pot 27 = .ok (.aload_n 0, 1) := by decide +kernel
theorem dX7_pot_28 : decode cX7_pot 28 = .ok (.getfield 26, 3) := by decide +kernel
theorem dX7_pot_31 : decode cX7_pot 31 = .ok (.getfield 185, 3) := by decide +kernel
theorem dX7_pot_34 : decode cX7_pot 34 = .ok (.istore_n 2, 1) := by decide +kernel
theorem dX7_pot_35 : decode cX7_pot 35 = .ok (.aload_n 0, 1) := by decide +kernel
theorem dX7_pot_36 : decode cX7_pot 36 = .ok (.getfield 40, 3) := by decide +kernel
theorem dX7_pot_39 : decode cX7_pot 39 = .ok (.iconst 2, 1) := by decide +kernel
theorem dX7_pot_40 : decode cX7_pot 40 = .ok (.iload_n 2, 1) := by decide +kernel
theorem dX7_pot_41 : decode cX7_pot 41 = .ok (.iconst 0, 1) := by decide +kernel
theorem dX7_pot_42 : decode cX7_pot 42 = .ok (.iconst 0, 1) := by decide +kernel
theorem dX7_pot_43 : decode cX7_pot 43 = .ok (.iconst 0, 1) := by decide +kernel
theorem dX7_pot_44 : decode cX7_pot 44 = .ok (.invokevirtual 162, 3) := by decide +kernel
theorem dX7_pot_47 : decode cX7_pot 47 = .ok (.aload_n 0, 1) := by decide +kernel
theorem dX7_pot_48 : decode cX7_pot 48 = .ok (.getfield 26, 3) := by decide +kernel
theorem dX7_pot_51 : decode cX7_pot 51 = .ok (.iload_n 1, 1) := by decide +kernel
theorem dX7_pot_52 : decode cX7_pot 52 = .ok (.putfield 185, 3) := by decide +kernel
theorem dX7_pot_55 : decode cX7_pot 55 = .ok (.iload_n 2, 1) := by decide +kernel
theorem dX7_pot_56 : decode cX7_pot 56 = .ok (.ireturn, 1) := by decide +kernel
theorem dX7_become_0 : decode cX7_become 0 = .ok (.aload_n 0, 1) := by decide +kernel
theorem dX7_become_1 : decode cX7_become 1 = .ok (.iload_n 1, 1) := by decide +kernel
theorem dX7_become_2 : decode cX7_become 2 = .ok (.invokevirtual 152, 3) := by decide +kernel
theorem dX7_become_5 : decode cX7_become 5 = .ok (.ifCond .eq 12, 3) := by decide +kernel
theorem dX7_become_8 : decode cX7_become 8 = .ok (.iload_n 2, 1) := by decide +kernel
theorem dX7_become_9 : decode cX7_become 9 = .ok (.iconst 1, 1) := by decide +kernel
theorem dX7_become_10 : decode cX7_become 10 = .ok (.iconst 5, 1) := by decide +kernel
theorem dX7_become_11 : decode cX7_become 11 = .ok (.invokestatic 73, 3) := by decide +kernel
theorem dX7_become_14 : decode cX7_become 14 = .ok (.ifCond .ne 6, 3) := by decide +kernel
theorem dX7_become_17 : decode cX7_become 17 = .ok (.ldc 77, 2) := by decide +kernel
theorem dX7_become_19 : decode cX7_become 19 = .ok (.ireturn, 1) := by decide +kernel
theorem dX7_become_20 : decode cX7_become 20 = .ok (.aload_n 0, 1) := by decide +kernel
theorem dX7_become_21 : decode cX7_become 21 = .ok (.getfield 26, 3) := by decide +kernel
theorem dX7_become_24 : decode cX7_become 24 = .ok (.getfield 188, 3) := by decide +kernel
theorem dX7_become_27 : decode cX7_become 27 = .ok (.iload_n 1, 1) := by decide +kernel
theorem dX7_become_28 : decode cX7_become 28 = .ok (.iaload, 1) := by decide +kernel
theorem dX7_become_29 : decode cX7_become 29 = .ok (.istore_n 3, 1) := by decide +kernel
theorem dX7_become_30 : decode cX7_become 30 = .ok (.iload_n 3, 1) := by decide +kernel
theorem dX7_become_31 : decode cX7_become 31 = .ok (.iload_n 2, 1) := by decide +kernel
theorem dX7_become_32 : decode cX7_become 32 = .ok (.if_icmp .ne 6, 3) := by decide +kernel
theorem dX7_become_35 : decode cX7_become 35 = .ok (.ldc 145, 2) := by decide +kernel
theorem dX7_become_37 : decode cX7_become 37 = .ok (.ireturn, 1) := by decide +kernel
theorem dX7_become_38 : decode cX7_become 38 = .ok (.aload_n 0, 1) := by decide +kernel
theorem dX7_become_39 : decode cX7_become 39 = .ok (.getfield 40, 3) := by decide +kernel
theorem dX7_become_42 : decode cX7_become 42 = .ok (.iconst 3, 1) := by decide +kernel
theorem dX7_become_43 : decode cX7_become 43 = .ok (.iload_n 1, 1) := by decide +kernel
theorem dX7_become_44 : decode cX7_become 44 = .ok (.iload_n 3, 1) := by decide +kernel
theorem dX7_become_45 : decode cX7_become 45 = .ok (.iconst 0, 1) := by decide +kernel
theorem dX7_become_46 : decode cX7_become 46 = .ok (.iconst 0, 1) := by decide +kernel
theorem dX7_become_47 : decode cX7_become 47 = .ok (.invokevirtual 162, 3) := by decide +kernel
theorem dX7_become_50 : decode cX7_become 50 = .ok (.aload_n 0, 1) := by decide +kernel
theorem dX7_become_51 : decode cX7_become 51 = .ok (.getfield 26, 3) := by decide +kernel
theorem dX7_become_54 : decode cX7_become 54 = .ok (.getfield 188, 3) := by decide +kernel
theorem dX7_become_57 : decode cX7_become 57 = .ok (.iload_n 1, 1) := by decide +kernel
theorem dX7_become_58 : decode cX7_become 58 = .ok (.iload_n 2, 1) := by decide +kernel
theorem dX7_become_59 : decode cX7_become 59 = .ok (.iastore, 1) := by decide +kernel
theorem dX7_become_60 : decode cX7_become 60 = .ok (.iload_n 3, 1) := by decide +kernel
theorem dX7_become_61 : decode cX7_become 61 = .ok (.ireturn, 1) := by decide +kernel
theorem dX7_one_0 : decode cX7_one 0 = .ok (.aload_n 0, 1) := by decide +kernel
theorem dX7_one_1 : decode cX7_one 1 = .ok (.getfield 26, 3) := by decide +kernel
theorem dX7_one_4 : decode cX7_one 4 = .ok (.getfield 181, 3) := by decide +kernel
theorem dX7_one_7 : decode cX7_one 7 = .ok (.ifCond .ne 6, 3) := by decide +kernel
theorem dX7_one_10 : decode cX7_one 10 = .ok (.ldc 145, 2) := by decide +kernel
theorem dX7_one_12 : decode cX7_one 12 = .ok (.ireturn, 1) := by decide +kernel
theorem dX7_one_13 : decode cX7_one 13 = .ok (.iload_n 1, 1) := by decide +kernel
theorem dX7_one_14 : decode cX7_one 14 = .ok (.iload_n 2, 1) := by decide +kernel
theorem dX7_one_15 : decode cX7_one 15 = .ok (.invokestatic 191, 3) := by decide +kernel
theorem dX7_one_18 : decode cX7_one 18 = .ok (.ifCond .ne 6, 3) := by decide +kernel
theorem dX7_one_21 : decode cX7_one 21 = .ok (.ldc 77, 2) := by decide +kernel
theorem dX7_one_23 : decode cX7_one 23 = .ok (.ireturn, 1) := by decide +kernel
theorem dX7_one_24 : decode cX7_one 24 = .ok (.aload_n 0, 1) := by decide +kernel
theorem dX7_one_25 : decode cX7_one 25 = .ok (.getfield 26, 3) := by decide +kernel
theorem dX7_one_28 : decode cX7_one 28 = .ok (.getfield 195, 3) := by decide +kernel
theorem dX7_one_31 : decode cX7_one 31 = .ok (.iload_n 1, 1) := by decide +kernel
theorem dX7_one_32 : decode cX7_one 32 = .ok (.iaload, 1) := by decide +kernel
theorem dX7_one_33 : decode cX7_one 33 = .ok (.istore_n 3, 1) := by decide +kernel
theorem dX7_one_34 : decode cX7_one 34 = .ok (.aload_n 0, 1) := by decide +kernel
theorem dX7_one_35 : decode cX7_one 35 = .ok (.getfield 26, 3) := by decide +kernel
theorem dX7_one_38 : decode cX7_one 38 = .ok (.getfield 195, 3) := by decide +kernel
theorem dX7_one_41 : decode cX7_one 41 = .ok (.iload_n 2, 1) := by decide +kernel
theorem dX7_one_42 : decode cX7_one 42 = .ok (.iaload, 1) := by decide +kernel
theorem dX7_one_43 : decode cX7_one 43 = .ok (.istore 4, 2) := by decide +kernel
theorem dX7_one_45 : decode cX7_one 45 = .ok (.iload_n 3, 1) := by decide +kernel
theorem dX7_one_46 : decode cX7_one 46 = .ok (.iload 4, 2) := by decide +kernel
theorem dX7_one_48 : decode cX7_one 48 = .ok (.if_icmp .ne 6, 3) := by decide +kernel
theorem dX7_one_51 : decode cX7_one 51 = .ok (.ldc 145, 2) := by decide +kernel
theorem dX7_one_53 : decode cX7_one 53 = .ok (.ireturn, 1) := by decide +kernel
theorem dX7_one_54 : decode cX7_one 54 = .ok (.aload_n 0, 1) := by decide +kernel
theorem dX7_one_55 : decode cX7_one 55 = .ok (.getfield 26, 3) := by decide +kernel
theorem dX7_one_58 : decode cX7_one 58 = .ok (.iload_n 3, 1) := by decide +kernel
theorem dX7_one_59 : decode cX7_one 59 = .ok (.invokevirtual 198, 3) := by decide +kernel
theorem dX7_one_62 : decode cX7_one 62 = .ok (.istore 5, 2) := by decide +kernel
theorem dX7_one_64 : decode cX7_one 64 = .ok (.aload_n 0, 1) := by decide +kernel
theorem dX7_one_65 : decode cX7_one 65 = .ok (.getfield 40, 3) := by decide +kernel
theorem dX7_one_68 : decode cX7_one 68 = .ok (.iconst 4, 1) := by decide +kernel
theorem dX7_one_69 : decode cX7_one 69 = .ok (.iload 5, 2) := by decide +kernel
theorem dX7_one_71 : decode cX7_one 71 = .ok (.iload_n 3, 1) := by decide +kernel
theorem dX7_one_72 : decode cX7_one 72 = .ok (.iconst 0, 1) := by decide +kernel
theorem dX7_one_73 : decode cX7_one 73 = .ok (.iconst 0, 1) := by decide +kernel
theorem dX7_one_74 : decode cX7_one 74 = .ok (.invokevirtual 162, 3) := by decide +kernel
theorem dX7_one_77 : decode cX7_one 77 = .ok (.aload_n 0, 1) := by decide +kernel
theorem dX7_one_78 : decode cX7_one 78 = .ok (.getfield 26, 3) := by decide +kernel
theorem dX7_one_81 : decode cX7_one 81 = .ok (.iload 5, 2) := by decide +kernel
theorem dX7_one_83 : decode cX7_one 83 = .ok (.iload 4, 2) := by decide +kernel
theorem dX7_one_85 : decode cX7_one 85 = .ok (.invokevirtual 201, 3) := by decide +kernel
theorem dX7_one_88 : decode cX7_one 88 = .ok (.iload 4, 2) := by decide +kernel
theorem dX7_one_90 : decode cX7_one 90 = .ok (.ireturn, 1) := by decide +kernel
theorem dX7_gift_0 : decode cX7_gift 0 = .ok (.aload_n 0, 1) := by decide +kernel
theorem dX7_gift_1 : decode cX7_gift 1 = .ok (.iload_n 1, 1) := by decide +kernel
theorem dX7_gift_2 : decode cX7_gift 2 = .ok (.invokevirtual 165, 3) := by decide +kernel
theorem dX7_gift_5 : decode cX7_gift 5 = .ok (.ifCond .ne 6, 3) := by decide +kernel
theorem dX7_gift_8 : decode cX7_gift 8 = .ok (.ldc 77, 2) := by decide +kernel
theorem dX7_gift_10 : decode cX7_gift 10 = .ok (.ireturn, 1) := by decide +kernel
theorem dX7_gift_11 : decode cX7_gift 11 = .ok (.iload_n 2, 1) := by decide +kernel
theorem dX7_gift_12 : decode cX7_gift 12 = .ok (.tableswitch 58 0 2 #[28, 38, 48], 28) := by decide +kernel
theorem dX7_gift_40 : decode cX7_gift 40 = .ok (.aload_n 0, 1) := by decide +kernel
theorem dX7_gift_41 : decode cX7_gift 41 = .ok (.getfield 26, 3) := by decide +kernel
theorem dX7_gift_44 : decode cX7_gift 44 = .ok (.getfield 171, 3) := by decide +kernel
theorem dX7_gift_47 : decode cX7_gift 47 = .ok (.iload_n 1, 1) := by decide +kernel
theorem dX7_gift_48 : decode cX7_gift 48 = .ok (.iaload, 1) := by decide +kernel
theorem dX7_gift_49 : decode cX7_gift 49 = .ok (.ireturn, 1) := by decide +kernel
theorem dX7_gift_50 : decode cX7_gift 50 = .ok (.aload_n 0, 1) := by decide +kernel
theorem dX7_gift_51 : decode cX7_gift 51 = .ok (.getfield 26, 3) := by decide +kernel
theorem dX7_gift_54 : decode cX7_gift 54 = .ok (.getfield 174, 3) := by decide +kernel
theorem dX7_gift_57 : decode cX7_gift 57 = .ok (.iload_n 1, 1) := by decide +kernel
theorem dX7_gift_58 : decode cX7_gift 58 = .ok (.iaload, 1) := by decide +kernel
theorem dX7_gift_59 : decode cX7_gift 59 = .ok (.ireturn, 1) := by decide +kernel
theorem dX7_gift_60 : decode cX7_gift 60 = .ok (.aload_n 0, 1) := by decide +kernel
theorem dX7_gift_61 : decode cX7_gift 61 = .ok (.getfield 26, 3) := by decide +kernel
theorem dX7_gift_64 : decode cX7_gift 64 = .ok (.getfield 168, 3) := by decide +kernel
theorem dX7_gift_67 : decode cX7_gift 67 = .ok (.iload_n 1, 1) := by decide +kernel
theorem dX7_gift_68 : decode cX7_gift 68 = .ok (.iaload, 1) := by decide +kernel
theorem dX7_gift_69 : decode cX7_gift 69 = .ok (.ireturn, 1) := by decide +kernel
theorem dX7_gift_70 : decode cX7_gift 70 = .ok (.ldc 77, 2) := by decide +kernel
theorem dX7_gift_72 : decode cX7_gift 72 = .ok (.ireturn, 1) := by decide +kernel
theorem dX7_nameOf_0 : decode cX7_nameOf 0 = .ok (.aload_n 0, 1) := by decide +kernel
theorem dX7_nameOf_1 : decode cX7_nameOf 1 = .ok (.getfield 26, 3) := by decide +kernel
theorem dX7_nameOf_4 : decode cX7_nameOf 4 = .ok (.getfield 181, 3) := by decide +kernel
theorem dX7_nameOf_7 : decode cX7_nameOf 7 = .ok (.ifCond .ne 6, 3) := by decide +kernel
theorem dX7_nameOf_10 : decode cX7_nameOf 10 = .ok (.ldc 145, 2) := by decide +kernel
theorem dX7_nameOf_12 : decode cX7_nameOf 12 = .ok (.ireturn, 1) := by decide +kernel
theorem dX7_nameOf_13 : decode cX7_nameOf 13 = .ok (.iload_n 1, 1) := by decide +kernel
theorem dX7_nameOf_14 : decode cX7_nameOf 14 = .ok (.invokestatic 149, 3) := by decide +kernel
theorem dX7_nameOf_17 : decode cX7_nameOf 17 = .ok (.ifCond .eq 15, 3) := by decide +kernel
theorem dX7_nameOf_20 : decode cX7_nameOf 20 = .ok (.aload_n 0, 1) := by decide +kernel
theorem dX7_nameOf_21 : decode cX7_nameOf 21 = .ok (.getfield 26, 3) := by decide +kernel
theorem dX7_nameOf_24 : decode cX7_nameOf 24 = .ok (.getfield 195, 3) := by decide +kernel
theorem dX7_nameOf_27 : decode cX7_nameOf 27 = .ok (.iload_n 1, 1) := by decide +kernel
theorem dX7_nameOf_28 : decode cX7_nameOf 28 = .ok (.iaload, 1) := by decide +kernel
theorem dX7_nameOf_29 : decode cX7_nameOf 29 = .ok (.goto 5, 3) := by decide +kernel
theorem dX7_nameOf_32 : decode cX7_nameOf 32 = .ok (.ldc 77, 2) := by decide +kernel
theorem dX7_nameOf_34 : decode cX7_nameOf 34 = .ok (.ireturn, 1) := by decide +kernel
theorem dX7_root_0 : decode cX7_root 0 = .ok (.iload_n 1, 1) := by decide +kernel
theorem dX7_root_1 : decode cX7_root 1 = .ok (.iconst 0, 1) := by decide +kernel
theorem dX7_root_2 : decode cX7_root 2 = .ok (.sipush 1980, 3) := by decide +kernel
theorem dX7_root_5 : decode cX7_root 5 = .ok (.invokestatic 73, 3) := by decide +kernel
theorem dX7_root_8 : decode cX7_root 8 = .ok (.ifCond .eq 10, 3) := by decide +kernel
theorem dX7_root_11 : decode cX7_root 11 = .ok (.iload_n 1, 1) := by decide +kernel
theorem dX7_root_12 : decode cX7_root 12 = .ok (.invokestatic 205, 3) := by decide +kernel
theorem dX7_root_15 : decode cX7_root 15 = .ok (.goto 5, 3) := by decide +kernel
theorem dX7_root_18 : decode cX7_root 18 = .ok (.ldc 77, 2) := by decide +kernel
theorem dX7_root_20 : decode cX7_root 20 = .ok (.ireturn, 1) := by decide +kernel
theorem dX7_sum_0 : decode cX7_sum 0 = .ok (.iload_n 1, 1) := by decide +kernel
theorem dX7_sum_1 : decode cX7_sum 1 = .ok (.invokestatic 149, 3) := by decide +kernel
theorem dX7_sum_4 : decode cX7_sum 4 = .ok (.ifCond .eq 11, 3) := by decide +kernel
theorem dX7_sum_7 : decode cX7_sum 7 = .ok (.aload_n 0, 1) := by decide +kernel
theorem dX7_sum_8 : decode cX7_sum 8 = .ok (.iload_n 2, 1) := by decide +kernel
theorem dX7_sum_9 : decode cX7_sum 9 = .ok (.invokevirtual 152, 3) := by decide +kernel
theorem dX7_sum_12 : decode cX7_sum 12 = .ok (.ifCond .ne 6, 3) := by decide +kernel
theorem dX7_sum_15 : decode cX7_sum 15 = .ok (.ldc 77, 2) := by decide +kernel
theorem dX7_sum_17 : decode cX7_sum 17 = .ok (.ireturn, 1) := by decide +kernel
theorem dX7_sum_18 : decode cX7_sum 18 = .ok (.aload_n 0, 1) := by decide +kernel
theorem dX7_sum_19 : decode cX7_sum 19 = .ok (.getfield 47, 3) := by decide +kernel
theorem dX7_sum_22 : decode cX7_sum 22 = .ok (.aload_n 0, 1) := by decide +kernel
theorem dX7_sum_23 : decode cX7_sum 23 = .ok (.getfield 26, 3) := by decide +kernel
theorem dX7_sum_26 : decode cX7_sum 26 = .ok (.invokevirtual 208, 3) := by decide +kernel
theorem dX7_sum_29 : decode cX7_sum 29 = .ok (.aload_n 0, 1) := by decide +kernel
theorem dX7_sum_30 : decode cX7_sum 30 = .ok (.getfield 47, 3) := by decide +kernel
theorem dX7_sum_33 : decode cX7_sum 33 = .ok (.iload_n 1, 1) := by decide +kernel
theorem dX7_sum_34 : decode cX7_sum 34 = .ok (.iload_n 2, 1) := by decide +kernel
theorem dX7_sum_35 : decode cX7_sum 35 = .ok (.invokevirtual 210, 3) := by decide +kernel
theorem dX7_sum_38 : decode cX7_sum 38 = .ok (.ireturn, 1) := by decide +kernel
theorem dX7_overlap_0 : decode cX7_overlap 0 = .ok (.aload_n 0, 1) := by decide +kernel
theorem dX7_overlap_1 : decode cX7_overlap 1 = .ok (.getfield 26, 3) := by decide +kernel
theorem dX7_overlap_4 : decode cX7_overlap 4 = .ok (.getfield 181, 3) := by decide +kernel
theorem dX7_overlap_7 : decode cX7_overlap 7 = .ok (.ifCond .ne 6, 3) := by decide +kernel
theorem dX7_overlap_10 : decode cX7_overlap 10 = .ok (.ldc 145, 2) := by decide +kernel
theorem dX7_overlap_12 : decode cX7_overlap 12 = .ok (.ireturn, 1) := by decide +kernel
theorem dX7_overlap_13 : decode cX7_overlap 13 = .ok (.iload_n 1, 1) := by decide +kernel
theorem dX7_overlap_14 : decode cX7_overlap 14 = .ok (.iload_n 2, 1) := by decide +kernel
theorem dX7_overlap_15 : decode cX7_overlap 15 = .ok (.invokestatic 191, 3) := by decide +kernel
theorem dX7_overlap_18 : decode cX7_overlap 18 = .ok (.ifCond .ne 6, 3) := by decide +kernel
theorem dX7_overlap_21 : decode cX7_overlap 21 = .ok (.ldc 77, 2) := by decide +kernel
theorem dX7_overlap_23 : decode cX7_overlap 23 = .ok (.ireturn, 1) := by decide +kernel
theorem dX7_overlap_24 : decode cX7_overlap 24 = .ok (.aload_n 0, 1) := by decide +kernel
theorem dX7_overlap_25 : decode cX7_overlap 25 = .ok (.getfield 47, 3) := by decide +kernel
theorem dX7_overlap_28 : decode cX7_overlap 28 = .ok (.aload_n 0, 1) := by decide +kernel
theorem dX7_overlap_29 : decode cX7_overlap 29 = .ok (.getfield 26, 3) := by decide +kernel
theorem dX7_overlap_32 : decode cX7_overlap 32 = .ok (.invokevirtual 208, 3) := by decide +kernel
theorem dX7_overlap_35 : decode cX7_overlap 35 = .ok (.aload_n 0, 1) := by decide +kernel
theorem dX7_overlap_36 : decode cX7_overlap 36 = .ok (.getfield 47, 3) := by decide +kernel
theorem dX7_overlap_39 : decode cX7_overlap 39 = .ok (.iload_n 1, 1) := by decide +kernel
theorem dX7_overlap_40 : decode cX7_overlap 40 = .ok (.iload_n 2, 1) := by decide +kernel
theorem dX7_overlap_41 : decode cX7_overlap 41 = .ok (.invokevirtual 214, 3) := by decide +kernel
theorem dX7_overlap_44 : decode cX7_overlap 44 = .ok (.ireturn, 1) := by decide +kernel
theorem dX7_term_0 : decode cX7_term 0 = .ok (.iload_n 1, 1) := by decide +kernel
theorem dX7_term_1 : decode cX7_term 1 = .ok (.iload_n 2, 1) := by decide +kernel
theorem dX7_term_2 : decode cX7_term 2 = .ok (.invokestatic 191, 3) := by decide +kernel
theorem dX7_term_5 : decode cX7_term 5 = .ok (.ifCond .eq 11, 3) := by decide +kernel
theorem dX7_term_8 : decode cX7_term 8 = .ok (.aload_n 0, 1) := by decide +kernel
theorem dX7_term_9 : decode cX7_term 9 = .ok (.iload_n 3, 1) := by decide +kernel
theorem dX7_term_10 : decode cX7_term 10 = .ok (.invokevirtual 152, 3) := by decide +kernel
theorem dX7_term_13 : decode cX7_term 13 = .ok (.ifCond .ne 6, 3) := by decide +kernel
theorem dX7_term_16 : decode cX7_term 16 = .ok (.ldc 77, 2) := by decide +kernel
theorem dX7_term_18 : decode cX7_term 18 = .ok (.ireturn, 1) := by decide +kernel
theorem dX7_term_19 : decode cX7_term 19 = .ok (.aload_n 0, 1) := by decide +kernel
theorem dX7_term_20 : decode cX7_term 20 = .ok (.getfield 47, 3) := by decide +kernel
theorem dX7_term_23 : decode cX7_term 23 = .ok (.aload_n 0, 1) := by decide +kernel
theorem dX7_term_24 : decode cX7_term 24 = .ok (.getfield 26, 3) := by decide +kernel
theorem dX7_term_27 : decode cX7_term 27 = .ok (.invokevirtual 208, 3) := by decide +kernel
theorem dX7_term_30 : decode cX7_term 30 = .ok (.aload_n 0, 1) := by decide +kernel
theorem dX7_term_31 : decode cX7_term 31 = .ok (.getfield 47, 3) := by decide +kernel
theorem dX7_term_34 : decode cX7_term 34 = .ok (.iload_n 1, 1) := by decide +kernel
theorem dX7_term_35 : decode cX7_term 35 = .ok (.iload_n 2, 1) := by decide +kernel
theorem dX7_term_36 : decode cX7_term 36 = .ok (.iload_n 3, 1) := by decide +kernel
theorem dX7_term_37 : decode cX7_term 37 = .ok (.aload_n 0, 1) := by decide +kernel
theorem dX7_term_38 : decode cX7_term 38 = .ok (.getfield 47, 3) := by decide +kernel
theorem dX7_term_41 : decode cX7_term 41 = .ok (.iload_n 1, 1) := by decide +kernel
theorem dX7_term_42 : decode cX7_term 42 = .ok (.iload_n 2, 1) := by decide +kernel
theorem dX7_term_43 : decode cX7_term 43 = .ok (.invokevirtual 214, 3) := by decide +kernel
theorem dX7_term_46 : decode cX7_term 46 = .ok (.invokevirtual 217, 3) := by decide +kernel
theorem dX7_term_49 : decode cX7_term 49 = .ok (.ireturn, 1) := by decide +kernel
theorem dX7_project_0 : decode cX7_project 0 = .ok (.aload_n 0, 1) := by decide +kernel
theorem dX7_project_1 : decode cX7_project 1 = .ok (.iload_n 1, 1) := by decide +kernel
theorem dX7_project_2 : decode cX7_project 2 = .ok (.invokevirtual 152, 3) := by decide +kernel
theorem dX7_project_5 : decode cX7_project 5 = .ok (.ifCond .eq 12, 3) := by decide +kernel
theorem dX7_project_8 : decode cX7_project 8 = .ok (.iload_n 2, 1) := by decide +kernel
theorem dX7_project_9 : decode cX7_project 9 = .ok (.iconst 0, 1) := by decide +kernel
theorem dX7_project_10 : decode cX7_project 10 = .ok (.iconst 2, 1) := by decide +kernel
theorem dX7_project_11 : decode cX7_project 11 = .ok (.invokestatic 73, 3) := by decide +kernel
theorem dX7_project_14 : decode cX7_project 14 = .ok (.ifCond .ne 6, 3) := by decide +kernel
theorem dX7_project_17 : decode cX7_project 17 = .ok (.ldc 77, 2) := by decide +kernel
theorem dX7_project_19 : decode cX7_project 19 = .ok (.ireturn, 1) := by decide +kernel
theorem dX7_project_20 : decode cX7_project 20 = .ok (.aload_n 0, 1) := by decide +kernel
theorem dX7_project_21 : decode cX7_project 21 = .ok (.getfield 47, 3) := by decide +kernel
theorem dX7_project_24 : decode cX7_project 24 = .ok (.aload_n 0, 1) := by decide +kernel
theorem dX7_project_25 : decode cX7_project 25 = .ok (.getfield 26, 3) := by decide +kernel
theorem dX7_project_28 : decode cX7_project 28 = .ok (.invokevirtual 221, 3) := by decide +kernel
theorem dX7_project_31 : decode cX7_project 31 = .ok (.aload_n 0, 1) := by decide +kernel
theorem dX7_project_32 : decode cX7_project 32 = .ok (.getfield 47, 3) := by decide +kernel
theorem dX7_project_35 : decode cX7_project 35 = .ok (.invokevirtual 224, 3) := by decide +kernel
theorem dX7_project_38 : decode cX7_project 38 = .ok (.iload_n 2, 1) := by decide +kernel
theorem dX7_project_39 : decode cX7_project 39 = .ok (.lookupswitch 45 #[(0, 25), (1, 35)], 25) := by decide +kernel
theorem dX7_project_64 : decode cX7_project 64 = .ok (.aload_n 0, 1) := by decide +kernel
theorem dX7_project_65 : decode cX7_project 65 = .ok (.getfield 47, 3) := by decide +kernel
theorem dX7_project_68 : decode cX7_project 68 = .ok (.getfield 227, 3) := by decide +kernel
theorem dX7_project_71 : decode cX7_project 71 = .ok (.iload_n 1, 1) := by decide +kernel
theorem dX7_project_72 : decode cX7_project 72 = .ok (.iaload, 1) := by decide +kernel
theorem dX7_project_73 : decode cX7_project 73 = .ok (.ireturn, 1) := by decide +kernel
theorem dX7_project_74 : decode cX7_project 74 = .ok (.aload_n 0, 1) := by decide +kernel
theorem dX7_project_75 : decode cX7_project 75 = .ok (.getfield 47, 3) := by decide +kernel
theorem dX7_project_78 : decode cX7_project 78 = .ok (.getfield 230, 3) := by decide +kernel
theorem dX7_project_81 : decode cX7_project 81 = .ok (.iload_n 1, 1) := by decide +kernel
theorem dX7_project_82 : decode cX7_project 82 = .ok (.iaload, 1) := by decide +kernel
theorem dX7_project_83 : decode cX7_project 83 = .ok (.ireturn, 1) := by decide +kernel
theorem dX7_project_84 : decode cX7_project 84 = .ok (.aload_n 0, 1) := by decide +kernel
theorem dX7_project_85 : decode cX7_project 85 = .ok (.getfield 47, 3) := by decide +kernel
theorem dX7_project_88 : decode cX7_project 88 = .ok (.iload_n 1, 1) := by decide +kernel
theorem dX7_project_89 : decode cX7_project 89 = .ok (.invokevirtual 233, 3) := by decide +kernel
theorem dX7_project_92 : decode cX7_project 92 = .ok (.ireturn, 1) := by decide +kernel
theorem dX7_stand_0 : decode cX7_stand 0 = .ok (.aload_n 0, 1) := by decide +kernel
theorem dX7_stand_1 : decode cX7_stand 1 = .ok (.getfield 26, 3) := by decide +kernel
theorem dX7_stand_4 : decode cX7_stand 4 = .ok (.getfield 181, 3) := by decide +kernel
theorem dX7_stand_7 : decode cX7_stand 7 = .ok (.ifCond .ne 6, 3) := by decide +kernel
theorem dX7_stand_10 : decode cX7_stand 10 = .ok (.ldc 145, 2) := by decide +kernel
theorem dX7_stand_12 : decode cX7_stand 12 = .ok (.ireturn, 1) := by decide +kernel
theorem dX7_stand_13 : decode cX7_stand 13 = .ok (.aload_n 0, 1) := by decide +kernel
theorem dX7_stand_14 : decode cX7_stand 14 = .ok (.getfield 47, 3) := by decide +kernel
theorem dX7_stand_17 : decode cX7_stand 17 = .ok (.aload_n 0, 1) := by decide +kernel
theorem dX7_stand_18 : decode cX7_stand 18 = .ok (.getfield 26, 3) := by decide +kernel
theorem dX7_stand_21 : decode cX7_stand 21 = .ok (.invokevirtual 221, 3) := by decide +kernel
theorem dX7_stand_24 : decode cX7_stand 24 = .ok (.aload_n 0, 1) := by decide +kernel
theorem dX7_stand_25 : decode cX7_stand 25 = .ok (.getfield 47, 3) := by decide +kernel
theorem dX7_stand_28 : decode cX7_stand 28 = .ok (.invokevirtual 224, 3) := by decide +kernel
theorem dX7_stand_31 : decode cX7_stand 31 = .ok (.iload_n 1, 1) := by decide +kernel
theorem dX7_stand_32 : decode cX7_stand 32 = .ok (.tableswitch 64 0 3 #[32, 40, 48, 56], 32) := by decide +kernel
theorem dX7_stand_64 : decode cX7_stand 64 = .ok (.aload_n 0, 1) := by decide +kernel
theorem dX7_stand_65 : decode cX7_stand 65 = .ok (.getfield 26, 3) := by decide +kernel
theorem dX7_stand_68 : decode cX7_stand 68 = .ok (.getfield 185, 3) := by decide +kernel
theorem dX7_stand_71 : decode cX7_stand 71 = .ok (.ireturn, 1) := by decide +kernel
theorem dX7_stand_72 : decode cX7_stand 72 = .ok (.aload_n 0, 1) := by decide +kernel
theorem dX7_stand_73 : decode cX7_stand 73 = .ok (.getfield 47, 3) := by decide +kernel
theorem dX7_stand_76 : decode cX7_stand 76 = .ok (.getfield 236, 3) := by decide +kernel
theorem dX7_stand_79 : decode cX7_stand 79 = .ok (.ireturn, 1) := by decide +kernel
theorem dX7_stand_80 : decode cX7_stand 80 = .ok (.aload_n 0, 1) := by decide +kernel
theorem dX7_stand_81 : decode cX7_stand 81 = .ok (.getfield 47, 3) := by decide +kernel
theorem dX7_stand_84 : decode cX7_stand 84 = .ok (.invokevirtual 239, 3) := by decide +kernel
theorem dX7_stand_87 : decode cX7_stand 87 = .ok (.ireturn, 1) := by decide +kernel
theorem dX7_stand_88 : decode cX7_stand 88 = .ok (.aload_n 0, 1) := by decide +kernel
theorem dX7_stand_89 : decode cX7_stand 89 = .ok (.getfield 47, 3) := by decide +kernel
theorem dX7_stand_92 : decode cX7_stand 92 = .ok (.getfield 243, 3) := by decide +kernel
theorem dX7_stand_95 : decode cX7_stand 95 = .ok (.ireturn, 1) := by decide +kernel
theorem dX7_stand_96 : decode cX7_stand 96 = .ok (.ldc 77, 2) := by decide +kernel
theorem dX7_stand_98 : decode cX7_stand 98 = .ok (.ireturn, 1) := by decide +kernel
theorem dX7_paidIf_0 : decode cX7_paidIf 0 = .ok (.iload_n 1, 1) := by decide +kernel
theorem dX7_paidIf_1 : decode cX7_paidIf 1 = .ok (.invokestatic 149, 3) := by decide +kernel
theorem dX7_paidIf_4 : decode cX7_paidIf 4 = .ok (.ifCond .eq 30, 3) := by decide +kernel
theorem dX7_paidIf_7 : decode cX7_paidIf 7 = .ok (.aload_n 0, 1) := by decide +kernel
theorem dX7_paidIf_8 : decode cX7_paidIf 8 = .ok (.iload_n 2, 1) := by decide +kernel
theorem dX7_paidIf_9 : decode cX7_paidIf 9 = .ok (.invokevirtual 152, 3) := by decide +kernel
theorem dX7_paidIf_12 : decode cX7_paidIf 12 = .ok (.ifCond .eq 22, 3) := by decide +kernel
theorem dX7_paidIf_15 : decode cX7_paidIf 15 = .ok (.iload_n 3, 1) := by decide +kernel
theorem dX7_paidIf_16 : decode cX7_paidIf 16 = .ok (.iconst 0, 1) := by decide +kernel
theorem dX7_paidIf_17 : decode cX7_paidIf 17 = .ok (.bipush 99, 2) := by decide +kernel
theorem dX7_paidIf_19 : decode cX7_paidIf 19 = .ok (.invokestatic 73, 3) := by decide +kernel
theorem dX7_paidIf_22 : decode cX7_paidIf 22 = .ok (.ifCond .eq 12, 3) := by decide +kernel
theorem dX7_paidIf_25 : decode cX7_paidIf 25 = .ok (.aload_n 0, 1) := by decide +kernel
theorem dX7_paidIf_26 : decode cX7_paidIf 26 = .ok (.iload 4, 2) := by decide +kernel
theorem dX7_paidIf_28 : decode cX7_paidIf 28 = .ok (.invokevirtual 152, 3) := by decide +kernel
theorem dX7_paidIf_31 : decode cX7_paidIf 31 = .ok (.ifCond .ne 6, 3) := by decide +kernel
theorem dX7_paidIf_34 : decode cX7_paidIf 34 = .ok (.ldc 77, 2) := by decide +kernel
theorem dX7_paidIf_36 : decode cX7_paidIf 36 = .ok (.ireturn, 1) := by decide +kernel
theorem dX7_paidIf_37 : decode cX7_paidIf 37 = .ok (.iload_n 3, 1) := by decide +kernel
theorem dX7_paidIf_38 : decode cX7_paidIf 38 = .ok (.ifCond .le 18, 3) := by decide +kernel
theorem dX7_paidIf_41 : decode cX7_paidIf 41 = .ok (.aload_n 0, 1) := by decide +kernel
theorem dX7_paidIf_42 : decode cX7_paidIf 42 = .ok (.getfield 26, 3) := by decide +kernel
theorem dX7_paidIf_45 : decode cX7_paidIf 45 = .ok (.getfield 155, 3) := by decide +kernel
theorem dX7_paidIf_48 : decode cX7_paidIf 48 = .ok (.bipush 20, 2) := by decide +kernel
theorem dX7_paidIf_50 : decode cX7_paidIf 50 = .ok (.if_icmp .lt 6, 3) := by decide +kernel
theorem dX7_paidIf_53 : decode cX7_paidIf 53 = .ok (.ldc 117, 2) := by decide +kernel
theorem dX7_paidIf_55 : decode cX7_paidIf 55 = .ok (.ireturn, 1) := by decide +kernel
theorem dX7_paidIf_56 : decode cX7_paidIf 56 = .ok (.aload_n 0, 1) := by decide +kernel
theorem dX7_paidIf_57 : decode cX7_paidIf 57 = .ok (.getfield 56, 3) := by decide +kernel
theorem dX7_paidIf_60 : decode cX7_paidIf 60 = .ok (.iload_n 1, 1) := by decide +kernel
theorem dX7_paidIf_61 : decode cX7_paidIf 61 = .ok (.iload_n 2, 1) := by decide +kernel
theorem dX7_paidIf_62 : decode cX7_paidIf 62 = .ok (.iload_n 3, 1) := by decide +kernel
theorem dX7_paidIf_63 : decode cX7_paidIf 63 = .ok (.iload 4, 2) := by decide +kernel
theorem dX7_paidIf_65 : decode cX7_paidIf 65 = .ok (.invokevirtual 246, 3) := by decide +kernel
theorem dX7_paidIf_68 : decode cX7_paidIf 68 = .ok (.ireturn, 1) := by decide +kernel
theorem dX7_best_0 : decode cX7_best 0 = .ok (.aload_n 0, 1) := by decide +kernel
theorem dX7_best_1 : decode cX7_best 1 = .ok (.getfield 26, 3) := by decide +kernel
theorem dX7_best_4 : decode cX7_best 4 = .ok (.getfield 181, 3) := by decide +kernel
theorem dX7_best_7 : decode cX7_best 7 = .ok (.ifCond .ne 6, 3) := by decide +kernel
theorem dX7_best_10 : decode cX7_best 10 = .ok (.ldc 145, 2) := by decide +kernel
theorem dX7_best_12 : decode cX7_best 12 = .ok (.ireturn, 1) := by decide +kernel
theorem dX7_best_13 : decode cX7_best 13 = .ok (.iload_n 1, 1) := by decide +kernel
theorem dX7_best_14 : decode cX7_best 14 = .ok (.invokestatic 149, 3) := by decide +kernel
theorem dX7_best_17 : decode cX7_best 17 = .ok (.ifCond .eq 22, 3) := by decide +kernel
theorem dX7_best_20 : decode cX7_best 20 = .ok (.iload_n 2, 1) := by decide +kernel
theorem dX7_best_21 : decode cX7_best 21 = .ok (.iconst 1, 1) := by decide +kernel
theorem dX7_best_22 : decode cX7_best 22 = .ok (.bipush 99, 2) := by decide +kernel
theorem dX7_best_24 : decode cX7_best 24 = .ok (.invokestatic 73, 3) := by decide +kernel
theorem dX7_best_27 : decode cX7_best 27 = .ok (.ifCond .eq 12, 3) := by decide +kernel
theorem dX7_best_30 : decode cX7_best 30 = .ok (.iload_n 3, 1) := by decide +kernel
theorem dX7_best_31 : decode cX7_best 31 = .ok (.iconst 0, 1) := by decide +kernel
theorem dX7_best_32 : decode cX7_best 32 = .ok (.iconst 1, 1) := by decide +kernel
theorem dX7_best_33 : decode cX7_best 33 = .ok (.invokestatic 73, 3) := by decide +kernel
theorem dX7_best_36 : decode cX7_best 36 = .ok (.ifCond .ne 6, 3) := by decide +kernel
theorem dX7_best_39 : decode cX7_best 39 = .ok (.ldc 77, 2) := by decide +kernel
theorem dX7_best_41 : decode cX7_best 41 = .ok (.ireturn, 1) := by decide +kernel
theorem dX7_best_42 : decode cX7_best 42 = .ok (.aload_n 0, 1) := by decide +kernel
theorem dX7_best_43 : decode cX7_best 43 = .ok (.getfield 26, 3) := by decide +kernel
theorem dX7_best_46 : decode cX7_best 46 = .ok (.getfield 155, 3) := by decide +kernel
theorem dX7_best_49 : decode cX7_best 49 = .ok (.bipush 20, 2) := by decide +kernel
theorem dX7_best_51 : decode cX7_best 51 = .ok (.if_icmp .lt 6, 3) := by decide +kernel
theorem dX7_best_54 : decode cX7_best 54 = .ok (.ldc 117, 2) := by decide +kernel
theorem dX7_best_56 : decode cX7_best 56 = .ok (.ireturn, 1) := by decide +kernel
theorem dX7_best_57 : decode cX7_best 57 = .ok (.aload_n 0, 1) := by decide +kernel
theorem dX7_best_58 : decode cX7_best 58 = .ok (.getfield 56, 3) := by decide +kernel
theorem dX7_best_61 : decode cX7_best 61 = .ok (.iload_n 1, 1) := by decide +kernel
theorem dX7_best_62 : decode cX7_best 62 = .ok (.iload_n 2, 1) := by decide +kernel
theorem dX7_best_63 : decode cX7_best 63 = .ok (.iload_n 3, 1) := by decide +kernel
theorem dX7_best_64 : decode cX7_best 64 = .ok (.invokevirtual 249, 3) := by decide +kernel
theorem dX7_best_67 : decode cX7_best 67 = .ok (.ireturn, 1) := by decide +kernel
theorem dX7_least_0 : decode cX7_least 0 = .ok (.iload_n 1, 1) := by decide +kernel
theorem dX7_least_1 : decode cX7_least 1 = .ok (.invokestatic 149, 3) := by decide +kernel
theorem dX7_least_4 : decode cX7_least 4 = .ok (.ifCond .eq 22, 3) := by decide +kernel
theorem dX7_least_7 : decode cX7_least 7 = .ok (.aload_n 0, 1) := by decide +kernel
theorem dX7_least_8 : decode cX7_least 8 = .ok (.iload_n 2, 1) := by decide +kernel
theorem dX7_least_9 : decode cX7_least 9 = .ok (.invokevirtual 152, 3) := by decide +kernel
theorem dX7_least_12 : decode cX7_least 12 = .ok (.ifCond .eq 14, 3) := by decide +kernel
theorem dX7_least_15 : decode cX7_least 15 = .ok (.iload_n 3, 1) := by decide +kernel
theorem dX7_least_16 : decode cX7_least 16 = .ok (.iconst 1, 1) := by decide +kernel
theorem dX7_least_17 : decode cX7_least 17 = .ok (.sipush 9999, 3) := by decide +kernel
theorem dX7_least_20 : decode cX7_least 20 = .ok (.invokestatic 73, 3) := by decide +kernel
theorem dX7_least_23 : decode cX7_least 23 = .ok (.ifCond .ne 6, 3) := by decide +kernel
theorem dX7_least_26 : decode cX7_least 26 = .ok (.ldc 77, 2) := by decide +kernel
theorem dX7_least_28 : decode cX7_least 28 = .ok (.ireturn, 1) := by decide +kernel
theorem dX7_least_29 : decode cX7_least 29 = .ok (.aload_n 0, 1) := by decide +kernel
theorem dX7_least_30 : decode cX7_least 30 = .ok (.getfield 26, 3) := by decide +kernel
theorem dX7_least_33 : decode cX7_least 33 = .ok (.getfield 155, 3) := by decide +kernel
theorem dX7_least_36 : decode cX7_least 36 = .ok (.bipush 20, 2) := by decide +kernel
theorem dX7_least_38 : decode cX7_least 38 = .ok (.if_icmp .lt 6, 3) := by decide +kernel
theorem dX7_least_41 : decode cX7_least 41 = .ok (.ldc 117, 2) := by decide +kernel
theorem dX7_least_43 : decode cX7_least 43 = .ok (.ireturn, 1) := by decide +kernel
theorem dX7_least_44 : decode cX7_least 44 = .ok (.aload_n 0, 1) := by decide +kernel
theorem dX7_least_45 : decode cX7_least 45 = .ok (.getfield 56, 3) := by decide +kernel
theorem dX7_least_48 : decode cX7_least 48 = .ok (.iload_n 1, 1) := by decide +kernel
theorem dX7_least_49 : decode cX7_least 49 = .ok (.iload_n 2, 1) := by decide +kernel
theorem dX7_least_50 : decode cX7_least 50 = .ok (.iload_n 3, 1) := by decide +kernel
theorem dX7_least_51 : decode cX7_least 51 = .ok (.invokevirtual 252, 3) := by decide +kernel
theorem dX7_least_54 : decode cX7_least 54 = .ok (.ireturn, 1) := by decide +kernel
theorem dX7_missed_0 : decode cX7_missed 0 = .ok (.aload_n 0, 1) := by decide +kernel
theorem dX7_missed_1 : decode cX7_missed 1 = .ok (.iload_n 1, 1) := by decide +kernel
theorem dX7_missed_2 : decode cX7_missed 2 = .ok (.invokevirtual 152, 3) := by decide +kernel
theorem dX7_missed_5 : decode cX7_missed 5 = .ok (.ifCond .eq 12, 3) := by decide +kernel
theorem dX7_missed_8 : decode cX7_missed 8 = .ok (.iload_n 2, 1) := by decide +kernel
theorem dX7_missed_9 : decode cX7_missed 9 = .ok (.iconst 0, 1) := by decide +kernel
theorem dX7_missed_10 : decode cX7_missed 10 = .ok (.iconst 1, 1) := by decide +kernel
theorem dX7_missed_11 : decode cX7_missed 11 = .ok (.invokestatic 73, 3) := by decide +kernel
theorem dX7_missed_14 : decode cX7_missed 14 = .ok (.ifCond .ne 6, 3) := by decide +kernel
theorem dX7_missed_17 : decode cX7_missed 17 = .ok (.ldc 77, 2) := by decide +kernel
theorem dX7_missed_19 : decode cX7_missed 19 = .ok (.ireturn, 1) := by decide +kernel
theorem dX7_missed_20 : decode cX7_missed 20 = .ok (.aload_n 0, 1) := by decide +kernel
theorem dX7_missed_21 : decode cX7_missed 21 = .ok (.getfield 56, 3) := by decide +kernel
theorem dX7_missed_24 : decode cX7_missed 24 = .ok (.iload_n 1, 1) := by decide +kernel
theorem dX7_missed_25 : decode cX7_missed 25 = .ok (.iload_n 2, 1) := by decide +kernel
theorem dX7_missed_26 : decode cX7_missed 26 = .ok (.invokevirtual 255, 3) := by decide +kernel
theorem dX7_missed_29 : decode cX7_missed 29 = .ok (.ireturn, 1) := by decide +kernel
theorem dX7_ring_0 : decode cX7_ring 0 = .ok (.aload_n 0, 1) := by decide +kernel
theorem dX7_ring_1 : decode cX7_ring 1 = .ok (.getfield 26, 3) := by decide +kernel
theorem dX7_ring_4 : decode cX7_ring 4 = .ok (.getfield 181, 3) := by decide +kernel
theorem dX7_ring_7 : decode cX7_ring 7 = .ok (.ifCond .ne 6, 3) := by decide +kernel
theorem dX7_ring_10 : decode cX7_ring 10 = .ok (.ldc 145, 2) := by decide +kernel
theorem dX7_ring_12 : decode cX7_ring 12 = .ok (.ireturn, 1) := by decide +kernel
theorem dX7_ring_13 : decode cX7_ring 13 = .ok (.iload_n 1, 1) := by decide +kernel
theorem dX7_ring_14 : decode cX7_ring 14 = .ok (.iconst 0, 1) := by decide +kernel
theorem dX7_ring_15 : decode cX7_ring 15 = .ok (.iconst 2, 1) := by decide +kernel
theorem dX7_ring_16 : decode cX7_ring 16 = .ok (.invokestatic 73, 3) := by decide +kernel
theorem dX7_ring_19 : decode cX7_ring 19 = .ok (.ifCond .eq 14, 3) := by decide +kernel
theorem dX7_ring_22 : decode cX7_ring 22 = .ok (.aload_n 0, 1) := by decide +kernel
theorem dX7_ring_23 : decode cX7_ring 23 = .ok (.getfield 56, 3) := by decide +kernel
theorem dX7_ring_26 : decode cX7_ring 26 = .ok (.iload_n 1, 1) := by decide +kernel
theorem dX7_ring_27 : decode cX7_ring 27 = .ok (.invokevirtual 258, 3) := by decide +kernel
theorem dX7_ring_30 : decode cX7_ring 30 = .ok (.goto 5, 3) := by decide +kernel
theorem dX7_ring_33 : decode cX7_ring 33 = .ok (.ldc 77, 2) := by decide +kernel
theorem dX7_ring_35 : decode cX7_ring 35 = .ok (.ireturn, 1) := by decide +kernel
theorem dX7_halves_0 : decode cX7_halves 0 = .ok (.iload_n 1, 1) := by decide +kernel
theorem dX7_halves_1 : decode cX7_halves 1 = .ok (.invokestatic 149, 3) := by decide +kernel
theorem dX7_halves_4 : decode cX7_halves 4 = .ok (.ifCond .eq 40, 3) := by decide +kernel
theorem dX7_halves_7 : decode cX7_halves 7 = .ok (.iload_n 2, 1) := by decide +kernel
theorem dX7_halves_8 : decode cX7_halves 8 = .ok (.iconst 1, 1) := by decide +kernel
theorem dX7_halves_9 : decode cX7_halves 9 = .ok (.bipush 40, 2) := by decide +kernel
theorem dX7_halves_11 : decode cX7_halves 11 = .ok (.invokestatic 73, 3) := by decide +kernel
theorem dX7_halves_14 : decode cX7_halves 14 = .ok (.ifCond .eq 30, 3) := by decide +kernel
theorem dX7_halves_17 : decode cX7_halves 17 = .ok (.aload_n 0, 1) := by decide +kernel
theorem dX7_halves_18 : decode cX7_halves 18 = .ok (.iload_n 3, 1) := by decide +kernel
theorem dX7_halves_19 : decode cX7_halves 19 = .ok (.invokevirtual 152, 3) := by decide +kernel
theorem dX7_halves_22 : decode cX7_halves 22 = .ok (.ifCond .eq 22, 3) := by decide +kernel
theorem dX7_halves_25 : decode cX7_halves 25 = .ok (.aload_n 0, 1) := by decide +kernel
theorem dX7_halves_26 : decode cX7_halves 26 = .ok (.iload 4, 2) := by decide +kernel
theorem dX7_halves_28 : decode cX7_halves 28 = .ok (.invokevirtual 152, 3) := by decide +kernel
theorem dX7_halves_31 : decode cX7_halves 31 = .ok (.ifCond .eq 13, 3) := by decide +kernel
theorem dX7_halves_34 : decode cX7_halves 34 = .ok (.iload 5, 2) := by decide +kernel
theorem dX7_halves_36 : decode cX7_halves 36 = .ok (.iconst 0, 1) := by decide +kernel
theorem dX7_halves_37 : decode cX7_halves 37 = .ok (.iconst 1, 1) := by decide +kernel
theorem dX7_halves_38 : decode cX7_halves 38 = .ok (.invokestatic 73, 3) := by decide +kernel
theorem dX7_halves_41 : decode cX7_halves 41 = .ok (.ifCond .ne 6, 3) := by decide +kernel
theorem dX7_halves_44 : decode cX7_halves 44 = .ok (.ldc 77, 2) := by decide +kernel
theorem dX7_halves_46 : decode cX7_halves 46 = .ok (.ireturn, 1) := by decide +kernel
theorem dX7_halves_47 : decode cX7_halves 47 = .ok (.aload_n 0, 1) := by decide +kernel
theorem dX7_halves_48 : decode cX7_halves 48 = .ok (.getfield 26, 3) := by decide +kernel
theorem dX7_halves_51 : decode cX7_halves 51 = .ok (.getfield 155, 3) := by decide +kernel
theorem dX7_halves_54 : decode cX7_halves 54 = .ok (.bipush 18, 2) := by decide +kernel
theorem dX7_halves_56 : decode cX7_halves 56 = .ok (.if_icmp .le 6, 3) := by decide +kernel
theorem dX7_halves_59 : decode cX7_halves 59 = .ok (.ldc 117, 2) := by decide +kernel
theorem dX7_halves_61 : decode cX7_halves 61 = .ok (.ireturn, 1) := by decide +kernel
theorem dX7_halves_62 : decode cX7_halves 62 = .ok (.aload_n 0, 1) := by decide +kernel
theorem dX7_halves_63 : decode cX7_halves 63 = .ok (.getfield 56, 3) := by decide +kernel
theorem dX7_halves_66 : decode cX7_halves 66 = .ok (.iload_n 1, 1) := by decide +kernel
theorem dX7_halves_67 : decode cX7_halves 67 = .ok (.iload_n 2, 1) := by decide +kernel
theorem dX7_halves_68 : decode cX7_halves 68 = .ok (.iload_n 3, 1) := by decide +kernel
theorem dX7_halves_69 : decode cX7_halves 69 = .ok (.iload 4, 2) := by decide +kernel
theorem dX7_halves_71 : decode cX7_halves 71 = .ok (.iload 5, 2) := by decide +kernel
theorem dX7_halves_73 : decode cX7_halves 73 = .ok (.invokevirtual 261, 3) := by decide +kernel
theorem dX7_halves_76 : decode cX7_halves 76 = .ok (.ireturn, 1) := by decide +kernel
theorem dX7_sets_0 : decode cX7_sets 0 = .ok (.aload_n 0, 1) := by decide +kernel
theorem dX7_sets_1 : decode cX7_sets 1 = .ok (.getfield 26, 3) := by decide +kernel
theorem dX7_sets_4 : decode cX7_sets 4 = .ok (.getfield 181, 3) := by decide +kernel
theorem dX7_sets_7 : decode cX7_sets 7 = .ok (.ifCond .ne 6, 3) := by decide +kernel
theorem dX7_sets_10 : decode cX7_sets 10 = .ok (.ldc 145, 2) := by decide +kernel
theorem dX7_sets_12 : decode cX7_sets 12 = .ok (.ireturn, 1) := by decide +kernel
theorem dX7_sets_13 : decode cX7_sets 13 = .ok (.iload_n 1, 1) := by decide +kernel
theorem dX7_sets_14 : decode cX7_sets 14 = .ok (.iconst 0, 1) := by decide +kernel
theorem dX7_sets_15 : decode cX7_sets 15 = .ok (.sipush 999, 3) := by decide +kernel
theorem dX7_sets_18 : decode cX7_sets 18 = .ok (.invokestatic 73, 3) := by decide +kernel
theorem dX7_sets_21 : decode cX7_sets 21 = .ok (.ifCond .eq 12, 3) := by decide +kernel
theorem dX7_sets_24 : decode cX7_sets 24 = .ok (.iload_n 2, 1) := by decide +kernel
theorem dX7_sets_25 : decode cX7_sets 25 = .ok (.iconst 0, 1) := by decide +kernel
theorem dX7_sets_26 : decode cX7_sets 26 = .ok (.iconst 2, 1) := by decide +kernel
theorem dX7_sets_27 : decode cX7_sets 27 = .ok (.invokestatic 73, 3) := by decide +kernel
theorem dX7_sets_30 : decode cX7_sets 30 = .ok (.ifCond .ne 6, 3) := by decide +kernel
theorem dX7_sets_33 : decode cX7_sets 33 = .ok (.ldc 77, 2) := by decide +kernel
theorem dX7_sets_35 : decode cX7_sets 35 = .ok (.ireturn, 1) := by decide +kernel
theorem dX7_sets_36 : decode cX7_sets 36 = .ok (.aload_n 0, 1) := by decide +kernel
theorem dX7_sets_37 : decode cX7_sets 37 = .ok (.getfield 56, 3) := by decide +kernel
theorem dX7_sets_40 : decode cX7_sets 40 = .ok (.iload_n 1, 1) := by decide +kernel
theorem dX7_sets_41 : decode cX7_sets 41 = .ok (.iload_n 2, 1) := by decide +kernel
theorem dX7_sets_42 : decode cX7_sets 42 = .ok (.invokevirtual 265, 3) := by decide +kernel
theorem dX7_sets_45 : decode cX7_sets 45 = .ok (.ireturn, 1) := by decide +kernel
theorem dX7_byTurns_0 : decode cX7_byTurns 0 = .ok (.aload_n 0, 1) := by decide +kernel
theorem dX7_byTurns_1 : decode cX7_byTurns 1 = .ok (.getfield 26, 3) := by decide +kernel
theorem dX7_byTurns_4 : decode cX7_byTurns 4 = .ok (.getfield 181, 3) := by decide +kernel
theorem dX7_byTurns_7 : decode cX7_byTurns 7 = .ok (.ifCond .ne 6, 3) := by decide +kernel
theorem dX7_byTurns_10 : decode cX7_byTurns 10 = .ok (.ldc 145, 2) := by decide +kernel
theorem dX7_byTurns_12 : decode cX7_byTurns 12 = .ok (.ireturn, 1) := by decide +kernel
theorem dX7_byTurns_13 : decode cX7_byTurns 13 = .ok (.iload_n 1, 1) := by decide +kernel
theorem dX7_byTurns_14 : decode cX7_byTurns 14 = .ok (.iload_n 2, 1) := by decide +kernel
theorem dX7_byTurns_15 : decode cX7_byTurns 15 = .ok (.invokestatic 191, 3) := by decide +kernel
theorem dX7_byTurns_18 : decode cX7_byTurns 18 = .ok (.ifCond .eq 23, 3) := by decide +kernel
theorem dX7_byTurns_21 : decode cX7_byTurns 21 = .ok (.iload_n 3, 1) := by decide +kernel
theorem dX7_byTurns_22 : decode cX7_byTurns 22 = .ok (.iconst 0, 1) := by decide +kernel
theorem dX7_byTurns_23 : decode cX7_byTurns 23 = .ok (.iconst 4, 1) := by decide +kernel
theorem dX7_byTurns_24 : decode cX7_byTurns 24 = .ok (.invokestatic 73, 3) := by decide +kernel
theorem dX7_byTurns_27 : decode cX7_byTurns 27 = .ok (.ifCond .eq 14, 3) := by decide +kernel
theorem dX7_byTurns_30 : decode cX7_byTurns 30 = .ok (.iload 4, 2) := by decide +kernel
theorem dX7_byTurns_32 : decode cX7_byTurns 32 = .ok (.iconst 1, 1) := by decide +kernel
theorem dX7_byTurns_33 : decode cX7_byTurns 33 = .ok (.bipush 20, 2) := by decide +kernel
theorem dX7_byTurns_35 : decode cX7_byTurns 35 = .ok (.invokestatic 73, 3) := by decide +kernel
theorem dX7_byTurns_38 : decode cX7_byTurns 38 = .ok (.ifCond .ne 6, 3) := by decide +kernel
theorem dX7_byTurns_41 : decode cX7_byTurns 41 = .ok (.ldc 77, 2) := by decide +kernel
theorem dX7_byTurns_43 : decode cX7_byTurns 43 = .ok (.ireturn, 1) := by decide +kernel
theorem dX7_byTurns_44 : decode cX7_byTurns 44 = .ok (.aload_n 0, 1) := by decide +kernel
theorem dX7_byTurns_45 : decode cX7_byTurns 45 = .ok (.getfield 26, 3) := by decide +kernel
theorem dX7_byTurns_48 : decode cX7_byTurns 48 = .ok (.getfield 155, 3) := by decide +kernel
theorem dX7_byTurns_51 : decode cX7_byTurns 51 = .ok (.bipush 16, 2) := by decide +kernel
theorem dX7_byTurns_53 : decode cX7_byTurns 53 = .ok (.if_icmp .le 6, 3) := by decide +kernel
theorem dX7_byTurns_56 : decode cX7_byTurns 56 = .ok (.ldc 117, 2) := by decide +kernel
theorem dX7_byTurns_58 : decode cX7_byTurns 58 = .ok (.ireturn, 1) := by decide +kernel
theorem dX7_byTurns_59 : decode cX7_byTurns 59 = .ok (.aload_n 0, 1) := by decide +kernel
theorem dX7_byTurns_60 : decode cX7_byTurns 60 = .ok (.getfield 56, 3) := by decide +kernel
theorem dX7_byTurns_63 : decode cX7_byTurns 63 = .ok (.iload_n 1, 1) := by decide +kernel
theorem dX7_byTurns_64 : decode cX7_byTurns 64 = .ok (.iload_n 2, 1) := by decide +kernel
theorem dX7_byTurns_65 : decode cX7_byTurns 65 = .ok (.iload_n 3, 1) := by decide +kernel
theorem dX7_byTurns_66 : decode cX7_byTurns 66 = .ok (.iload 4, 2) := by decide +kernel
theorem dX7_byTurns_68 : decode cX7_byTurns 68 = .ok (.invokevirtual 268, 3) := by decide +kernel
theorem dX7_byTurns_71 : decode cX7_byTurns 71 = .ok (.ireturn, 1) := by decide +kernel
theorem dX7_who_0 : decode cX7_who 0 = .ok (.aload_n 0, 1) := by decide +kernel
theorem dX7_who_1 : decode cX7_who 1 = .ok (.getfield 26, 3) := by decide +kernel
theorem dX7_who_4 : decode cX7_who 4 = .ok (.getfield 181, 3) := by decide +kernel
theorem dX7_who_7 : decode cX7_who 7 = .ok (.ifCond .ne 6, 3) := by decide +kernel
theorem dX7_who_10 : decode cX7_who 10 = .ok (.ldc 145, 2) := by decide +kernel
theorem dX7_who_12 : decode cX7_who 12 = .ok (.ireturn, 1) := by decide +kernel
theorem dX7_who_13 : decode cX7_who 13 = .ok (.iload_n 2, 1) := by decide +kernel
theorem dX7_who_14 : decode cX7_who 14 = .ok (.iconst 0, 1) := by decide +kernel
theorem dX7_who_15 : decode cX7_who 15 = .ok (.iconst 4, 1) := by decide +kernel
theorem dX7_who_16 : decode cX7_who 16 = .ok (.invokestatic 73, 3) := by decide +kernel
theorem dX7_who_19 : decode cX7_who 19 = .ok (.ifCond .eq 10, 3) := by decide +kernel
theorem dX7_who_22 : decode cX7_who 22 = .ok (.iload_n 3, 1) := by decide +kernel
theorem dX7_who_23 : decode cX7_who 23 = .ok (.invokestatic 69, 3) := by decide +kernel
theorem dX7_who_26 : decode cX7_who 26 = .ok (.ifCond .ne 6, 3) := by decide +kernel
theorem dX7_who_29 : decode cX7_who 29 = .ok (.ldc 77, 2) := by decide +kernel
theorem dX7_who_31 : decode cX7_who 31 = .ok (.ireturn, 1) := by decide +kernel
theorem dX7_who_32 : decode cX7_who 32 = .ok (.iload_n 2, 1) := by decide +kernel
theorem dX7_who_33 : decode cX7_who 33 = .ok (.iconst 2, 1) := by decide +kernel
theorem dX7_who_34 : decode cX7_who 34 = .ok (.if_icmp .ne 11, 3) := by decide +kernel
theorem dX7_who_37 : decode cX7_who 37 = .ok (.aload_n 0, 1) := by decide +kernel
theorem dX7_who_38 : decode cX7_who 38 = .ok (.iload_n 1, 1) := by decide +kernel
theorem dX7_who_39 : decode cX7_who 39 = .ok (.invokevirtual 152, 3) := by decide +kernel
theorem dX7_who_42 : decode cX7_who 42 = .ok (.ifCond .eq 16, 3) := by decide +kernel
theorem dX7_who_45 : decode cX7_who 45 = .ok (.iload_n 2, 1) := by decide +kernel
theorem dX7_who_46 : decode cX7_who 46 = .ok (.iconst 2, 1) := by decide +kernel
theorem dX7_who_47 : decode cX7_who 47 = .ok (.if_icmp .le 14, 3) := by decide +kernel
theorem dX7_who_50 : decode cX7_who 50 = .ok (.aload_n 0, 1) := by decide +kernel
theorem dX7_who_51 : decode cX7_who 51 = .ok (.iload_n 1, 1) := by decide +kernel
theorem dX7_who_52 : decode cX7_who 52 = .ok (.invokevirtual 165, 3) := by decide +kernel
theorem dX7_who_55 : decode cX7_who 55 = .ok (.ifCond .ne 6, 3) := by decide +kernel
theorem dX7_who_58 : decode cX7_who 58 = .ok (.ldc 77, 2) := by decide +kernel
theorem dX7_who_60 : decode cX7_who 60 = .ok (.ireturn, 1) := by decide +kernel
theorem dX7_who_61 : decode cX7_who 61 = .ok (.aload_n 0, 1) := by decide +kernel
theorem dX7_who_62 : decode cX7_who 62 = .ok (.getfield 10, 3) := by decide +kernel
theorem dX7_who_65 : decode cX7_who 65 = .ok (.iload_n 3, 1) := by decide +kernel
theorem dX7_who_66 : decode cX7_who 66 = .ok (.invokevirtual 89, 3) := by decide +kernel
theorem dX7_who_69 : decode cX7_who 69 = .ok (.ifCond .eq 9, 3) := by decide +kernel
theorem dX7_who_72 : decode cX7_who 72 = .ok (.aload_n 0, 1) := by decide +kernel
theorem dX7_who_73 : decode cX7_who 73 = .ok (.iconst 1, 1) := by decide +kernel
theorem dX7_who_74 : decode cX7_who 74 = .ok (.invokevirtual 78, 3) := by decide +kernel
theorem dX7_who_77 : decode cX7_who 77 = .ok (.ireturn, 1) := by decide +kernel
theorem dX7_who_78 : decode cX7_who 78 = .ok (.aload_n 0, 1) := by decide +kernel
theorem dX7_who_79 : decode cX7_who 79 = .ok (.getfield 10, 3) := by decide +kernel
theorem dX7_who_82 : decode cX7_who 82 = .ok (.iload_n 3, 1) := by decide +kernel
theorem dX7_who_83 : decode cX7_who 83 = .ok (.iload 4, 2) := by decide +kernel
theorem dX7_who_85 : decode cX7_who 85 = .ok (.aload_n 0, 1) := by decide +kernel
theorem dX7_who_86 : decode cX7_who 86 = .ok (.getfield 26, 3) := by decide +kernel
theorem dX7_who_89 : decode cX7_who 89 = .ok (.getfield 139, 3) := by decide +kernel
theorem dX7_who_92 : decode cX7_who 92 = .ok (.invokevirtual 92, 3) := by decide +kernel
theorem dX7_who_95 : decode cX7_who 95 = .ok (.ifCond .ne 9, 3) := by decide +kernel
theorem dX7_who_98 : decode cX7_who 98 = .ok (.aload_n 0, 1) := by decide +kernel
theorem dX7_who_99 : decode cX7_who 99 = .ok (.iconst 2, 1) := by decide +kernel
theorem dX7_who_100 : decode cX7_who 100 = .ok (.invokevirtual 78, 3) := by decide +kernel
theorem dX7_who_103 : decode cX7_who 103 = .ok (.ireturn, 1) := by decide +kernel
theorem dX7_who_104 : decode cX7_who 104 = .ok (.aload_n 0, 1) := by decide +kernel
theorem dX7_who_105 : decode cX7_who 105 = .ok (.getfield 56, 3) := by decide +kernel
theorem dX7_who_108 : decode cX7_who 108 = .ok (.aload_n 0, 1) := by decide +kernel
theorem dX7_who_109 : decode cX7_who 109 = .ok (.getfield 10, 3) := by decide +kernel
theorem dX7_who_112 : decode cX7_who 112 = .ok (.iload_n 3, 1) := by decide +kernel
theorem dX7_who_113 : decode cX7_who 113 = .ok (.iload 4, 2) := by decide +kernel
theorem dX7_who_115 : decode cX7_who 115 = .ok (.invokevirtual 271, 3) := by decide +kernel
theorem dX7_who_118 : decode cX7_who 118 = .ok (.iload_n 2, 1) := by decide +kernel
theorem dX7_who_119 : decode cX7_who 119 = .ok (.tableswitch 60 0 2 #[25, 25, 47], 25) := by decide +kernel
theorem dX7_who_144 : decode cX7_who 144 = .ok (.aload_n 0, 1) := by decide +kernel
theorem dX7_who_145 : decode cX7_who 145 = .ok (.aload_n 0, 1) := by decide +kernel
theorem dX7_who_146 : decode cX7_who 146 = .ok (.getfield 56, 3) := by decide +kernel
theorem dX7_who_149 : decode cX7_who 149 = .ok (.iload_n 2, 1) := by decide +kernel
theorem dX7_who_150 : decode cX7_who 150 = .ok (.iconst 1, 1) := by decide +kernel
theorem dX7_who_151 : decode cX7_who 151 = .ok (.if_icmp .ne 7, 3) := by decide +kernel
theorem dX7_who_154 : decode cX7_who 154 = .ok (.iconst 1, 1) := by decide +kernel
theorem dX7_who_155 : decode cX7_who 155 = .ok (.goto 4, 3) := by decide +kernel
theorem dX7_who_158 : decode cX7_who 158 = .ok (.iconst 0, 1) := by decide +kernel
theorem dX7_who_159 : decode cX7_who 159 = .ok (.invokevirtual 275, 3) := by decide +kernel
theorem dX7_who_162 : decode cX7_who 162 = .ok (.invokevirtual 86, 3) := by decide +kernel
theorem dX7_who_165 : decode cX7_who 165 = .ok (.ireturn, 1) := by decide +kernel
theorem dX7_who_166 : decode cX7_who 166 = .ok (.aload_n 0, 1) := by decide +kernel
theorem dX7_who_167 : decode cX7_who 167 = .ok (.aload_n 0, 1) := by decide +kernel
theorem dX7_who_168 : decode cX7_who 168 = .ok (.getfield 56, 3) := by decide +kernel
theorem dX7_who_171 : decode cX7_who 171 = .ok (.iload_n 1, 1) := by decide +kernel
theorem dX7_who_172 : decode cX7_who 172 = .ok (.invokevirtual 279, 3) := by decide +kernel
theorem dX7_who_175 : decode cX7_who 175 = .ok (.invokevirtual 86, 3) := by decide +kernel
theorem dX7_who_178 : decode cX7_who 178 = .ok (.ireturn, 1) := by decide +kernel
theorem dX7_who_179 : decode cX7_who 179 = .ok (.aload_n 0, 1) := by decide +kernel
theorem dX7_who_180 : decode cX7_who 180 = .ok (.aload_n 0, 1) := by decide +kernel
theorem dX7_who_181 : decode cX7_who 181 = .ok (.getfield 56, 3) := by decide +kernel
theorem dX7_who_184 : decode cX7_who 184 = .ok (.iload_n 1, 1) := by decide +kernel
theorem dX7_who_185 : decode cX7_who 185 = .ok (.iload_n 2, 1) := by decide +kernel
theorem dX7_who_186 : decode cX7_who 186 = .ok (.iconst 4, 1) := by decide +kernel
theorem dX7_who_187 : decode cX7_who 187 = .ok (.if_icmp .ne 7, 3) := by decide +kernel
theorem dX7_who_190 : decode cX7_who 190 = .ok (.iconst 1, 1) := by decide +kernel
theorem dX7_who_191 : decode cX7_who 191 = .ok (.goto 4, 3) := by decide +kernel
theorem dX7_who_194 : decode cX7_who 194 = .ok (.iconst 0, 1) := by decide +kernel
theorem dX7_who_195 : decode cX7_who 195 = .ok (.invokevirtual 282, 3) := by decide +kernel
theorem dX7_who_198 : decode cX7_who 198 = .ok (.invokevirtual 86, 3) := by decide +kernel
theorem dX7_who_201 : decode cX7_who 201 = .ok (.ireturn, 1) := by decide +kernel
theorem dX7_likely_0 : decode cX7_likely 0 = .ok (.aload_n 0, 1) := by decide +kernel
theorem dX7_likely_1 : decode cX7_likely 1 = .ok (.iload_n 1, 1) := by decide +kernel
theorem dX7_likely_2 : decode cX7_likely 2 = .ok (.invokevirtual 152, 3) := by decide +kernel
theorem dX7_likely_5 : decode cX7_likely 5 = .ok (.ifCond .eq 34, 3) := by decide +kernel
theorem dX7_likely_8 : decode cX7_likely 8 = .ok (.iload_n 2, 1) := by decide +kernel
theorem dX7_likely_9 : decode cX7_likely 9 = .ok (.iconst 0, 1) := by decide +kernel
theorem dX7_likely_10 : decode cX7_likely 10 = .ok (.sipush 9999, 3) := by decide +kernel
theorem dX7_likely_13 : decode cX7_likely 13 = .ok (.invokestatic 73, 3) := by decide +kernel
theorem dX7_likely_16 : decode cX7_likely 16 = .ok (.ifCond .eq 23, 3) := by decide +kernel
theorem dX7_likely_19 : decode cX7_likely 19 = .ok (.iload_n 3, 1) := by decide +kernel
theorem dX7_likely_20 : decode cX7_likely 20 = .ok (.iconst 0, 1) := by decide +kernel
theorem dX7_likely_21 : decode cX7_likely 21 = .ok (.bipush 10, 2) := by decide +kernel
theorem dX7_likely_23 : decode cX7_likely 23 = .ok (.invokestatic 73, 3) := by decide +kernel
theorem dX7_likely_26 : decode cX7_likely 26 = .ok (.ifCond .eq 13, 3) := by decide +kernel
theorem dX7_likely_29 : decode cX7_likely 29 = .ok (.iload 4, 2) := by decide +kernel
theorem dX7_likely_31 : decode cX7_likely 31 = .ok (.iconst 0, 1) := by decide +kernel
theorem dX7_likely_32 : decode cX7_likely 32 = .ok (.iconst 1, 1) := by decide +kernel
theorem dX7_likely_33 : decode cX7_likely 33 = .ok (.invokestatic 73, 3) := by decide +kernel
theorem dX7_likely_36 : decode cX7_likely 36 = .ok (.ifCond .ne 7, 3) := by decide +kernel
theorem dX7_likely_39 : decode cX7_likely 39 = .ok (.ldc2_w 286, 3) := by decide +kernel
theorem dX7_likely_42 : decode cX7_likely 42 = .ok (.lreturn, 1) := by decide +kernel
theorem dX7_likely_43 : decode cX7_likely 43 = .ok (.aload_n 0, 1) := by decide +kernel
theorem dX7_likely_44 : decode cX7_likely 44 = .ok (.getfield 56, 3) := by decide +kernel
theorem dX7_likely_47 : decode cX7_likely 47 = .ok (.iload_n 1, 1) := by decide +kernel
theorem dX7_likely_48 : decode cX7_likely 48 = .ok (.iload_n 2, 1) := by decide +kernel
theorem dX7_likely_49 : decode cX7_likely 49 = .ok (.iload_n 3, 1) := by decide +kernel
theorem dX7_likely_50 : decode cX7_likely 50 = .ok (.iload 4, 2) := by decide +kernel
theorem dX7_likely_52 : decode cX7_likely 52 = .ok (.invokevirtual 288, 3) := by decide +kernel
theorem dX7_likely_55 : decode cX7_likely 55 = .ok (.lreturn, 1) := by decide +kernel
theorem dX7_drawn_0 : decode cX7_drawn 0 = .ok (.aload_n 0, 1) := by decide +kernel
theorem dX7_drawn_1 : decode cX7_drawn 1 = .ok (.getfield 26, 3) := by decide +kernel
theorem dX7_drawn_4 : decode cX7_drawn 4 = .ok (.getfield 181, 3) := by decide +kernel
theorem dX7_drawn_7 : decode cX7_drawn 7 = .ok (.ifCond .ne 6, 3) := by decide +kernel
theorem dX7_drawn_10 : decode cX7_drawn 10 = .ok (.ldc 145, 2) := by decide +kernel
theorem dX7_drawn_12 : decode cX7_drawn 12 = .ok (.ireturn, 1) := by decide +kernel
theorem dX7_drawn_13 : decode cX7_drawn 13 = .ok (.iload_n 1, 1) := by decide +kernel
theorem dX7_drawn_14 : decode cX7_drawn 14 = .ok (.iconst 0, 1) := by decide +kernel
theorem dX7_drawn_15 : decode cX7_drawn 15 = .ok (.bipush 60, 2) := by decide +kernel
theorem dX7_drawn_17 : decode cX7_drawn 17 = .ok (.invokestatic 73, 3) := by decide +kernel
theorem dX7_drawn_20 : decode cX7_drawn 20 = .ok (.ifCond .eq 23, 3) := by decide +kernel
theorem dX7_drawn_23 : decode cX7_drawn 23 = .ok (.iload_n 2, 1) := by decide +kernel
theorem dX7_drawn_24 : decode cX7_drawn 24 = .ok (.iconst 1, 1) := by decide +kernel
theorem dX7_drawn_25 : decode cX7_drawn 25 = .ok (.ldc_w 292, 3) := by decide +kernel
theorem dX7_drawn_28 : decode cX7_drawn 28 = .ok (.invokestatic 73, 3) := by decide +kernel
theorem dX7_drawn_31 : decode cX7_drawn 31 = .ok (.ifCond .eq 12, 3) := by decide +kernel
theorem dX7_drawn_34 : decode cX7_drawn 34 = .ok (.iload_n 3, 1) := by decide +kernel
theorem dX7_drawn_35 : decode cX7_drawn 35 = .ok (.iconst 0, 1) := by decide +kernel
theorem dX7_drawn_36 : decode cX7_drawn 36 = .ok (.iconst 1, 1) := by decide +kernel
theorem dX7_drawn_37 : decode cX7_drawn 37 = .ok (.invokestatic 73, 3) := by decide +kernel
theorem dX7_drawn_40 : decode cX7_drawn 40 = .ok (.ifCond .ne 6, 3) := by decide +kernel
theorem dX7_drawn_43 : decode cX7_drawn 43 = .ok (.ldc 77, 2) := by decide +kernel
theorem dX7_drawn_45 : decode cX7_drawn 45 = .ok (.ireturn, 1) := by decide +kernel
theorem dX7_drawn_46 : decode cX7_drawn 46 = .ok (.aload_n 0, 1) := by decide +kernel
theorem dX7_drawn_47 : decode cX7_drawn 47 = .ok (.getfield 56, 3) := by decide +kernel
theorem dX7_drawn_50 : decode cX7_drawn 50 = .ok (.iload_n 1, 1) := by decide +kernel
theorem dX7_drawn_51 : decode cX7_drawn 51 = .ok (.iload_n 2, 1) := by decide +kernel
theorem dX7_drawn_52 : decode cX7_drawn 52 = .ok (.iload_n 3, 1) := by decide +kernel
theorem dX7_drawn_53 : decode cX7_drawn 53 = .ok (.invokevirtual 293, 3) := by decide +kernel
theorem dX7_drawn_56 : decode cX7_drawn 56 = .ok (.ireturn, 1) := by decide +kernel
theorem dX7_image_0 : decode cX7_image 0 = .ok (.iload_n 1, 1) := by decide +kernel
theorem dX7_image_1 : decode cX7_image 1 = .ok (.iconst 0, 1) := by decide +kernel
theorem dX7_image_2 : decode cX7_image 2 = .ok (.iconst 1, 1) := by decide +kernel
theorem dX7_image_3 : decode cX7_image 3 = .ok (.invokestatic 73, 3) := by decide +kernel
theorem dX7_image_6 : decode cX7_image 6 = .ok (.ifCond .ne 6, 3) := by decide +kernel
theorem dX7_image_9 : decode cX7_image 9 = .ok (.ldc 77, 2) := by decide +kernel
theorem dX7_image_11 : decode cX7_image 11 = .ok (.ireturn, 1) := by decide +kernel
theorem dX7_image_12 : decode cX7_image 12 = .ok (.aload_n 0, 1) := by decide +kernel
theorem dX7_image_13 : decode cX7_image 13 = .ok (.getfield 26, 3) := by decide +kernel
theorem dX7_image_16 : decode cX7_image 16 = .ok (.getfield 181, 3) := by decide +kernel
theorem dX7_image_19 : decode cX7_image 19 = .ok (.ifCond .ne 6, 3) := by decide +kernel
theorem dX7_image_22 : decode cX7_image 22 = .ok (.ldc 145, 2) := by decide +kernel
theorem dX7_image_24 : decode cX7_image 24 = .ok (.ireturn, 1) := by decide +kernel
theorem dX7_image_25 : decode cX7_image 25 = .ok (.aload_n 0, 1) := by decide +kernel
theorem dX7_image_26 : decode cX7_image 26 = .ok (.getfield 33, 3) := by decide +kernel
theorem dX7_image_29 : decode cX7_image 29 = .ok (.iload_n 1, 1) := by decide +kernel
theorem dX7_image_30 : decode cX7_image 30 = .ok (.aaload, 1) := by decide +kernel
theorem dX7_image_31 : decode cX7_image 31 = .ok (.aload_n 0, 1) := by decide +kernel
theorem dX7_image_32 : decode cX7_image 32 = .ok (.getfield 26, 3) := by decide +kernel
theorem dX7_image_35 : decode cX7_image 35 = .ok (.invokevirtual 132, 3) := by decide +kernel
theorem dX7_image_38 : decode cX7_image 38 = .ok (.iconst 1, 1) := by decide +kernel
theorem dX7_image_39 : decode cX7_image 39 = .ok (.ireturn, 1) := by decide +kernel
theorem dX7_restore_0 : decode cX7_restore 0 = .ok (.iload_n 1, 1) := by decide +kernel
theorem dX7_restore_1 : decode cX7_restore 1 = .ok (.iconst 0, 1) := by decide +kernel
theorem dX7_restore_2 : decode cX7_restore 2 = .ok (.iconst 1, 1) := by decide +kernel
theorem dX7_restore_3 : decode cX7_restore 3 = .ok (.invokestatic 73, 3) := by decide +kernel
theorem dX7_restore_6 : decode cX7_restore 6 = .ok (.ifCond .ne 6, 3) := by decide +kernel
theorem dX7_restore_9 : decode cX7_restore 9 = .ok (.ldc 77, 2) := by decide +kernel
theorem dX7_restore_11 : decode cX7_restore 11 = .ok (.ireturn, 1) := by decide +kernel
theorem dX7_restore_12 : decode cX7_restore 12 = .ok (.aload_n 0, 1) := by decide +kernel
theorem dX7_restore_13 : decode cX7_restore 13 = .ok (.getfield 33, 3) := by decide +kernel
theorem dX7_restore_16 : decode cX7_restore 16 = .ok (.iload_n 1, 1) := by decide +kernel
theorem dX7_restore_17 : decode cX7_restore 17 = .ok (.aaload, 1) := by decide +kernel
theorem dX7_restore_18 : decode cX7_restore 18 = .ok (.getfield 181, 3) := by decide +kernel
theorem dX7_restore_21 : decode cX7_restore 21 = .ok (.ifCond .ne 6, 3) := by decide +kernel
theorem dX7_restore_24 : decode cX7_restore 24 = .ok (.ldc 145, 2) := by decide +kernel
theorem dX7_restore_26 : decode cX7_restore 26 = .ok (.ireturn, 1) := by decide +kernel
theorem dX7_restore_27 : decode cX7_restore 27 = .ok (.aload_n 0, 1) := by decide +kernel
theorem dX7_restore_28 : decode cX7_restore 28 = .ok (.getfield 26, 3) := by decide +kernel
theorem dX7_restore_31 : decode cX7_restore 31 = .ok (.aload_n 0, 1) := by decide +kernel
theorem dX7_restore_32 : decode cX7_restore 32 = .ok (.getfield 33, 3) := by decide +kernel
theorem dX7_restore_35 : decode cX7_restore 35 = .ok (.iload_n 1, 1) := by decide +kernel
theorem dX7_restore_36 : decode cX7_restore 36 = .ok (.aaload, 1) := by decide +kernel
theorem dX7_restore_37 : decode cX7_restore 37 = .ok (.invokevirtual 132, 3) := by decide +kernel
theorem dX7_restore_40 : decode cX7_restore 40 = .ok (.aload_n 0, 1) := by decide +kernel
theorem dX7_restore_41 : decode cX7_restore 41 = .ok (.getfield 40, 3) := by decide +kernel
theorem dX7_restore_44 : decode cX7_restore 44 = .ok (.invokevirtual 136, 3) := by decide +kernel
theorem dX7_restore_47 : decode cX7_restore 47 = .ok (.iconst 1, 1) := by decide +kernel
theorem dX7_restore_48 : decode cX7_restore 48 = .ok (.ireturn, 1) := by decide +kernel
theorem dX7_kind_0 : decode cX7_kind 0 = .ok (.aload_n 0, 1) := by decide +kernel
theorem dX7_kind_1 : decode cX7_kind 1 = .ok (.iload_n 1, 1) := by decide +kernel
theorem dX7_kind_2 : decode cX7_kind 2 = .ok (.invokevirtual 152, 3) := by decide +kernel
theorem dX7_kind_5 : decode cX7_kind 5 = .ok (.ifCond .eq 15, 3) := by decide +kernel
theorem dX7_kind_8 : decode cX7_kind 8 = .ok (.aload_n 0, 1) := by decide +kernel
theorem dX7_kind_9 : decode cX7_kind 9 = .ok (.getfield 26, 3) := by decide +kernel
theorem dX7_kind_12 : decode cX7_kind 12 = .ok (.getfield 188, 3) := by decide +kernel
theorem dX7_kind_15 : decode cX7_kind 15 = .ok (.iload_n 1, 1) := by decide +kernel
theorem dX7_kind_16 : decode cX7_kind 16 = .ok (.iaload, 1) := by decide +kernel
theorem dX7_kind_17 : decode cX7_kind 17 = .ok (.goto 5, 3) := by decide +kernel
theorem dX7_kind_20 : decode cX7_kind 20 = .ok (.ldc 77, 2) := by decide +kernel
theorem dX7_kind_22 : decode cX7_kind 22 = .ok (.ireturn, 1) := by decide +kernel
theorem dX7_as_0 : decode cX7_as 0 = .ok (.aload_n 0, 1) := by decide +kernel
theorem dX7_as_1 : decode cX7_as 1 = .ok (.iload_n 1, 1) := by decide +kernel
theorem dX7_as_2 : decode cX7_as 2 = .ok (.invokevirtual 152, 3) := by decide +kernel
theorem dX7_as_5 : decode cX7_as 5 = .ok (.ifCond .eq 12, 3) := by decide +kernel
theorem dX7_as_8 : decode cX7_as 8 = .ok (.iload_n 2, 1) := by decide +kernel
theorem dX7_as_9 : decode cX7_as 9 = .ok (.iconst 0, 1) := by decide +kernel
theorem dX7_as_10 : decode cX7_as 10 = .ok (.iconst 5, 1) := by decide +kernel
theorem dX7_as_11 : decode cX7_as 11 = .ok (.invokestatic 73, 3) := by decide +kernel
theorem dX7_as_14 : decode cX7_as 14 = .ok (.ifCond .ne 6, 3) := by decide +kernel
theorem dX7_as_17 : decode cX7_as 17 = .ok (.ldc 77, 2) := by decide +kernel
theorem dX7_as_19 : decode cX7_as 19 = .ok (.ireturn, 1) := by decide +kernel
theorem dX7_as_20 : decode cX7_as 20 = .ok (.aload_n 0, 1) := by decide +kernel
theorem dX7_as_21 : decode cX7_as 21 = .ok (.getfield 26, 3) := by decide +kernel
theorem dX7_as_24 : decode cX7_as 24 = .ok (.getfield 188, 3) := by decide +kernel
theorem dX7_as_27 : decode cX7_as 27 = .ok (.iload_n 1, 1) := by decide +kernel
theorem dX7_as_28 : decode cX7_as 28 = .ok (.iaload, 1) := by decide +kernel
theorem dX7_as_29 : decode cX7_as 29 = .ok (.iload_n 2, 1) := by decide +kernel
theorem dX7_as_30 : decode cX7_as 30 = .ok (.invokestatic 296, 3) := by decide +kernel
theorem dX7_as_33 : decode cX7_as 33 = .ok (.ifCond .eq 11, 3) := by decide +kernel
theorem dX7_as_36 : decode cX7_as 36 = .ok (.aload_n 0, 1) := by decide +kernel
theorem dX7_as_37 : decode cX7_as 37 = .ok (.iload_n 1, 1) := by decide +kernel
theorem dX7_as_38 : decode cX7_as 38 = .ok (.invokevirtual 86, 3) := by decide +kernel
theorem dX7_as_41 : decode cX7_as 41 = .ok (.goto 8, 3) := by decide +kernel
theorem dX7_as_44 : decode cX7_as 44 = .ok (.aload_n 0, 1) := by decide +kernel
theorem dX7_as_45 : decode cX7_as 45 = .ok (.iconst 3, 1) := by decide +kernel
theorem dX7_as_46 : decode cX7_as 46 = .ok (.invokevirtual 78, 3) := by decide +kernel
theorem dX7_as_49 : decode cX7_as 49 = .ok (.ireturn, 1) := by decide +kernel
theorem dX7_ask_0 : decode cX7_ask 0 = .ok (.aload_n 0, 1) := by decide +kernel
theorem dX7_ask_1 : decode cX7_ask 1 = .ok (.iload_n 1, 1) := by decide +kernel
theorem dX7_ask_2 : decode cX7_ask 2 = .ok (.invokevirtual 152, 3) := by decide +kernel
theorem dX7_ask_5 : decode cX7_ask 5 = .ok (.ifCond .eq 12, 3) := by decide +kernel
theorem dX7_ask_8 : decode cX7_ask 8 = .ok (.iload_n 2, 1) := by decide +kernel
theorem dX7_ask_9 : decode cX7_ask 9 = .ok (.iconst 0, 1) := by decide +kernel
theorem dX7_ask_10 : decode cX7_ask 10 = .ok (.iconst 1, 1) := by decide +kernel
theorem dX7_ask_11 : decode cX7_ask 11 = .ok (.invokestatic 73, 3) := by decide +kernel
theorem dX7_ask_14 : decode cX7_ask 14 = .ok (.ifCond .ne 6, 3) := by decide +kernel
theorem dX7_ask_17 : decode cX7_ask 17 = .ok (.ldc 77, 2) := by decide +kernel
theorem dX7_ask_19 : decode cX7_ask 19 = .ok (.ireturn, 1) := by decide +kernel
theorem dX7_ask_20 : decode cX7_ask 20 = .ok (.aload_n 0, 1) := by decide +kernel
theorem dX7_ask_21 : decode cX7_ask 21 = .ok (.getfield 47, 3) := by decide +kernel
theorem dX7_ask_24 : decode cX7_ask 24 = .ok (.aload_n 0, 1) := by decide +kernel
theorem dX7_ask_25 : decode cX7_ask 25 = .ok (.getfield 26, 3) := by decide +kernel
theorem dX7_ask_28 : decode cX7_ask 28 = .ok (.invokevirtual 221, 3) := by decide +kernel
theorem dX7_ask_31 : decode cX7_ask 31 = .ok (.aload_n 0, 1) := by decide +kernel
theorem dX7_ask_32 : decode cX7_ask 32 = .ok (.getfield 65, 3) := by decide +kernel
theorem dX7_ask_35 : decode cX7_ask 35 = .ok (.iload_n 1, 1) := by decide +kernel
theorem dX7_ask_36 : decode cX7_ask 36 = .ok (.iload_n 2, 1) := by decide +kernel
theorem dX7_ask_37 : decode cX7_ask 37 = .ok (.invokevirtual 299, 3) := by decide +kernel
theorem dX7_ask_40 : decode cX7_ask 40 = .ok (.ireturn, 1) := by decide +kernel
theorem dX7_trace_0 : decode cX7_trace 0 = .ok (.iload_n 1, 1) := by decide +kernel
theorem dX7_trace_1 : decode cX7_trace 1 = .ok (.ifCond .lt 26, 3) := by decide +kernel
theorem dX7_trace_4 : decode cX7_trace 4 = .ok (.iload_n 1, 1) := by decide +kernel
theorem dX7_trace_5 : decode cX7_trace 5 = .ok (.aload_n 0, 1) := by decide +kernel
theorem dX7_trace_6 : decode cX7_trace 6 = .ok (.getfield 65, 3) := by decide +kernel
theorem dX7_trace_9 : decode cX7_trace 9 = .ok (.getfield 302, 3) := by decide +kernel
theorem dX7_trace_12 : decode cX7_trace 12 = .ok (.if_icmp .ge 15, 3) := by decide +kernel
theorem dX7_trace_15 : decode cX7_trace 15 = .ok (.aload_n 0, 1) := by decide +kernel
theorem dX7_trace_16 : decode cX7_trace 16 = .ok (.getfield 65, 3) := by decide +kernel
theorem dX7_trace_19 : decode cX7_trace 19 = .ok (.getfield 305, 3) := by decide +kernel
theorem dX7_trace_22 : decode cX7_trace 22 = .ok (.iload_n 1, 1) := by decide +kernel
theorem dX7_trace_23 : decode cX7_trace 23 = .ok (.iaload, 1) := by decide +kernel
theorem dX7_trace_24 : decode cX7_trace 24 = .ok (.goto 6, 3) := by decide +kernel
theorem dX7_trace_27 : decode cX7_trace 27 = .ok (.ldc_w 308, 3) := by decide +kernel
theorem dX7_trace_30 : decode cX7_trace 30 = .ok (.ireturn, 1) := by decide +kernel
theorem dX7_count_0 : decode cX7_count 0 = .ok (.iload_n 1, 1) := by decide +kernel
theorem dX7_count_1 : decode cX7_count 1 = .ok (.tableswitch 99 0 6 #[43, 51, 59, 67, 75, 83, 91], 43) := by decide +kernel
theorem dX7_count_44 : decode cX7_count 44 = .ok (.aload_n 0, 1) := by decide +kernel
theorem dX7_count_45 : decode cX7_count 45 = .ok (.getfield 10, 3) := by decide +kernel
theorem dX7_count_48 : decode cX7_count 48 = .ok (.invokevirtual 309, 3) := by decide +kernel
theorem dX7_count_51 : decode cX7_count 51 = .ok (.ireturn, 1) := by decide +kernel
theorem dX7_count_52 : decode cX7_count 52 = .ok (.aload_n 0, 1) := by decide +kernel
theorem dX7_count_53 : decode cX7_count 53 = .ok (.getfield 26, 3) := by decide +kernel
theorem dX7_count_56 : decode cX7_count 56 = .ok (.getfield 139, 3) := by decide +kernel
theorem dX7_count_59 : decode cX7_count 59 = .ok (.ireturn, 1) := by decide +kernel
theorem dX7_count_60 : decode cX7_count 60 = .ok (.aload_n 0, 1) := by decide +kernel
theorem dX7_count_61 : decode cX7_count 61 = .ok (.getfield 26, 3) := by decide +kernel
theorem dX7_count_64 : decode cX7_count 64 = .ok (.getfield 155, 3) := by decide +kernel
theorem dX7_count_67 : decode cX7_count 67 = .ok (.ireturn, 1) := by decide +kernel
theorem dX7_count_68 : decode cX7_count 68 = .ok (.aload_n 0, 1) := by decide +kernel
theorem dX7_count_69 : decode cX7_count 69 = .ok (.getfield 26, 3) := by decide +kernel
theorem dX7_count_72 : decode cX7_count 72 = .ok (.getfield 185, 3) := by decide +kernel
theorem dX7_count_75 : decode cX7_count 75 = .ok (.ireturn, 1) := by decide +kernel
theorem dX7_count_76 : decode cX7_count 76 = .ok (.aload_n 0, 1) := by decide +kernel
theorem dX7_count_77 : decode cX7_count 77 = .ok (.getfield 26, 3) := by decide +kernel
theorem dX7_count_80 : decode cX7_count 80 = .ok (.invokevirtual 312, 3) := by decide +kernel
theorem dX7_count_83 : decode cX7_count 83 = .ok (.ireturn, 1) := by decide +kernel
theorem dX7_count_84 : decode cX7_count 84 = .ok (.aload_n 0, 1) := by decide +kernel
theorem dX7_count_85 : decode cX7_count 85 = .ok (.getfield 40, 3) := by decide +kernel
theorem dX7_count_88 : decode cX7_count 88 = .ok (.getfield 142, 3) := by decide +kernel
theorem dX7_count_91 : decode cX7_count 91 = .ok (.ireturn, 1) := by decide +kernel
theorem dX7_count_92 : decode cX7_count 92 = .ok (.aload_n 0, 1) := by decide +kernel
theorem dX7_count_93 : decode cX7_count 93 = .ok (.getfield 19, 3) := by decide +kernel
theorem dX7_count_96 : decode cX7_count 96 = .ok (.getfield 113, 3) := by decide +kernel
theorem dX7_count_99 : decode cX7_count 99 = .ok (.ireturn, 1) := by decide +kernel
theorem dX7_count_100 : decode cX7_count 100 = .ok (.ldc 77, 2) := by decide +kernel
theorem dX7_count_102 : decode cX7_count 102 = .ok (.ireturn, 1) := by decide +kernel
theorem dX7_status_0 : decode cX7_status 0 = .ok (.aload_n 0, 1) := by decide +kernel
theorem dX7_status_1 : decode cX7_status 1 = .ok (.getfield 315, 3) := by decide +kernel
theorem dX7_status_4 : decode cX7_status 4 = .ok (.ireturn, 1) := by decide +kernel
theorem dX7_within_0 : decode cX7_within 0 = .ok (.iload_n 0, 1) := by decide +kernel
theorem dX7_within_1 : decode cX7_within 1 = .ok (.iload_n 1, 1) := by decide +kernel
theorem dX7_within_2 : decode cX7_within 2 = .ok (.if_icmp .lt 12, 3) := by decide +kernel
theorem dX7_within_5 : decode cX7_within 5 = .ok (.iload_n 0, 1) := by decide +kernel
theorem dX7_within_6 : decode cX7_within 6 = .ok (.iload_n 2, 1) := by decide +kernel
theorem dX7_within_7 : decode cX7_within 7 = .ok (.if_icmp .gt 7, 3) := by decide +kernel
theorem dX7_within_10 : decode cX7_within 10 = .ok (.iconst 1, 1) := by decide +kernel
theorem dX7_within_11 : decode cX7_within 11 = .ok (.goto 4, 3) := by decide +kernel
theorem dX7_within_14 : decode cX7_within 14 = .ok (.iconst 0, 1) := by decide +kernel
theorem dX7_within_15 : decode cX7_within 15 = .ok (.ireturn, 1) := by decide +kernel
theorem dX7_isGiver_0 : decode cX7_isGiver 0 = .ok (.iload_n 0, 1) := by decide +kernel
theorem dX7_isGiver_1 : decode cX7_isGiver 1 = .ok (.iconst 0, 1) := by decide +kernel
theorem dX7_isGiver_2 : decode cX7_isGiver 2 = .ok (.bipush 9, 2) := by decide +kernel
theorem dX7_isGiver_4 : decode cX7_isGiver 4 = .ok (.invokestatic 73, 3) := by decide +kernel
theorem dX7_isGiver_7 : decode cX7_isGiver 7 = .ok (.ireturn, 1) := by decide +kernel
theorem dX7_areTwoGivers_0 : decode cX7_areTwoGivers 0 = .ok (.iload_n 0, 1) := by decide +kernel
theorem dX7_areTwoGivers_1 : decode cX7_areTwoGivers 1 = .ok (.invokestatic 149, 3) := by decide +kernel
theorem dX7_areTwoGivers_4 : decode cX7_areTwoGivers 4 = .ok (.ifCond .eq 19, 3) := by decide +kernel
theorem dX7_areTwoGivers_7 : decode cX7_areTwoGivers 7 = .ok (.iload_n 1, 1) := by decide +kernel
theorem dX7_areTwoGivers_8 : decode cX7_areTwoGivers 8 = .ok (.invokestatic 149, 3) := by decide +kernel
theorem dX7_areTwoGivers_11 : decode cX7_areTwoGivers 11 = .ok (.ifCond .eq 12, 3) := by decide +kernel
theorem dX7_areTwoGivers_14 : decode cX7_areTwoGivers 14 = .ok (.iload_n 0, 1) := by decide +kernel
theorem dX7_areTwoGivers_15 : decode cX7_areTwoGivers 15 = .ok (.iload_n 1, 1) := by decide +kernel
theorem dX7_areTwoGivers_16 : decode cX7_areTwoGivers 16 = .ok (.if_icmp .eq 7, 3) := by decide +kernel
theorem dX7_areTwoGivers_19 : decode cX7_areTwoGivers 19 = .ok (.iconst 1, 1) := by decide +kernel
theorem dX7_areTwoGivers_20 : decode cX7_areTwoGivers 20 = .ok (.goto 4, 3) := by decide +kernel
theorem dX7_areTwoGivers_23 : decode cX7_areTwoGivers 23 = .ok (.iconst 0, 1) := by decide +kernel
theorem dX7_areTwoGivers_24 : decode cX7_areTwoGivers 24 = .ok (.ireturn, 1) := by decide +kernel
theorem dX7_isProject_0 : decode cX7_isProject 0 = .ok (.iload_n 1, 1) := by decide +kernel
theorem dX7_isProject_1 : decode cX7_isProject 1 = .ok (.ifCond .lt 18, 3) := by decide +kernel
theorem dX7_isProject_4 : decode cX7_isProject 4 = .ok (.iload_n 1, 1) := by decide +kernel
theorem dX7_isProject_5 : decode cX7_isProject 5 = .ok (.aload_n 0, 1) := by decide +kernel
theorem dX7_isProject_6 : decode cX7_isProject 6 = .ok (.getfield 26, 3) := by decide +kernel
theorem dX7_isProject_9 : decode cX7_isProject 9 = .ok (.getfield 139, 3) := by decide +kernel
theorem dX7_isProject_12 : decode cX7_isProject 12 = .ok (.if_icmp .ge 7, 3) := by decide +kernel
theorem dX7_isProject_15 : decode cX7_isProject 15 = .ok (.iconst 1, 1) := by decide +kernel
theorem dX7_isProject_16 : decode cX7_isProject 16 = .ok (.goto 4, 3) := by decide +kernel
theorem dX7_isProject_19 : decode cX7_isProject 19 = .ok (.iconst 0, 1) := by decide +kernel
theorem dX7_isProject_20 : decode cX7_isProject 20 = .ok (.ireturn, 1) := by decide +kernel
theorem dX7_isGift_0 : decode cX7_isGift 0 = .ok (.iload_n 1, 1) := by decide +kernel
theorem dX7_isGift_1 : decode cX7_isGift 1 = .ok (.ifCond .lt 18, 3) := by decide +kernel
theorem dX7_isGift_4 : decode cX7_isGift 4 = .ok (.iload_n 1, 1) := by decide +kernel
theorem dX7_isGift_5 : decode cX7_isGift 5 = .ok (.aload_n 0, 1) := by decide +kernel
theorem dX7_isGift_6 : decode cX7_isGift 6 = .ok (.getfield 26, 3) := by decide +kernel
theorem dX7_isGift_9 : decode cX7_isGift 9 = .ok (.getfield 155, 3) := by decide +kernel
theorem dX7_isGift_12 : decode cX7_isGift 12 = .ok (.if_icmp .ge 7, 3) := by decide +kernel
theorem dX7_isGift_15 : decode cX7_isGift 15 = .ok (.iconst 1, 1) := by decide +kernel
theorem dX7_isGift_16 : decode cX7_isGift 16 = .ok (.goto 4, 3) := by decide +kernel
theorem dX7_isGift_19 : decode cX7_isGift 19 = .ok (.iconst 0, 1) := by decide +kernel
theorem dX7_isGift_20 : decode cX7_isGift 20 = .ok (.ireturn, 1) := by decide +kernel
theorem dX7_isOfKind_0 : decode cX7_isOfKind 0 = .ok (.iload_n 0, 1) := by decide +kernel
theorem dX7_isOfKind_1 : decode cX7_isOfKind 1 = .ok (.istore_n 2, 1) := by decide +kernel
theorem dX7_isOfKind_2 : decode cX7_isOfKind 2 = .ok (.iconst 0, 1) := by decide +kernel
theorem dX7_isOfKind_3 : decode cX7_isOfKind 3 = .ok (.istore_n 3, 1) := by decide +kernel
theorem dX7_isOfKind_4 : decode cX7_isOfKind 4 = .ok (.iload_n 3, 1) := by decide +kernel
theorem dX7_isOfKind_5 : decode cX7_isOfKind 5 = .ok (.bipush 6, 2) := by decide +kernel
theorem dX7_isOfKind_7 : decode cX7_isOfKind 7 = .ok (.if_icmp .ge 26, 3) := by decide +kernel
theorem dX7_isOfKind_10 : decode cX7_isOfKind 10 = .ok (.iload_n 2, 1) := by decide +kernel
theorem dX7_isOfKind_11 : decode cX7_isOfKind 11 = .ok (.ifCond .lt 22, 3) := by decide +kernel
theorem dX7_isOfKind_14 : decode cX7_isOfKind 14 = .ok (.iload_n 2, 1) := by decide +kernel
theorem dX7_isOfKind_15 : decode cX7_isOfKind 15 = .ok (.iload_n 1, 1) := by decide +kernel
theorem dX7_isOfKind_16 : decode cX7_isOfKind 16 = .ok (.if_icmp .ne 5, 3) := by decide +kernel
theorem dX7_isOfKind_19 : decode cX7_isOfKind 19 = .ok (.iconst 1, 1) := by decide +kernel
theorem dX7_isOfKind_20 : decode cX7_isOfKind 20 = .ok (.ireturn, 1) := by decide +kernel
theorem dX7_isOfKind_21 : decode cX7_isOfKind 21 = .ok (.getstatic 318, 3) := by decide +kernel
theorem dX7_isOfKind_24 : decode cX7_isOfKind 24 = .ok (.iload_n 2, 1) := by decide +kernel
theorem dX7_isOfKind_25 : decode cX7_isOfKind 25 = .ok (.iaload, 1) := by decide +kernel
theorem dX7_isOfKind_26 : decode cX7_isOfKind 26 = .ok (.istore_n 2, 1) := by decide +kernel
theorem dX7_isOfKind_27 : decode cX7_isOfKind 27 = .ok (.iinc 3 1, 3) := by decide +kernel
theorem dX7_isOfKind_30 : decode cX7_isOfKind 30 = .ok (.goto (-26), 3) := by decide +kernel
theorem dX7_isOfKind_33 : decode cX7_isOfKind 33 = .ok (.iconst 0, 1) := by decide +kernel
theorem dX7_isOfKind_34 : decode cX7_isOfKind 34 = .ok (.ireturn, 1) := by decide +kernel
theorem dX7_found_0 : decode cX7_found 0 = .ok (.aload_n 0, 1) := by decide +kernel
theorem dX7_found_1 : decode cX7_found 1 = .ok (.iload_n 1, 1) := by decide +kernel
theorem dX7_found_2 : decode cX7_found 2 = .ok (.putfield 315, 3) := by decide +kernel
theorem dX7_found_5 : decode cX7_found 5 = .ok (.ldc_w 321, 3) := by decide +kernel
theorem dX7_found_8 : decode cX7_found 8 = .ok (.iload_n 1, 1) := by decide +kernel
theorem dX7_found_9 : decode cX7_found 9 = .ok (.isub, 1) := by decide +kernel
theorem dX7_found_10 : decode cX7_found 10 = .ok (.ireturn, 1) := by decide +kernel
theorem dX7_unmarred_0 : decode cX7_unmarred 0 = .ok (.aload_n 0, 1) := by decide +kernel
theorem dX7_unmarred_1 : decode cX7_unmarred 1 = .ok (.iconst 0, 1) := by decide +kernel
theorem dX7_unmarred_2 : decode cX7_unmarred 2 = .ok (.putfield 315, 3) := by decide +kernel
theorem dX7_unmarred_5 : decode cX7_unmarred 5 = .ok (.iload_n 1, 1) := by decide +kernel
theorem dX7_unmarred_6 : decode cX7_unmarred 6 = .ok (.ireturn, 1) := by decide +kernel
