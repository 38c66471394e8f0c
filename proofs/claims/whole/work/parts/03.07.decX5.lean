theorem dX5_init_0 : decode cX5_init 0 = .ok (.aload_n 0, 1) := by decide +kernel
theorem dX5_init_1 : decode cX5_init 1 = .ok (.invokespecial 1, 3) := by decide +kernel
theorem dX5_init_4 : decode cX5_init 4 = .ok (.aload_n 0, 1) := by decide +kernel
theorem dX5_init_5 : decode cX5_init 5 = .ok (.bipush 8, 2) := by decide +kernel
theorem dX5_init_7 : decode cX5_init 7 = .ok (.newarray .int, 2) := by decide +kernel
theorem dX5_init_9 : decode cX5_init 9 = .ok (.dup, 1) := by decide +kernel
theorem dX5_init_10 : decode cX5_init 10 = .ok (.iconst 0, 1) := by decide +kernel
theorem dX5_init_11 : decode cX5_init 11 = .ok (.iconst (-1), 1) := by decide +kernel
theorem dX5_init_12 : decode cX5_init 12 = .ok (.iastore, 1) := by decide +kernel
theorem dX5_init_13 : decode cX5_init 13 = .ok (.dup, 1) := by decide +kernel
theorem dX5_init_14 : decode cX5_init 14 = .ok (.iconst 1, 1) := by decide +kernel
theorem dX5_init_15 : decode cX5_init 15 = .ok (.iconst (-1), 1) := by decide +kernel
theorem dX5_init_16 : decode cX5_init 16 = .ok (.iastore, 1) := by decide +kernel
theorem dX5_init_17 : decode cX5_init 17 = .ok (.dup, 1) := by decide +kernel
theorem dX5_init_18 : decode cX5_init 18 = .ok (.iconst 2, 1) := by decide +kernel
theorem dX5_init_19 : decode cX5_init 19 = .ok (.iconst (-1), 1) := by decide +kernel
theorem dX5_init_20 : decode cX5_init 20 = .ok (.iastore, 1) := by decide +kernel
theorem dX5_init_21 : decode cX5_init 21 = .ok (.dup, 1) := by decide +kernel
theorem dX5_init_22 : decode cX5_init 22 = .ok (.iconst 3, 1) := by decide +kernel
theorem dX5_init_23 : decode cX5_init 23 = .ok (.iconst (-1), 1) := by decide +kernel
theorem dX5_init_24 : decode cX5_init 24 = .ok (.iastore, 1) := by decide +kernel
theorem dX5_init_25 : decode cX5_init 25 = .ok (.dup, 1) := by decide +kernel
theorem dX5_init_26 : decode cX5_init 26 = .ok (.iconst 4, 1) := by decide +kernel
theorem dX5_init_27 : decode cX5_init 27 = .ok (.iconst (-1), 1) := by decide +kernel
theorem dX5_init_28 : decode cX5_init 28 = .ok (.iastore, 1) := by decide +kernel
theorem dX5_init_29 : decode cX5_init 29 = .ok (.dup, 1) := by decide +kernel
theorem dX5_init_30 : decode cX5_init 30 = .ok (.iconst 5, 1) := by decide +kernel
theorem dX5_init_31 : decode cX5_init 31 = .ok (.iconst (-1), 1) := by decide +kernel
theorem dX5_init_32 : decode cX5_init 32 = .ok (.iastore, 1) := by decide +kernel
theorem dX5_init_33 : decode cX5_init 33 = .ok (.dup, 1) := by decide +kernel
theorem dX5_init_34 : decode cX5_init 34 = .ok (.bipush 6, 2) := by decide +kernel
theorem dX5_init_36 : decode cX5_init 36 = .ok (.iconst (-1), 1) := by decide +kernel
theorem dX5_init_37 : decode cX5_init 37 = .ok (.iastore, 1) := by decide +kernel
theorem dX5_init_38 : decode cX5_init 38 = .ok (.dup, 1) := by decide +kernel
theorem dX5_init_39 : decode cX5_init 39 = .ok (.bipush 7, 2) := by decide +kernel
theorem dX5_init_41 : decode cX5_init 41 = .ok (.iconst (-1), 1) := by decide +kernel
theorem dX5_init_42 : decode cX5_init 42 = .ok (.iastore, 1) := by decide +kernel
theorem dX5_init_43 : decode cX5_init 43 = .ok (.putfield 9, 3) := by decide +kernel
theorem dX5_init_46 : decode cX5_init 46 = .ok (.aload_n 0, 1) := by decide +kernel
theorem dX5_init_47 : decode cX5_init 47 = .ok (.bipush 8, 2) := by decide +kernel
theorem dX5_init_49 : decode cX5_init 49 = .ok (.newarray .int, 2) := by decide +kernel
theorem dX5_init_51 : decode cX5_init 51 = .ok (.putfield 13, 3) := by decide +kernel
theorem dX5_init_54 : decode cX5_init 54 = .ok (.aload_n 0, 1) := by decide +kernel
theorem dX5_init_55 : decode cX5_init 55 = .ok (.sipush 320, 3) := by decide +kernel
theorem dX5_init_58 : decode cX5_init 58 = .ok (.newarray .int, 2) := by decide +kernel
theorem dX5_init_60 : decode cX5_init 60 = .ok (.putfield 16, 3) := by decide +kernel
theorem dX5_init_63 : decode cX5_init 63 = .ok (.return_, 1) := by decide +kernel
theorem dX5_isRow_0 : decode cX5_isRow 0 = .ok (.iload_n 0, 1) := by decide +kernel
theorem dX5_isRow_1 : decode cX5_isRow 1 = .ok (.ifCond .lt 13, 3) := by decide +kernel
theorem dX5_isRow_4 : decode cX5_isRow 4 = .ok (.iload_n 0, 1) := by decide +kernel
theorem dX5_isRow_5 : decode cX5_isRow 5 = .ok (.bipush 8, 2) := by decide +kernel
theorem dX5_isRow_7 : decode cX5_isRow 7 = .ok (.if_icmp .ge 7, 3) := by decide +kernel
theorem dX5_isRow_10 : decode cX5_isRow 10 = .ok (.iconst 1, 1) := by decide +kernel
theorem dX5_isRow_11 : decode cX5_isRow 11 = .ok (.goto 4, 3) := by decide +kernel
theorem dX5_isRow_14 : decode cX5_isRow 14 = .ok (.iconst 0, 1) := by decide +kernel
theorem dX5_isRow_15 : decode cX5_isRow 15 = .ok (.ireturn, 1) := by decide +kernel
theorem dX5_isMissing_0 : decode cX5_isMissing 0 = .ok (.aload_n 0, 1) := by decide +kernel
theorem dX5_isMissing_1 : decode cX5_isMissing 1 = .ok (.getfield 9, 3) := by decide +kernel
theorem dX5_isMissing_4 : decode cX5_isMissing 4 = .ok (.iload_n 1, 1) := by decide +kernel
theorem dX5_isMissing_5 : decode cX5_isMissing 5 = .ok (.iaload, 1) := by decide +kernel
theorem dX5_isMissing_6 : decode cX5_isMissing 6 = .ok (.iconst (-1), 1) := by decide +kernel
theorem dX5_isMissing_7 : decode cX5_isMissing 7 = .ok (.if_icmp .ne 7, 3) := by decide +kernel
theorem dX5_isMissing_10 : decode cX5_isMissing 10 = .ok (.iconst 1, 1) := by decide +kernel
theorem dX5_isMissing_11 : decode cX5_isMissing 11 = .ok (.goto 4, 3) := by decide +kernel
theorem dX5_isMissing_14 : decode cX5_isMissing 14 = .ok (.iconst 0, 1) := by decide +kernel
theorem dX5_isMissing_15 : decode cX5_isMissing 15 = .ok (.ireturn, 1) := by decide +kernel
theorem dX5_hasPlaces_0 : decode cX5_hasPlaces 0 = .ok (.iload_n 2, 1) := by decide +kernel
theorem dX5_hasPlaces_1 : decode cX5_hasPlaces 1 = .ok (.ifCond .lt 23, 3) := by decide +kernel
theorem dX5_hasPlaces_4 : decode cX5_hasPlaces 4 = .ok (.iload_n 3, 1) := by decide +kernel
theorem dX5_hasPlaces_5 : decode cX5_hasPlaces 5 = .ok (.ifCond .lt 19, 3) := by decide +kernel
theorem dX5_hasPlaces_8 : decode cX5_hasPlaces 8 = .ok (.iload_n 2, 1) := by decide +kernel
theorem dX5_hasPlaces_9 : decode cX5_hasPlaces 9 = .ok (.aload_n 0, 1) := by decide +kernel
theorem dX5_hasPlaces_10 : decode cX5_hasPlaces 10 = .ok (.getfield 13, 3) := by decide +kernel
theorem dX5_hasPlaces_13 : decode cX5_hasPlaces 13 = .ok (.iload_n 1, 1) := by decide +kernel
theorem dX5_hasPlaces_14 : decode cX5_hasPlaces 14 = .ok (.iaload, 1) := by decide +kernel
theorem dX5_hasPlaces_15 : decode cX5_hasPlaces 15 = .ok (.iload_n 3, 1) := by decide +kernel
theorem dX5_hasPlaces_16 : decode cX5_hasPlaces 16 = .ok (.isub, 1) := by decide +kernel
theorem dX5_hasPlaces_17 : decode cX5_hasPlaces 17 = .ok (.if_icmp .gt 7, 3) := by decide +kernel
theorem dX5_hasPlaces_20 : decode cX5_hasPlaces 20 = .ok (.iconst 1, 1) := by decide +kernel
theorem dX5_hasPlaces_21 : decode cX5_hasPlaces 21 = .ok (.goto 4, 3) := by decide +kernel
theorem dX5_hasPlaces_24 : decode cX5_hasPlaces 24 = .ok (.iconst 0, 1) := by decide +kernel
theorem dX5_hasPlaces_25 : decode cX5_hasPlaces 25 = .ok (.ireturn, 1) := by decide +kernel
theorem dX5_lay_0 : decode cX5_lay 0 = .ok (.aload_n 0, 1) := by decide +kernel
theorem dX5_lay_1 : decode cX5_lay 1 = .ok (.getfield 9, 3) := by decide +kernel
theorem dX5_lay_4 : decode cX5_lay 4 = .ok (.iload_n 1, 1) := by decide +kernel
theorem dX5_lay_5 : decode cX5_lay 5 = .ok (.iload_n 2, 1) := by decide +kernel
theorem dX5_lay_6 : decode cX5_lay 6 = .ok (.iastore, 1) := by decide +kernel
theorem dX5_lay_7 : decode cX5_lay 7 = .ok (.aload_n 0, 1) := by decide +kernel
theorem dX5_lay_8 : decode cX5_lay 8 = .ok (.getfield 13, 3) := by decide +kernel
theorem dX5_lay_11 : decode cX5_lay 11 = .ok (.iload_n 1, 1) := by decide +kernel
theorem dX5_lay_12 : decode cX5_lay 12 = .ok (.iload_n 3, 1) := by decide +kernel
theorem dX5_lay_13 : decode cX5_lay 13 = .ok (.iastore, 1) := by decide +kernel
theorem dX5_lay_14 : decode cX5_lay 14 = .ok (.iconst 0, 1) := by decide +kernel
theorem dX5_lay_15 : decode cX5_lay 15 = .ok (.istore 4, 2) := by decide +kernel
theorem dX5_lay_17 : decode cX5_lay 17 = .ok (.iload 4, 2) := by decide +kernel
theorem dX5_lay_19 : decode cX5_lay 19 = .ok (.iload_n 3, 1) := by decide +kernel
theorem dX5_lay_20 : decode cX5_lay 20 = .ok (.if_icmp .ge 22, 3) := by decide +kernel
theorem dX5_lay_23 : decode cX5_lay 23 = .ok (.aload_n 0, 1) := by decide +kernel
theorem dX5_lay_24 : decode cX5_lay 24 = .ok (.getfield 16, 3) := by decide +kernel
theorem dX5_lay_27 : decode cX5_lay 27 = .ok (.iload_n 1, 1) := by decide +kernel
theorem dX5_lay_28 : decode cX5_lay 28 = .ok (.bipush 40, 2) := by decide +kernel
theorem dX5_lay_30 : decode cX5_lay 30 = .ok (.imul, 1) := by decide +kernel
theorem dX5_lay_31 : decode cX5_lay 31 = .ok (.iload 4, 2) := by decide +kernel
theorem dX5_lay_33 : decode cX5_lay 33 = .ok (.iadd, 1) := by decide +kernel
theorem dX5_lay_34 : decode cX5_lay 34 = .ok (.iconst 0, 1) := by decide +kernel
theorem dX5_lay_35 : decode cX5_lay 35 = .ok (.iastore, 1) := by decide +kernel
theorem dX5_lay_36 : decode cX5_lay 36 = .ok (.iinc 4 1, 3) := by decide +kernel
theorem dX5_lay_39 : decode cX5_lay 39 = .ok (.goto (-22), 3) := by decide +kernel
theorem dX5_lay_42 : decode cX5_lay 42 = .ok (.return_, 1) := by decide +kernel
theorem dX5_store_0 : decode cX5_store 0 = .ok (.iload_n 3, 1) := by decide +kernel
theorem dX5_store_1 : decode cX5_store 1 = .ok (.istore 4, 2) := by decide +kernel
theorem dX5_store_3 : decode cX5_store 3 = .ok (.aload_n 0, 1) := by decide +kernel
theorem dX5_store_4 : decode cX5_store 4 = .ok (.getfield 9, 3) := by decide +kernel
theorem dX5_store_7 : decode cX5_store 7 = .ok (.iload_n 1, 1) := by decide +kernel
theorem dX5_store_8 : decode cX5_store 8 = .ok (.iaload, 1) := by decide +kernel
theorem dX5_store_9 : decode cX5_store 9 = .ok (.ifCond .ne 10, 3) := by decide +kernel
theorem dX5_store_12 : decode cX5_store 12 = .ok (.iload_n 3, 1) := by decide +kernel
theorem dX5_store_13 : decode cX5_store 13 = .ok (.i2b, 1) := by decide +kernel
theorem dX5_store_14 : decode cX5_store 14 = .ok (.istore 4, 2) := by decide +kernel
theorem dX5_store_16 : decode cX5_store 16 = .ok (.goto 17, 3) := by decide +kernel
theorem dX5_store_19 : decode cX5_store 19 = .ok (.aload_n 0, 1) := by decide +kernel
theorem dX5_store_20 : decode cX5_store 20 = .ok (.getfield 9, 3) := by decide +kernel
theorem dX5_store_23 : decode cX5_store 23 = .ok (.iload_n 1, 1) := by decide +kernel
theorem dX5_store_24 : decode cX5_store 24 = .ok (.iaload, 1) := by decide +kernel
theorem dX5_store_25 : decode cX5_store 25 = .ok (.iconst 1, 1) := by decide +kernel
theorem dX5_store_26 : decode cX5_store 26 = .ok (.if_icmp .ne 7, 3) := by decide +kernel
theorem dX5_store_29 : decode cX5_store 29 = .ok (.iload_n 3, 1) := by decide +kernel
theorem dX5_store_30 : decode cX5_store 30 = .ok (.i2s, 1) := by decide +kernel
theorem dX5_store_31 : decode cX5_store 31 = .ok (.istore 4, 2) := by decide +kernel
theorem dX5_store_33 : decode cX5_store 33 = .ok (.aload_n 0, 1) := by decide +kernel
theorem dX5_store_34 : decode cX5_store 34 = .ok (.getfield 16, 3) := by decide +kernel
theorem dX5_store_37 : decode cX5_store 37 = .ok (.iload_n 1, 1) := by decide +kernel
theorem dX5_store_38 : decode cX5_store 38 = .ok (.bipush 40, 2) := by decide +kernel
theorem dX5_store_40 : decode cX5_store 40 = .ok (.imul, 1) := by decide +kernel
theorem dX5_store_41 : decode cX5_store 41 = .ok (.iload_n 2, 1) := by decide +kernel
theorem dX5_store_42 : decode cX5_store 42 = .ok (.iadd, 1) := by decide +kernel
theorem dX5_store_43 : decode cX5_store 43 = .ok (.iload 4, 2) := by decide +kernel
theorem dX5_store_45 : decode cX5_store 45 = .ok (.iastore, 1) := by decide +kernel
theorem dX5_store_46 : decode cX5_store 46 = .ok (.iload 4, 2) := by decide +kernel
theorem dX5_store_48 : decode cX5_store 48 = .ok (.ireturn, 1) := by decide +kernel
theorem dX5_itemAt_0 : decode cX5_itemAt 0 = .ok (.aload_n 0, 1) := by decide +kernel
theorem dX5_itemAt_1 : decode cX5_itemAt 1 = .ok (.getfield 16, 3) := by decide +kernel
theorem dX5_itemAt_4 : decode cX5_itemAt 4 = .ok (.iload_n 1, 1) := by decide +kernel
theorem dX5_itemAt_5 : decode cX5_itemAt 5 = .ok (.bipush 40, 2) := by decide +kernel
theorem dX5_itemAt_7 : decode cX5_itemAt 7 = .ok (.imul, 1) := by decide +kernel
theorem dX5_itemAt_8 : decode cX5_itemAt 8 = .ok (.iload_n 2, 1) := by decide +kernel
theorem dX5_itemAt_9 : decode cX5_itemAt 9 = .ok (.iadd, 1) := by decide +kernel
theorem dX5_itemAt_10 : decode cX5_itemAt 10 = .ok (.iaload, 1) := by decide +kernel
theorem dX5_itemAt_11 : decode cX5_itemAt 11 = .ok (.ireturn, 1) := by decide +kernel
theorem dX5_move_0 : decode cX5_move 0 = .ok (.aload_n 0, 1) := by decide +kernel
theorem dX5_move_1 : decode cX5_move 1 = .ok (.getfield 16, 3) := by decide +kernel
theorem dX5_move_4 : decode cX5_move 4 = .ok (.iload_n 1, 1) := by decide +kernel
theorem dX5_move_5 : decode cX5_move 5 = .ok (.bipush 40, 2) := by decide +kernel
theorem dX5_move_7 : decode cX5_move 7 = .ok (.imul, 1) := by decide +kernel
theorem dX5_move_8 : decode cX5_move 8 = .ok (.iload_n 2, 1) := by decide +kernel
theorem dX5_move_9 : decode cX5_move 9 = .ok (.iadd, 1) := by decide +kernel
theorem dX5_move_10 : decode cX5_move 10 = .ok (.aload_n 0, 1) := by decide +kernel
theorem dX5_move_11 : decode cX5_move 11 = .ok (.getfield 16, 3) := by decide +kernel
theorem dX5_move_14 : decode cX5_move 14 = .ok (.iload_n 3, 1) := by decide +kernel
theorem dX5_move_15 : decode cX5_move 15 = .ok (.bipush 40, 2) := by decide +kernel
theorem dX5_move_17 : decode cX5_move 17 = .ok (.imul, 1) := by decide +kernel
theorem dX5_move_18 : decode cX5_move 18 = .ok (.iload 4, 2) := by decide +kernel
theorem dX5_move_20 : decode cX5_move 20 = .ok (.iadd, 1) := by decide +kernel
theorem dX5_move_21 : decode cX5_move 21 = .ok (.iload 5, 2) := by decide +kernel
theorem dX5_move_23 : decode cX5_move 23 = .ok (.invokestatic 19, 3) := by decide +kernel
theorem dX5_move_26 : decode cX5_move 26 = .ok (.return_, 1) := by decide +kernel
theorem dX5_lose_0 : decode cX5_lose 0 = .ok (.aload_n 0, 1) := by decide +kernel
theorem dX5_lose_1 : decode cX5_lose 1 = .ok (.getfield 9, 3) := by decide +kernel
theorem dX5_lose_4 : decode cX5_lose 4 = .ok (.iload_n 1, 1) := by decide +kernel
theorem dX5_lose_5 : decode cX5_lose 5 = .ok (.iconst (-1), 1) := by decide +kernel
theorem dX5_lose_6 : decode cX5_lose 6 = .ok (.iastore, 1) := by decide +kernel
theorem dX5_lose_7 : decode cX5_lose 7 = .ok (.aload_n 0, 1) := by decide +kernel
theorem dX5_lose_8 : decode cX5_lose 8 = .ok (.getfield 13, 3) := by decide +kernel
theorem dX5_lose_11 : decode cX5_lose 11 = .ok (.iload_n 1, 1) := by decide +kernel
theorem dX5_lose_12 : decode cX5_lose 12 = .ok (.iaload, 1) := by decide +kernel
theorem dX5_lose_13 : decode cX5_lose 13 = .ok (.ireturn, 1) := by decide +kernel
theorem dX5_howMany_0 : decode cX5_howMany 0 = .ok (.iconst 0, 1) := by decide +kernel
theorem dX5_howMany_1 : decode cX5_howMany 1 = .ok (.istore_n 1, 1) := by decide +kernel
theorem dX5_howMany_2 : decode cX5_howMany 2 = .ok (.iconst 0, 1) := by decide +kernel
theorem dX5_howMany_3 : decode cX5_howMany 3 = .ok (.istore_n 2, 1) := by decide +kernel
theorem dX5_howMany_4 : decode cX5_howMany 4 = .ok (.iload_n 2, 1) := by decide +kernel
theorem dX5_howMany_5 : decode cX5_howMany 5 = .ok (.bipush 8, 2) := by decide +kernel
theorem dX5_howMany_7 : decode cX5_howMany 7 = .ok (.if_icmp .ge 25, 3) := by decide +kernel
theorem dX5_howMany_10 : decode cX5_howMany 10 = .ok (.iload_n 1, 1) := by decide +kernel
theorem dX5_howMany_11 : decode cX5_howMany 11 = .ok (.aload_n 0, 1) := by decide +kernel
theorem dX5_howMany_12 : decode cX5_howMany 12 = .ok (.iload_n 2, 1) := by decide +kernel
theorem dX5_howMany_13 : decode cX5_howMany 13 = .ok (.invokevirtual 25, 3) := by decide +kernel
theorem dX5_howMany_16 : decode cX5_howMany 16 = .ok (.ifCond .eq 7, 3) := by decide +kernel
theorem dX5_howMany_19 : decode cX5_howMany 19 = .ok (.iconst 0, 1) := by decide +kernel
theorem dX5_howMany_20 : decode cX5_howMany 20 = .ok (.goto 4, 3) := by decide +kernel
theorem dX5_howMany_23 : decode cX5_howMany 23 = .ok (.iconst 1, 1) := by decide +kernel
theorem dX5_howMany_24 : decode cX5_howMany 24 = .ok (.iadd, 1) := by decide +kernel
theorem dX5_howMany_25 : decode cX5_howMany 25 = .ok (.istore_n 1, 1) := by decide +kernel
theorem dX5_howMany_26 : decode cX5_howMany 26 = .ok (.iinc 2 1, 3) := by decide +kernel
theorem dX5_howMany_29 : decode cX5_howMany 29 = .ok (.goto (-25), 3) := by decide +kernel
theorem dX5_howMany_32 : decode cX5_howMany 32 = .ok (.iload_n 1, 1) := by decide +kernel
theorem dX5_howMany_33 : decode cX5_howMany 33 = .ok (.ireturn, 1) := by decide +kernel
