theorem dX5_init_0 : decode cX5_init 0 = .ok (.aload_n 0, 1) := by decide +kernel
theorem dX5_init_1 : decode cX5_init 1 = .ok (.invokespecial 1, 3) := by decide +kernel
theorem dX5_init_4 : decode cX5_init 4 = .ok (.aload_n 0, 1) := by decide +kernel
theorem dX5_init_5 : decode cX5_init 5 = .ok (.iconst (-1), 1) := by decide +kernel
theorem dX5_init_6 : decode cX5_init 6 = .ok (.putfield 9, 3) := by decide +kernel
theorem dX5_init_9 : decode cX5_init 9 = .ok (.aload_n 0, 1) := by decide +kernel
theorem dX5_init_10 : decode cX5_init 10 = .ok (.iconst (-1), 1) := by decide +kernel
theorem dX5_init_11 : decode cX5_init 11 = .ok (.putfield 13, 3) := by decide +kernel
theorem dX5_init_14 : decode cX5_init 14 = .ok (.aload_n 0, 1) := by decide +kernel
theorem dX5_init_15 : decode cX5_init 15 = .ok (.bipush 60, 2) := by decide +kernel
theorem dX5_init_17 : decode cX5_init 17 = .ok (.newarray .int, 2) := by decide +kernel
theorem dX5_init_19 : decode cX5_init 19 = .ok (.putfield 16, 3) := by decide +kernel
theorem dX5_init_22 : decode cX5_init 22 = .ok (.aload_n 0, 1) := by decide +kernel
theorem dX5_init_23 : decode cX5_init 23 = .ok (.bipush 60, 2) := by decide +kernel
theorem dX5_init_25 : decode cX5_init 25 = .ok (.newarray .int, 2) := by decide +kernel
theorem dX5_init_27 : decode cX5_init 27 = .ok (.putfield 20, 3) := by decide +kernel
theorem dX5_init_30 : decode cX5_init 30 = .ok (.aload_n 0, 1) := by decide +kernel
theorem dX5_init_31 : decode cX5_init 31 = .ok (.bipush 60, 2) := by decide +kernel
theorem dX5_init_33 : decode cX5_init 33 = .ok (.newarray .int, 2) := by decide +kernel
theorem dX5_init_35 : decode cX5_init 35 = .ok (.putfield 23, 3) := by decide +kernel
theorem dX5_init_38 : decode cX5_init 38 = .ok (.aload_n 0, 1) := by decide +kernel
theorem dX5_init_39 : decode cX5_init 39 = .ok (.bipush 60, 2) := by decide +kernel
theorem dX5_init_41 : decode cX5_init 41 = .ok (.newarray .int, 2) := by decide +kernel
theorem dX5_init_43 : decode cX5_init 43 = .ok (.putfield 26, 3) := by decide +kernel
theorem dX5_init_46 : decode cX5_init 46 = .ok (.aload_n 0, 1) := by decide +kernel
theorem dX5_init_47 : decode cX5_init 47 = .ok (.bipush 60, 2) := by decide +kernel
theorem dX5_init_49 : decode cX5_init 49 = .ok (.newarray .boolean, 2) := by decide +kernel
theorem dX5_init_51 : decode cX5_init 51 = .ok (.putfield 29, 3) := by decide +kernel
theorem dX5_init_54 : decode cX5_init 54 = .ok (.aload_n 0, 1) := by decide +kernel
theorem dX5_init_55 : decode cX5_init 55 = .ok (.iconst 4, 1) := by decide +kernel
theorem dX5_init_56 : decode cX5_init 56 = .ok (.newarray .int, 2) := by decide +kernel
theorem dX5_init_58 : decode cX5_init 58 = .ok (.putfield 33, 3) := by decide +kernel
theorem dX5_init_61 : decode cX5_init 61 = .ok (.aload_n 0, 1) := by decide +kernel
theorem dX5_init_62 : decode cX5_init 62 = .ok (.bipush 60, 2) := by decide +kernel
theorem dX5_init_64 : decode cX5_init 64 = .ok (.newarray .int, 2) := by decide +kernel
theorem dX5_init_66 : decode cX5_init 66 = .ok (.putfield 36, 3) := by decide +kernel
theorem dX5_init_69 : decode cX5_init 69 = .ok (.iconst 0, 1) := by decide +kernel
theorem dX5_init_70 : decode cX5_init 70 = .ok (.istore_n 1, 1) := by decide +kernel
theorem dX5_init_71 : decode cX5_init 71 = .ok (.iload_n 1, 1) := by decide +kernel
theorem dX5_init_72 : decode cX5_init 72 = .ok (.iconst 4, 1) := by decide +kernel
theorem dX5_init_73 : decode cX5_init 73 = .ok (.if_icmp .ge 16, 3) := by decide +kernel
theorem dX5_init_76 : decode cX5_init 76 = .ok (.aload_n 0, 1) := by decide +kernel
theorem dX5_init_77 : decode cX5_init 77 = .ok (.getfield 33, 3) := by decide +kernel
theorem dX5_init_80 : decode cX5_init 80 = .ok (.iload_n 1, 1) := by decide +kernel
theorem dX5_init_81 : decode cX5_init 81 = .ok (.iconst (-1), 1) := by decide +kernel
theorem dX5_init_82 : decode cX5_init 82 = .ok (.iastore, 1) := by decide +kernel
theorem dX5_init_83 : decode cX5_init 83 = .ok (.iinc 1 1, 3) := by decide +kernel
theorem dX5_init_86 : decode cX5_init 86 = .ok (.goto (-15), 3) := by decide +kernel
theorem dX5_init_89 : decode cX5_init 89 = .ok (.return_, 1) := by decide +kernel
theorem dX5_thrown_0 : decode cX5_thrown 0 = .ok (.aload_n 0, 1) := by decide +kernel
theorem dX5_thrown_1 : decode cX5_thrown 1 = .ok (.getfield 39, 3) := by decide +kernel
theorem dX5_thrown_4 : decode cX5_thrown 4 = .ok (.ireturn, 1) := by decide +kernel
theorem dX5_goesWell_0 : decode cX5_goesWell 0 = .ok (.aload_n 0, 1) := by decide +kernel
theorem dX5_goesWell_1 : decode cX5_goesWell 1 = .ok (.iload_n 1, 1) := by decide +kernel
theorem dX5_goesWell_2 : decode cX5_goesWell 2 = .ok (.putfield 39, 3) := by decide +kernel
theorem dX5_goesWell_5 : decode cX5_goesWell 5 = .ok (.iload_n 1, 1) := by decide +kernel
theorem dX5_goesWell_6 : decode cX5_goesWell 6 = .ok (.ifCond .ne 7, 3) := by decide +kernel
theorem dX5_goesWell_9 : decode cX5_goesWell 9 = .ok (.iconst 1, 1) := by decide +kernel
theorem dX5_goesWell_10 : decode cX5_goesWell 10 = .ok (.goto 4, 3) := by decide +kernel
theorem dX5_goesWell_13 : decode cX5_goesWell 13 = .ok (.iconst 0, 1) := by decide +kernel
theorem dX5_goesWell_14 : decode cX5_goesWell 14 = .ok (.ireturn, 1) := by decide +kernel
theorem dX5_leftmost_0 : decode cX5_leftmost 0 = .ok (.iload_n 1, 1) := by decide +kernel
theorem dX5_leftmost_1 : decode cX5_leftmost 1 = .ok (.istore_n 2, 1) := by decide +kernel
theorem dX5_leftmost_2 : decode cX5_leftmost 2 = .ok (.aload_n 0, 1) := by decide +kernel
theorem dX5_leftmost_3 : decode cX5_leftmost 3 = .ok (.getfield 20, 3) := by decide +kernel
theorem dX5_leftmost_6 : decode cX5_leftmost 6 = .ok (.iload_n 2, 1) := by decide +kernel
theorem dX5_leftmost_7 : decode cX5_leftmost 7 = .ok (.iaload, 1) := by decide +kernel
theorem dX5_leftmost_8 : decode cX5_leftmost 8 = .ok (.iconst (-1), 1) := by decide +kernel
theorem dX5_leftmost_9 : decode cX5_leftmost 9 = .ok (.if_icmp .eq 13, 3) := by decide +kernel
theorem dX5_leftmost_12 : decode cX5_leftmost 12 = .ok (.aload_n 0, 1) := by decide +kernel
theorem dX5_leftmost_13 : decode cX5_leftmost 13 = .ok (.getfield 20, 3) := by decide +kernel
theorem dX5_leftmost_16 : decode cX5_leftmost 16 = .ok (.iload_n 2, 1) := by decide +kernel
theorem dX5_leftmost_17 : decode cX5_leftmost 17 = .ok (.iaload, 1) := by decide +kernel
theorem dX5_leftmost_18 : decode cX5_leftmost 18 = .ok (.istore_n 2, 1) := by decide +kernel
theorem dX5_leftmost_19 : decode cX5_leftmost 19 = .ok (.goto (-17), 3) := by decide +kernel
theorem dX5_leftmost_22 : decode cX5_leftmost 22 = .ok (.iload_n 2, 1) := by decide +kernel
theorem dX5_leftmost_23 : decode cX5_leftmost 23 = .ok (.ireturn, 1) := by decide +kernel
theorem dX5_rightmost_0 : decode cX5_rightmost 0 = .ok (.iload_n 1, 1) := by decide +kernel
theorem dX5_rightmost_1 : decode cX5_rightmost 1 = .ok (.istore_n 2, 1) := by decide +kernel
theorem dX5_rightmost_2 : decode cX5_rightmost 2 = .ok (.aload_n 0, 1) := by decide +kernel
theorem dX5_rightmost_3 : decode cX5_rightmost 3 = .ok (.getfield 23, 3) := by decide +kernel
theorem dX5_rightmost_6 : decode cX5_rightmost 6 = .ok (.iload_n 2, 1) := by decide +kernel
theorem dX5_rightmost_7 : decode cX5_rightmost 7 = .ok (.iaload, 1) := by decide +kernel
theorem dX5_rightmost_8 : decode cX5_rightmost 8 = .ok (.iconst (-1), 1) := by decide +kernel
theorem dX5_rightmost_9 : decode cX5_rightmost 9 = .ok (.if_icmp .eq 13, 3) := by decide +kernel
theorem dX5_rightmost_12 : decode cX5_rightmost 12 = .ok (.aload_n 0, 1) := by decide +kernel
theorem dX5_rightmost_13 : decode cX5_rightmost 13 = .ok (.getfield 23, 3) := by decide +kernel
theorem dX5_rightmost_16 : decode cX5_rightmost 16 = .ok (.iload_n 2, 1) := by decide +kernel
theorem dX5_rightmost_17 : decode cX5_rightmost 17 = .ok (.iaload, 1) := by decide +kernel
theorem dX5_rightmost_18 : decode cX5_rightmost 18 = .ok (.istore_n 2, 1) := by decide +kernel
theorem dX5_rightmost_19 : decode cX5_rightmost 19 = .ok (.goto (-17), 3) := by decide +kernel
theorem dX5_rightmost_22 : decode cX5_rightmost 22 = .ok (.iload_n 2, 1) := by decide +kernel
theorem dX5_rightmost_23 : decode cX5_rightmost 23 = .ok (.ireturn, 1) := by decide +kernel
theorem dX5_following_0 : decode cX5_following 0 = .ok (.aload_n 0, 1) := by decide +kernel
theorem dX5_following_1 : decode cX5_following 1 = .ok (.getfield 23, 3) := by decide +kernel
theorem dX5_following_4 : decode cX5_following 4 = .ok (.iload_n 1, 1) := by decide +kernel
theorem dX5_following_5 : decode cX5_following 5 = .ok (.iaload, 1) := by decide +kernel
theorem dX5_following_6 : decode cX5_following 6 = .ok (.iconst (-1), 1) := by decide +kernel
theorem dX5_following_7 : decode cX5_following 7 = .ok (.if_icmp .eq 14, 3) := by decide +kernel
theorem dX5_following_10 : decode cX5_following 10 = .ok (.aload_n 0, 1) := by decide +kernel
theorem dX5_following_11 : decode cX5_following 11 = .ok (.aload_n 0, 1) := by decide +kernel
theorem dX5_following_12 : decode cX5_following 12 = .ok (.getfield 23, 3) := by decide +kernel
theorem dX5_following_15 : decode cX5_following 15 = .ok (.iload_n 1, 1) := by decide +kernel
theorem dX5_following_16 : decode cX5_following 16 = .ok (.iaload, 1) := by decide +kernel
theorem dX5_following_17 : decode cX5_following 17 = .ok (.invokevirtual 42, 3) := by decide +kernel
theorem dX5_following_20 : decode cX5_following 20 = .ok (.ireturn, 1) := by decide +kernel
theorem dX5_following_21 : decode cX5_following 21 = .ok (.iload_n 1, 1) := by decide +kernel
theorem dX5_following_22 : decode cX5_following 22 = .ok (.istore_n 2, 1) := by decide +kernel
theorem dX5_following_23 : decode cX5_following 23 = .ok (.aload_n 0, 1) := by decide +kernel
theorem dX5_following_24 : decode cX5_following 24 = .ok (.getfield 26, 3) := by decide +kernel
theorem dX5_following_27 : decode cX5_following 27 = .ok (.iload_n 2, 1) := by decide +kernel
theorem dX5_following_28 : decode cX5_following 28 = .ok (.iaload, 1) := by decide +kernel
theorem dX5_following_29 : decode cX5_following 29 = .ok (.iconst (-1), 1) := by decide +kernel
theorem dX5_following_30 : decode cX5_following 30 = .ok (.if_icmp .eq 28, 3) := by decide +kernel
theorem dX5_following_33 : decode cX5_following 33 = .ok (.aload_n 0, 1) := by decide +kernel
theorem dX5_following_34 : decode cX5_following 34 = .ok (.getfield 23, 3) := by decide +kernel
theorem dX5_following_37 : decode cX5_following 37 = .ok (.aload_n 0, 1) := by decide +kernel
theorem dX5_following_38 : decode cX5_following 38 = .ok (.getfield 26, 3) := by decide +kernel
theorem dX5_following_41 : decode cX5_following 41 = .ok (.iload_n 2, 1) := by decide +kernel
theorem dX5_following_42 : decode cX5_following 42 = .ok (.iaload, 1) := by decide +kernel
theorem dX5_following_43 : decode cX5_following 43 = .ok (.iaload, 1) := by decide +kernel
theorem dX5_following_44 : decode cX5_following 44 = .ok (.iload_n 2, 1) := by decide +kernel
theorem dX5_following_45 : decode cX5_following 45 = .ok (.if_icmp .ne 13, 3) := by decide +kernel
theorem dX5_following_48 : decode cX5_following 48 = .ok (.aload_n 0, 1) := by decide +kernel
theorem dX5_following_49 : decode cX5_following 49 = .ok (.getfield 26, 3) := by decide +kernel
theorem dX5_following_52 : decode cX5_following 52 = .ok (.iload_n 2, 1) := by decide +kernel
theorem dX5_following_53 : decode cX5_following 53 = .ok (.iaload, 1) := by decide +kernel
theorem dX5_following_54 : decode cX5_following 54 = .ok (.istore_n 2, 1) := by decide +kernel
theorem dX5_following_55 : decode cX5_following 55 = .ok (.goto (-32), 3) := by decide +kernel
theorem dX5_following_58 : decode cX5_following 58 = .ok (.aload_n 0, 1) := by decide +kernel
theorem dX5_following_59 : decode cX5_following 59 = .ok (.getfield 26, 3) := by decide +kernel
theorem dX5_following_62 : decode cX5_following 62 = .ok (.iload_n 2, 1) := by decide +kernel
theorem dX5_following_63 : decode cX5_following 63 = .ok (.iaload, 1) := by decide +kernel
theorem dX5_following_64 : decode cX5_following 64 = .ok (.ireturn, 1) := by decide +kernel
theorem dX5_layOrder_0 : decode cX5_layOrder 0 = .ok (.aload_n 0, 1) := by decide +kernel
theorem dX5_layOrder_1 : decode cX5_layOrder 1 = .ok (.iconst 0, 1) := by decide +kernel
theorem dX5_layOrder_2 : decode cX5_layOrder 2 = .ok (.putfield 46, 3) := by decide +kernel
theorem dX5_layOrder_5 : decode cX5_layOrder 5 = .ok (.iload_n 1, 1) := by decide +kernel
theorem dX5_layOrder_6 : decode cX5_layOrder 6 = .ok (.iconst (-1), 1) := by decide +kernel
theorem dX5_layOrder_7 : decode cX5_layOrder 7 = .ok (.if_icmp .ne 7, 3) := by decide +kernel
theorem dX5_layOrder_10 : decode cX5_layOrder 10 = .ok (.iconst (-1), 1) := by decide +kernel
theorem dX5_layOrder_11 : decode cX5_layOrder 11 = .ok (.goto 8, 3) := by decide +kernel
theorem dX5_layOrder_14 : decode cX5_layOrder 14 = .ok (.aload_n 0, 1) := by decide +kernel
theorem dX5_layOrder_15 : decode cX5_layOrder 15 = .ok (.iload_n 1, 1) := by decide +kernel
theorem dX5_layOrder_16 : decode cX5_layOrder 16 = .ok (.invokevirtual 42, 3) := by decide +kernel
theorem dX5_layOrder_19 : decode cX5_layOrder 19 = .ok (.istore_n 2, 1) := by decide +kernel
theorem dX5_layOrder_20 : decode cX5_layOrder 20 = .ok (.iload_n 2, 1) := by decide +kernel
theorem dX5_layOrder_21 : decode cX5_layOrder 21 = .ok (.iconst (-1), 1) := by decide +kernel
theorem dX5_layOrder_22 : decode cX5_layOrder 22 = .ok (.if_icmp .eq 32, 3) := by decide +kernel
theorem dX5_layOrder_25 : decode cX5_layOrder 25 = .ok (.aload_n 0, 1) := by decide +kernel
theorem dX5_layOrder_26 : decode cX5_layOrder 26 = .ok (.getfield 36, 3) := by decide +kernel
theorem dX5_layOrder_29 : decode cX5_layOrder 29 = .ok (.aload_n 0, 1) := by decide +kernel
theorem dX5_layOrder_30 : decode cX5_layOrder 30 = .ok (.getfield 46, 3) := by decide +kernel
theorem dX5_layOrder_33 : decode cX5_layOrder 33 = .ok (.iload_n 2, 1) := by decide +kernel
theorem dX5_layOrder_34 : decode cX5_layOrder 34 = .ok (.iastore, 1) := by decide +kernel
theorem dX5_layOrder_35 : decode cX5_layOrder 35 = .ok (.aload_n 0, 1) := by decide +kernel
theorem dX5_layOrder_36 : decode cX5_layOrder 36 = .ok (.dup, 1) := by decide +kernel
theorem dX5_layOrder_37 : decode cX5_layOrder 37 = .ok (.getfield 46, 3) := by decide +kernel
theorem dX5_layOrder_40 : decode cX5_layOrder 40 = .ok (.iconst 1, 1) := by decide +kernel
theorem dX5_layOrder_41 : decode cX5_layOrder 41 = .ok (.iadd, 1) := by decide +kernel
theorem dX5_layOrder_42 : decode cX5_layOrder 42 = .ok (.putfield 46, 3) := by decide +kernel
theorem dX5_layOrder_45 : decode cX5_layOrder 45 = .ok (.aload_n 0, 1) := by decide +kernel
theorem dX5_layOrder_46 : decode cX5_layOrder 46 = .ok (.iload_n 2, 1) := by decide +kernel
theorem dX5_layOrder_47 : decode cX5_layOrder 47 = .ok (.invokevirtual 49, 3) := by decide +kernel
theorem dX5_layOrder_50 : decode cX5_layOrder 50 = .ok (.istore_n 2, 1) := by decide +kernel
theorem dX5_layOrder_51 : decode cX5_layOrder 51 = .ok (.goto (-31), 3) := by decide +kernel
theorem dX5_layOrder_54 : decode cX5_layOrder 54 = .ok (.return_, 1) := by decide +kernel
theorem dX5_sizeOf_0 : decode cX5_sizeOf 0 = .ok (.aload_n 0, 1) := by decide +kernel
theorem dX5_sizeOf_1 : decode cX5_sizeOf 1 = .ok (.iload_n 1, 1) := by decide +kernel
theorem dX5_sizeOf_2 : decode cX5_sizeOf 2 = .ok (.invokevirtual 52, 3) := by decide +kernel
theorem dX5_sizeOf_5 : decode cX5_sizeOf 5 = .ok (.aload_n 0, 1) := by decide +kernel
theorem dX5_sizeOf_6 : decode cX5_sizeOf 6 = .ok (.getfield 46, 3) := by decide +kernel
theorem dX5_sizeOf_9 : decode cX5_sizeOf 9 = .ok (.ireturn, 1) := by decide +kernel
theorem dX5_nodeAt_0 : decode cX5_nodeAt 0 = .ok (.aload_n 0, 1) := by decide +kernel
theorem dX5_nodeAt_1 : decode cX5_nodeAt 1 = .ok (.iload_n 1, 1) := by decide +kernel
theorem dX5_nodeAt_2 : decode cX5_nodeAt 2 = .ok (.invokevirtual 52, 3) := by decide +kernel
theorem dX5_nodeAt_5 : decode cX5_nodeAt 5 = .ok (.aload_n 0, 1) := by decide +kernel
theorem dX5_nodeAt_6 : decode cX5_nodeAt 6 = .ok (.getfield 36, 3) := by decide +kernel
theorem dX5_nodeAt_9 : decode cX5_nodeAt 9 = .ok (.iload_n 2, 1) := by decide +kernel
theorem dX5_nodeAt_10 : decode cX5_nodeAt 10 = .ok (.iaload, 1) := by decide +kernel
theorem dX5_nodeAt_11 : decode cX5_nodeAt 11 = .ok (.ireturn, 1) := by decide +kernel
theorem dX5_rootOf_0 : decode cX5_rootOf 0 = .ok (.iload_n 1, 1) := by decide +kernel
theorem dX5_rootOf_1 : decode cX5_rootOf 1 = .ok (.istore_n 2, 1) := by decide +kernel
theorem dX5_rootOf_2 : decode cX5_rootOf 2 = .ok (.aload_n 0, 1) := by decide +kernel
theorem dX5_rootOf_3 : decode cX5_rootOf 3 = .ok (.getfield 26, 3) := by decide +kernel
theorem dX5_rootOf_6 : decode cX5_rootOf 6 = .ok (.iload_n 2, 1) := by decide +kernel
theorem dX5_rootOf_7 : decode cX5_rootOf 7 = .ok (.iaload, 1) := by decide +kernel
theorem dX5_rootOf_8 : decode cX5_rootOf 8 = .ok (.iconst (-1), 1) := by decide +kernel
theorem dX5_rootOf_9 : decode cX5_rootOf 9 = .ok (.if_icmp .eq 13, 3) := by decide +kernel
theorem dX5_rootOf_12 : decode cX5_rootOf 12 = .ok (.aload_n 0, 1) := by decide +kernel
theorem dX5_rootOf_13 : decode cX5_rootOf 13 = .ok (.getfield 26, 3) := by decide +kernel
theorem dX5_rootOf_16 : decode cX5_rootOf 16 = .ok (.iload_n 2, 1) := by decide +kernel
theorem dX5_rootOf_17 : decode cX5_rootOf 17 = .ok (.iaload, 1) := by decide +kernel
theorem dX5_rootOf_18 : decode cX5_rootOf 18 = .ok (.istore_n 2, 1) := by decide +kernel
theorem dX5_rootOf_19 : decode cX5_rootOf 19 = .ok (.goto (-17), 3) := by decide +kernel
theorem dX5_rootOf_22 : decode cX5_rootOf 22 = .ok (.iload_n 2, 1) := by decide +kernel
theorem dX5_rootOf_23 : decode cX5_rootOf 23 = .ok (.ireturn, 1) := by decide +kernel
theorem dX5_placeOf_0 : decode cX5_placeOf 0 = .ok (.aload_n 0, 1) := by decide +kernel
theorem dX5_placeOf_1 : decode cX5_placeOf 1 = .ok (.aload_n 0, 1) := by decide +kernel
theorem dX5_placeOf_2 : decode cX5_placeOf 2 = .ok (.iload_n 1, 1) := by decide +kernel
theorem dX5_placeOf_3 : decode cX5_placeOf 3 = .ok (.invokevirtual 56, 3) := by decide +kernel
theorem dX5_placeOf_6 : decode cX5_placeOf 6 = .ok (.invokevirtual 52, 3) := by decide +kernel
theorem dX5_placeOf_9 : decode cX5_placeOf 9 = .ok (.iconst 0, 1) := by decide +kernel
theorem dX5_placeOf_10 : decode cX5_placeOf 10 = .ok (.istore_n 2, 1) := by decide +kernel
theorem dX5_placeOf_11 : decode cX5_placeOf 11 = .ok (.aload_n 0, 1) := by decide +kernel
theorem dX5_placeOf_12 : decode cX5_placeOf 12 = .ok (.getfield 36, 3) := by decide +kernel
theorem dX5_placeOf_15 : decode cX5_placeOf 15 = .ok (.iload_n 2, 1) := by decide +kernel
theorem dX5_placeOf_16 : decode cX5_placeOf 16 = .ok (.iaload, 1) := by decide +kernel
theorem dX5_placeOf_17 : decode cX5_placeOf 17 = .ok (.iload_n 1, 1) := by decide +kernel
theorem dX5_placeOf_18 : decode cX5_placeOf 18 = .ok (.if_icmp .eq 9, 3) := by decide +kernel
theorem dX5_placeOf_21 : decode cX5_placeOf 21 = .ok (.iinc 2 1, 3) := by decide +kernel
theorem dX5_placeOf_24 : decode cX5_placeOf 24 = .ok (.goto (-13), 3) := by decide +kernel
theorem dX5_placeOf_27 : decode cX5_placeOf 27 = .ok (.iload_n 2, 1) := by decide +kernel
theorem dX5_placeOf_28 : decode cX5_placeOf 28 = .ok (.ireturn, 1) := by decide +kernel
theorem dX5_depthOf_0 : decode cX5_depthOf 0 = .ok (.iconst 0, 1) := by decide +kernel
theorem dX5_depthOf_1 : decode cX5_depthOf 1 = .ok (.istore_n 2, 1) := by decide +kernel
theorem dX5_depthOf_2 : decode cX5_depthOf 2 = .ok (.aload_n 0, 1) := by decide +kernel
theorem dX5_depthOf_3 : decode cX5_depthOf 3 = .ok (.getfield 26, 3) := by decide +kernel
theorem dX5_depthOf_6 : decode cX5_depthOf 6 = .ok (.iload_n 1, 1) := by decide +kernel
theorem dX5_depthOf_7 : decode cX5_depthOf 7 = .ok (.iaload, 1) := by decide +kernel
theorem dX5_depthOf_8 : decode cX5_depthOf 8 = .ok (.istore_n 3, 1) := by decide +kernel
theorem dX5_depthOf_9 : decode cX5_depthOf 9 = .ok (.iload_n 3, 1) := by decide +kernel
theorem dX5_depthOf_10 : decode cX5_depthOf 10 = .ok (.iconst (-1), 1) := by decide +kernel
theorem dX5_depthOf_11 : decode cX5_depthOf 11 = .ok (.if_icmp .eq 16, 3) := by decide +kernel
theorem dX5_depthOf_14 : decode cX5_depthOf 14 = .ok (.iinc 2 1, 3) := by decide +kernel
theorem dX5_depthOf_17 : decode cX5_depthOf 17 = .ok (.aload_n 0, 1) := by decide +kernel
theorem dX5_depthOf_18 : decode cX5_depthOf 18 = .ok (.getfield 26, 3) := by decide +kernel
theorem dX5_depthOf_21 : decode cX5_depthOf 21 = .ok (.iload_n 3, 1) := by decide +kernel
theorem dX5_depthOf_22 : decode cX5_depthOf 22 = .ok (.iaload, 1) := by decide +kernel
theorem dX5_depthOf_23 : decode cX5_depthOf 23 = .ok (.istore_n 3, 1) := by decide +kernel
theorem dX5_depthOf_24 : decode cX5_depthOf 24 = .ok (.goto (-15), 3) := by decide +kernel
theorem dX5_depthOf_27 : decode cX5_depthOf 27 = .ok (.iload_n 2, 1) := by decide +kernel
theorem dX5_depthOf_28 : decode cX5_depthOf 28 = .ok (.ireturn, 1) := by decide +kernel
theorem dX5_below_0 : decode cX5_below 0 = .ok (.iconst 0, 1) := by decide +kernel
theorem dX5_below_1 : decode cX5_below 1 = .ok (.istore_n 2, 1) := by decide +kernel
theorem dX5_below_2 : decode cX5_below 2 = .ok (.iconst 0, 1) := by decide +kernel
theorem dX5_below_3 : decode cX5_below 3 = .ok (.istore_n 3, 1) := by decide +kernel
theorem dX5_below_4 : decode cX5_below 4 = .ok (.iload_n 3, 1) := by decide +kernel
theorem dX5_below_5 : decode cX5_below 5 = .ok (.bipush 60, 2) := by decide +kernel
theorem dX5_below_7 : decode cX5_below 7 = .ok (.if_icmp .ge 63, 3) := by decide +kernel
theorem dX5_below_10 : decode cX5_below 10 = .ok (.aload_n 0, 1) := by decide +kernel
theorem dX5_below_11 : decode cX5_below 11 = .ok (.getfield 29, 3) := by decide +kernel
theorem dX5_below_14 : decode cX5_below 14 = .ok (.iload_n 3, 1) := by decide +kernel
theorem dX5_below_15 : decode cX5_below 15 = .ok (.baload, 1) := by decide +kernel
theorem dX5_below_16 : decode cX5_below 16 = .ok (.ifCond .eq 7, 3) := by decide +kernel
theorem dX5_below_19 : decode cX5_below 19 = .ok (.iload_n 3, 1) := by decide +kernel
theorem dX5_below_20 : decode cX5_below 20 = .ok (.goto 4, 3) := by decide +kernel
theorem dX5_below_23 : decode cX5_below 23 = .ok (.iconst (-1), 1) := by decide +kernel
theorem dX5_below_24 : decode cX5_below 24 = .ok (.istore 4, 2) := by decide +kernel
theorem dX5_below_26 : decode cX5_below 26 = .ok (.iload 4, 2) := by decide +kernel
theorem dX5_below_28 : decode cX5_below 28 = .ok (.iconst (-1), 1) := by decide +kernel
theorem dX5_below_29 : decode cX5_below 29 = .ok (.if_icmp .eq 21, 3) := by decide +kernel
theorem dX5_below_32 : decode cX5_below 32 = .ok (.iload 4, 2) := by decide +kernel
theorem dX5_below_34 : decode cX5_below 34 = .ok (.iload_n 1, 1) := by decide +kernel
theorem dX5_below_35 : decode cX5_below 35 = .ok (.if_icmp .eq 15, 3) := by decide +kernel
theorem dX5_below_38 : decode cX5_below 38 = .ok (.aload_n 0, 1) := by decide +kernel
theorem dX5_below_39 : decode cX5_below 39 = .ok (.getfield 26, 3) := by decide +kernel
theorem dX5_below_42 : decode cX5_below 42 = .ok (.iload 4, 2) := by decide +kernel
theorem dX5_below_44 : decode cX5_below 44 = .ok (.iaload, 1) := by decide +kernel
theorem dX5_below_45 : decode cX5_below 45 = .ok (.istore 4, 2) := by decide +kernel
theorem dX5_below_47 : decode cX5_below 47 = .ok (.goto (-21), 3) := by decide +kernel
theorem dX5_below_50 : decode cX5_below 50 = .ok (.iload_n 2, 1) := by decide +kernel
theorem dX5_below_51 : decode cX5_below 51 = .ok (.iload 4, 2) := by decide +kernel
theorem dX5_below_53 : decode cX5_below 53 = .ok (.iload_n 1, 1) := by decide +kernel
theorem dX5_below_54 : decode cX5_below 54 = .ok (.if_icmp .ne 7, 3) := by decide +kernel
theorem dX5_below_57 : decode cX5_below 57 = .ok (.iconst 1, 1) := by decide +kernel
theorem dX5_below_58 : decode cX5_below 58 = .ok (.goto 4, 3) := by decide +kernel
theorem dX5_below_61 : decode cX5_below 61 = .ok (.iconst 0, 1) := by decide +kernel
theorem dX5_below_62 : decode cX5_below 62 = .ok (.iadd, 1) := by decide +kernel
theorem dX5_below_63 : decode cX5_below 63 = .ok (.istore_n 2, 1) := by decide +kernel
theorem dX5_below_64 : decode cX5_below 64 = .ok (.iinc 3 1, 3) := by decide +kernel
theorem dX5_below_67 : decode cX5_below 67 = .ok (.goto (-63), 3) := by decide +kernel
theorem dX5_below_70 : decode cX5_below 70 = .ok (.iload_n 2, 1) := by decide +kernel
theorem dX5_below_71 : decode cX5_below 71 = .ok (.ireturn, 1) := by decide +kernel
theorem dX5_hang_0 : decode cX5_hang 0 = .ok (.iload_n 1, 1) := by decide +kernel
theorem dX5_hang_1 : decode cX5_hang 1 = .ok (.iconst (-1), 1) := by decide +kernel
theorem dX5_hang_2 : decode cX5_hang 2 = .ok (.if_icmp .eq 10, 3) := by decide +kernel
theorem dX5_hang_5 : decode cX5_hang 5 = .ok (.aload_n 0, 1) := by decide +kernel
theorem dX5_hang_6 : decode cX5_hang 6 = .ok (.getfield 26, 3) := by decide +kernel
theorem dX5_hang_9 : decode cX5_hang 9 = .ok (.iload_n 1, 1) := by decide +kernel
theorem dX5_hang_10 : decode cX5_hang 10 = .ok (.iload_n 2, 1) := by decide +kernel
theorem dX5_hang_11 : decode cX5_hang 11 = .ok (.iastore, 1) := by decide +kernel
theorem dX5_hang_12 : decode cX5_hang 12 = .ok (.iload_n 2, 1) := by decide +kernel
theorem dX5_hang_13 : decode cX5_hang 13 = .ok (.iconst (-1), 1) := by decide +kernel
theorem dX5_hang_14 : decode cX5_hang 14 = .ok (.if_icmp .eq 14, 3) := by decide +kernel
theorem dX5_hang_17 : decode cX5_hang 17 = .ok (.iload_n 3, 1) := by decide +kernel
theorem dX5_hang_18 : decode cX5_hang 18 = .ok (.ifCond .eq 10, 3) := by decide +kernel
theorem dX5_hang_21 : decode cX5_hang 21 = .ok (.aload_n 0, 1) := by decide +kernel
theorem dX5_hang_22 : decode cX5_hang 22 = .ok (.getfield 23, 3) := by decide +kernel
theorem dX5_hang_25 : decode cX5_hang 25 = .ok (.iload_n 2, 1) := by decide +kernel
theorem dX5_hang_26 : decode cX5_hang 26 = .ok (.iload_n 1, 1) := by decide +kernel
theorem dX5_hang_27 : decode cX5_hang 27 = .ok (.iastore, 1) := by decide +kernel
theorem dX5_hang_28 : decode cX5_hang 28 = .ok (.iload_n 2, 1) := by decide +kernel
theorem dX5_hang_29 : decode cX5_hang 29 = .ok (.iconst (-1), 1) := by decide +kernel
theorem dX5_hang_30 : decode cX5_hang 30 = .ok (.if_icmp .eq 14, 3) := by decide +kernel
theorem dX5_hang_33 : decode cX5_hang 33 = .ok (.iload_n 3, 1) := by decide +kernel
theorem dX5_hang_34 : decode cX5_hang 34 = .ok (.ifCond .ne 10, 3) := by decide +kernel
theorem dX5_hang_37 : decode cX5_hang 37 = .ok (.aload_n 0, 1) := by decide +kernel
theorem dX5_hang_38 : decode cX5_hang 38 = .ok (.getfield 20, 3) := by decide +kernel
theorem dX5_hang_41 : decode cX5_hang 41 = .ok (.iload_n 2, 1) := by decide +kernel
theorem dX5_hang_42 : decode cX5_hang 42 = .ok (.iload_n 1, 1) := by decide +kernel
theorem dX5_hang_43 : decode cX5_hang 43 = .ok (.iastore, 1) := by decide +kernel
theorem dX5_hang_44 : decode cX5_hang 44 = .ok (.return_, 1) := by decide +kernel
theorem dX5_rotate_0 : decode cX5_rotate 0 = .ok (.aload_n 0, 1) := by decide +kernel
theorem dX5_rotate_1 : decode cX5_rotate 1 = .ok (.getfield 26, 3) := by decide +kernel
theorem dX5_rotate_4 : decode cX5_rotate 4 = .ok (.iload_n 1, 1) := by decide +kernel
theorem dX5_rotate_5 : decode cX5_rotate 5 = .ok (.iaload, 1) := by decide +kernel
theorem dX5_rotate_6 : decode cX5_rotate 6 = .ok (.istore_n 2, 1) := by decide +kernel
theorem dX5_rotate_7 : decode cX5_rotate 7 = .ok (.aload_n 0, 1) := by decide +kernel
theorem dX5_rotate_8 : decode cX5_rotate 8 = .ok (.getfield 26, 3) := by decide +kernel
theorem dX5_rotate_11 : decode cX5_rotate 11 = .ok (.iload_n 2, 1) := by decide +kernel
theorem dX5_rotate_12 : decode cX5_rotate 12 = .ok (.iaload, 1) := by decide +kernel
theorem dX5_rotate_13 : decode cX5_rotate 13 = .ok (.istore_n 3, 1) := by decide +kernel
theorem dX5_rotate_14 : decode cX5_rotate 14 = .ok (.iload_n 3, 1) := by decide +kernel
theorem dX5_rotate_15 : decode cX5_rotate 15 = .ok (.iconst (-1), 1) := by decide +kernel
theorem dX5_rotate_16 : decode cX5_rotate 16 = .ok (.if_icmp .eq 17, 3) := by decide +kernel
theorem dX5_rotate_19 : decode cX5_rotate 19 = .ok (.aload_n 0, 1) := by decide +kernel
theorem dX5_rotate_20 : decode cX5_rotate 20 = .ok (.getfield 23, 3) := by decide +kernel
theorem dX5_rotate_23 : decode cX5_rotate 23 = .ok (.iload_n 3, 1) := by decide +kernel
theorem dX5_rotate_24 : decode cX5_rotate 24 = .ok (.iaload, 1) := by decide +kernel
theorem dX5_rotate_25 : decode cX5_rotate 25 = .ok (.iload_n 2, 1) := by decide +kernel
theorem dX5_rotate_26 : decode cX5_rotate 26 = .ok (.if_icmp .ne 7, 3) := by decide +kernel
theorem dX5_rotate_29 : decode cX5_rotate 29 = .ok (.iconst 1, 1) := by decide +kernel
theorem dX5_rotate_30 : decode cX5_rotate 30 = .ok (.goto 4, 3) := by decide +kernel
theorem dX5_rotate_33 : decode cX5_rotate 33 = .ok (.iconst 0, 1) := by decide +kernel
theorem dX5_rotate_34 : decode cX5_rotate 34 = .ok (.istore 4, 2) := by decide +kernel
theorem dX5_rotate_36 : decode cX5_rotate 36 = .ok (.aload_n 0, 1) := by decide +kernel
theorem dX5_rotate_37 : decode cX5_rotate 37 = .ok (.getfield 20, 3) := by decide +kernel
theorem dX5_rotate_40 : decode cX5_rotate 40 = .ok (.iload_n 2, 1) := by decide +kernel
theorem dX5_rotate_41 : decode cX5_rotate 41 = .ok (.iaload, 1) := by decide +kernel
theorem dX5_rotate_42 : decode cX5_rotate 42 = .ok (.iload_n 1, 1) := by decide +kernel
theorem dX5_rotate_43 : decode cX5_rotate 43 = .ok (.if_icmp .ne 25, 3) := by decide +kernel
theorem dX5_rotate_46 : decode cX5_rotate 46 = .ok (.aload_n 0, 1) := by decide +kernel
theorem dX5_rotate_47 : decode cX5_rotate 47 = .ok (.aload_n 0, 1) := by decide +kernel
theorem dX5_rotate_48 : decode cX5_rotate 48 = .ok (.getfield 23, 3) := by decide +kernel
theorem dX5_rotate_51 : decode cX5_rotate 51 = .ok (.iload_n 1, 1) := by decide +kernel
theorem dX5_rotate_52 : decode cX5_rotate 52 = .ok (.iaload, 1) := by decide +kernel
theorem dX5_rotate_53 : decode cX5_rotate 53 = .ok (.iload_n 2, 1) := by decide +kernel
theorem dX5_rotate_54 : decode cX5_rotate 54 = .ok (.iconst 0, 1) := by decide +kernel
theorem dX5_rotate_55 : decode cX5_rotate 55 = .ok (.invokevirtual 59, 3) := by decide +kernel
theorem dX5_rotate_58 : decode cX5_rotate 58 = .ok (.aload_n 0, 1) := by decide +kernel
theorem dX5_rotate_59 : decode cX5_rotate 59 = .ok (.iload_n 2, 1) := by decide +kernel
theorem dX5_rotate_60 : decode cX5_rotate 60 = .ok (.iload_n 1, 1) := by decide +kernel
theorem dX5_rotate_61 : decode cX5_rotate 61 = .ok (.iconst 1, 1) := by decide +kernel
theorem dX5_rotate_62 : decode cX5_rotate 62 = .ok (.invokevirtual 59, 3) := by decide +kernel
theorem dX5_rotate_65 : decode cX5_rotate 65 = .ok (.goto 22, 3) := by decide +kernel
theorem dX5_rotate_68 : decode cX5_rotate 68 = .ok (.aload_n 0, 1) := by decide +kernel
theorem dX5_rotate_69 : decode cX5_rotate 69 = .ok (.aload_n 0, 1) := by decide +kernel
theorem dX5_rotate_70 : decode cX5_rotate 70 = .ok (.getfield 20, 3) := by decide +kernel
theorem dX5_rotate_73 : decode cX5_rotate 73 = .ok (.iload_n 1, 1) := by decide +kernel
theorem dX5_rotate_74 : decode cX5_rotate 74 = .ok (.iaload, 1) := by decide +kernel
theorem dX5_rotate_75 : decode cX5_rotate 75 = .ok (.iload_n 2, 1) := by decide +kernel
theorem dX5_rotate_76 : decode cX5_rotate 76 = .ok (.iconst 1, 1) := by decide +kernel
theorem dX5_rotate_77 : decode cX5_rotate 77 = .ok (.invokevirtual 59, 3) := by decide +kernel
theorem dX5_rotate_80 : decode cX5_rotate 80 = .ok (.aload_n 0, 1) := by decide +kernel
theorem dX5_rotate_81 : decode cX5_rotate 81 = .ok (.iload_n 2, 1) := by decide +kernel
theorem dX5_rotate_82 : decode cX5_rotate 82 = .ok (.iload_n 1, 1) := by decide +kernel
theorem dX5_rotate_83 : decode cX5_rotate 83 = .ok (.iconst 0, 1) := by decide +kernel
theorem dX5_rotate_84 : decode cX5_rotate 84 = .ok (.invokevirtual 59, 3) := by decide +kernel
theorem dX5_rotate_87 : decode cX5_rotate 87 = .ok (.aload_n 0, 1) := by decide +kernel
theorem dX5_rotate_88 : decode cX5_rotate 88 = .ok (.iload_n 1, 1) := by decide +kernel
theorem dX5_rotate_89 : decode cX5_rotate 89 = .ok (.iload_n 3, 1) := by decide +kernel
theorem dX5_rotate_90 : decode cX5_rotate 90 = .ok (.iload 4, 2) := by decide +kernel
theorem dX5_rotate_92 : decode cX5_rotate 92 = .ok (.invokevirtual 59, 3) := by decide +kernel
theorem dX5_rotate_95 : decode cX5_rotate 95 = .ok (.aload_n 0, 1) := by decide +kernel
theorem dX5_rotate_96 : decode cX5_rotate 96 = .ok (.dup, 1) := by decide +kernel
theorem dX5_rotate_97 : decode cX5_rotate 97 = .ok (.getfield 63, 3) := by decide +kernel
theorem dX5_rotate_100 : decode cX5_rotate 100 = .ok (.iconst 1, 1) := by decide +kernel
theorem dX5_rotate_101 : decode cX5_rotate 101 = .ok (.iadd, 1) := by decide +kernel
theorem dX5_rotate_102 : decode cX5_rotate 102 = .ok (.putfield 63, 3) := by decide +kernel
theorem dX5_rotate_105 : decode cX5_rotate 105 = .ok (.return_, 1) := by decide +kernel
theorem dX5_splay_0 : decode cX5_splay 0 = .ok (.aload_n 0, 1) := by decide +kernel
theorem dX5_splay_1 : decode cX5_splay 1 = .ok (.dup, 1) := by decide +kernel
theorem dX5_splay_2 : decode cX5_splay 2 = .ok (.getfield 66, 3) := by decide +kernel
theorem dX5_splay_5 : decode cX5_splay 5 = .ok (.iconst 1, 1) := by decide +kernel
theorem dX5_splay_6 : decode cX5_splay 6 = .ok (.iadd, 1) := by decide +kernel
theorem dX5_splay_7 : decode cX5_splay 7 = .ok (.putfield 66, 3) := by decide +kernel
theorem dX5_splay_10 : decode cX5_splay 10 = .ok (.aload_n 0, 1) := by decide +kernel
theorem dX5_splay_11 : decode cX5_splay 11 = .ok (.getfield 26, 3) := by decide +kernel
theorem dX5_splay_14 : decode cX5_splay 14 = .ok (.iload_n 1, 1) := by decide +kernel
theorem dX5_splay_15 : decode cX5_splay 15 = .ok (.iaload, 1) := by decide +kernel
theorem dX5_splay_16 : decode cX5_splay 16 = .ok (.iconst (-1), 1) := by decide +kernel
theorem dX5_splay_17 : decode cX5_splay 17 = .ok (.if_icmp .eq 104, 3) := by decide +kernel
theorem dX5_splay_20 : decode cX5_splay 20 = .ok (.aload_n 0, 1) := by decide +kernel
theorem dX5_splay_21 : decode cX5_splay 21 = .ok (.getfield 26, 3) := by decide +kernel
theorem dX5_splay_24 : decode cX5_splay 24 = .ok (.iload_n 1, 1) := by decide +kernel
theorem dX5_splay_25 : decode cX5_splay 25 = .ok (.iaload, 1) := by decide +kernel
theorem dX5_splay_26 : decode cX5_splay 26 = .ok (.istore_n 2, 1) := by decide +kernel
theorem dX5_splay_27 : decode cX5_splay 27 = .ok (.aload_n 0, 1) := by decide +kernel
theorem dX5_splay_28 : decode cX5_splay 28 = .ok (.getfield 26, 3) := by decide +kernel
theorem dX5_splay_31 : decode cX5_splay 31 = .ok (.iload_n 2, 1) := by decide +kernel
theorem dX5_splay_32 : decode cX5_splay 32 = .ok (.iaload, 1) := by decide +kernel
theorem dX5_splay_33 : decode cX5_splay 33 = .ok (.istore_n 3, 1) := by decide +kernel
theorem dX5_splay_34 : decode cX5_splay 34 = .ok (.iload_n 3, 1) := by decide +kernel
theorem dX5_splay_35 : decode cX5_splay 35 = .ok (.iconst (-1), 1) := by decide +kernel
theorem dX5_splay_36 : decode cX5_splay 36 = .ok (.if_icmp .eq 57, 3) := by decide +kernel
theorem dX5_splay_39 : decode cX5_splay 39 = .ok (.aload_n 0, 1) := by decide +kernel
theorem dX5_splay_40 : decode cX5_splay 40 = .ok (.getfield 20, 3) := by decide +kernel
theorem dX5_splay_43 : decode cX5_splay 43 = .ok (.iload_n 3, 1) := by decide +kernel
theorem dX5_splay_44 : decode cX5_splay 44 = .ok (.iaload, 1) := by decide +kernel
theorem dX5_splay_45 : decode cX5_splay 45 = .ok (.iload_n 2, 1) := by decide +kernel
theorem dX5_splay_46 : decode cX5_splay 46 = .ok (.if_icmp .ne 7, 3) := by decide +kernel
theorem dX5_splay_49 : decode cX5_splay 49 = .ok (.iconst 1, 1) := by decide +kernel
theorem dX5_splay_50 : decode cX5_splay 50 = .ok (.goto 4, 3) := by decide +kernel
theorem dX5_splay_53 : decode cX5_splay 53 = .ok (.iconst 0, 1) := by decide +kernel
theorem dX5_splay_54 : decode cX5_splay 54 = .ok (.aload_n 0, 1) := by decide +kernel
theorem dX5_splay_55 : decode cX5_splay 55 = .ok (.getfield 20, 3) := by decide +kernel
theorem dX5_splay_58 : decode cX5_splay 58 = .ok (.iload_n 2, 1) := by decide +kernel
theorem dX5_splay_59 : decode cX5_splay 59 = .ok (.iaload, 1) := by decide +kernel
theorem dX5_splay_60 : decode cX5_splay 60 = .ok (.iload_n 1, 1) := by decide +kernel
theorem dX5_splay_61 : decode cX5_splay 61 = .ok (.if_icmp .ne 7, 3) := by decide +kernel
theorem dX5_splay_64 : decode cX5_splay 64 = .ok (.iconst 1, 1) := by decide +kernel
theorem dX5_splay_65 : decode cX5_splay 65 = .ok (.goto 4, 3) := by decide +kernel
theorem dX5_splay_68 : decode cX5_splay 68 = .ok (.iconst 0, 1) := by decide +kernel
theorem dX5_splay_69 : decode cX5_splay 69 = .ok (.if_icmp .ne 7, 3) := by decide +kernel
theorem dX5_splay_72 : decode cX5_splay 72 = .ok (.iconst 1, 1) := by decide +kernel
theorem dX5_splay_73 : decode cX5_splay 73 = .ok (.goto 4, 3) := by decide +kernel
theorem dX5_splay_76 : decode cX5_splay 76 = .ok (.iconst 0, 1) := by decide +kernel
theorem dX5_splay_77 : decode cX5_splay 77 = .ok (.istore 4, 2) := by decide +kernel
theorem dX5_splay_79 : decode cX5_splay 79 = .ok (.aload_n 0, 1) := by decide +kernel
theorem dX5_splay_80 : decode cX5_splay 80 = .ok (.iload 4, 2) := by decide +kernel
theorem dX5_splay_82 : decode cX5_splay 82 = .ok (.ifCond .eq 7, 3) := by decide +kernel
theorem dX5_splay_85 : decode cX5_splay 85 = .ok (.iload_n 2, 1) := by decide +kernel
theorem dX5_splay_86 : decode cX5_splay 86 = .ok (.goto 4, 3) := by decide +kernel
theorem dX5_splay_89 : decode cX5_splay 89 = .ok (.iload_n 1, 1) := by decide +kernel
theorem dX5_splay_90 : decode cX5_splay 90 = .ok (.invokevirtual 69, 3) := by decide +kernel
theorem dX5_splay_93 : decode cX5_splay 93 = .ok (.aload_n 0, 1) := by decide +kernel
theorem dX5_splay_94 : decode cX5_splay 94 = .ok (.iload_n 1, 1) := by decide +kernel
theorem dX5_splay_95 : decode cX5_splay 95 = .ok (.invokevirtual 69, 3) := by decide +kernel
theorem dX5_splay_98 : decode cX5_splay 98 = .ok (.aload_n 0, 1) := by decide +kernel
theorem dX5_splay_99 : decode cX5_splay 99 = .ok (.dup, 1) := by decide +kernel
theorem dX5_splay_100 : decode cX5_splay 100 = .ok (.getfield 72, 3) := by decide +kernel
theorem dX5_splay_103 : decode cX5_splay 103 = .ok (.iconst 1, 1) := by decide +kernel
theorem dX5_splay_104 : decode cX5_splay 104 = .ok (.iadd, 1) := by decide +kernel
theorem dX5_splay_105 : decode cX5_splay 105 = .ok (.putfield 72, 3) := by decide +kernel
theorem dX5_splay_108 : decode cX5_splay 108 = .ok (.aload_n 0, 1) := by decide +kernel
theorem dX5_splay_109 : decode cX5_splay 109 = .ok (.dup, 1) := by decide +kernel
theorem dX5_splay_110 : decode cX5_splay 110 = .ok (.getfield 75, 3) := by decide +kernel
theorem dX5_splay_113 : decode cX5_splay 113 = .ok (.iconst 1, 1) := by decide +kernel
theorem dX5_splay_114 : decode cX5_splay 114 = .ok (.iadd, 1) := by decide +kernel
theorem dX5_splay_115 : decode cX5_splay 115 = .ok (.putfield 75, 3) := by decide +kernel
theorem dX5_splay_118 : decode cX5_splay 118 = .ok (.goto (-108), 3) := by decide +kernel
theorem dX5_splay_121 : decode cX5_splay 121 = .ok (.return_, 1) := by decide +kernel
theorem dX5_begins_0 : decode cX5_begins 0 = .ok (.aload_n 0, 1) := by decide +kernel
theorem dX5_begins_1 : decode cX5_begins 1 = .ok (.iconst 0, 1) := by decide +kernel
theorem dX5_begins_2 : decode cX5_begins 2 = .ok (.putfield 72, 3) := by decide +kernel
theorem dX5_begins_5 : decode cX5_begins 5 = .ok (.aload_n 0, 1) := by decide +kernel
theorem dX5_begins_6 : decode cX5_begins 6 = .ok (.iconst 0, 1) := by decide +kernel
theorem dX5_begins_7 : decode cX5_begins 7 = .ok (.putfield 63, 3) := by decide +kernel
theorem dX5_begins_10 : decode cX5_begins 10 = .ok (.return_, 1) := by decide +kernel
theorem dX5_split_0 : decode cX5_split 0 = .ok (.aload_n 0, 1) := by decide +kernel
theorem dX5_split_1 : decode cX5_split 1 = .ok (.iload_n 1, 1) := by decide +kernel
theorem dX5_split_2 : decode cX5_split 2 = .ok (.invokevirtual 78, 3) := by decide +kernel
theorem dX5_split_5 : decode cX5_split 5 = .ok (.istore_n 3, 1) := by decide +kernel
theorem dX5_split_6 : decode cX5_split 6 = .ok (.aload_n 0, 1) := by decide +kernel
theorem dX5_split_7 : decode cX5_split 7 = .ok (.iload_n 2, 1) := by decide +kernel
theorem dX5_split_8 : decode cX5_split 8 = .ok (.ifCond .ne 7, 3) := by decide +kernel
theorem dX5_split_11 : decode cX5_split 11 = .ok (.iconst (-1), 1) := by decide +kernel
theorem dX5_split_12 : decode cX5_split 12 = .ok (.goto 4, 3) := by decide +kernel
theorem dX5_split_15 : decode cX5_split 15 = .ok (.iload_n 1, 1) := by decide +kernel
theorem dX5_split_16 : decode cX5_split 16 = .ok (.putfield 81, 3) := by decide +kernel
theorem dX5_split_19 : decode cX5_split 19 = .ok (.aload_n 0, 1) := by decide +kernel
theorem dX5_split_20 : decode cX5_split 20 = .ok (.iload_n 2, 1) := by decide +kernel
theorem dX5_split_21 : decode cX5_split 21 = .ok (.ifCond .ne 7, 3) := by decide +kernel
theorem dX5_split_24 : decode cX5_split 24 = .ok (.iload_n 1, 1) := by decide +kernel
theorem dX5_split_25 : decode cX5_split 25 = .ok (.goto 4, 3) := by decide +kernel
theorem dX5_split_28 : decode cX5_split 28 = .ok (.iconst (-1), 1) := by decide +kernel
theorem dX5_split_29 : decode cX5_split 29 = .ok (.putfield 84, 3) := by decide +kernel
theorem dX5_split_32 : decode cX5_split 32 = .ok (.iload_n 2, 1) := by decide +kernel
theorem dX5_split_33 : decode cX5_split 33 = .ok (.ifCond .le 57, 3) := by decide +kernel
theorem dX5_split_36 : decode cX5_split 36 = .ok (.iload_n 2, 1) := by decide +kernel
theorem dX5_split_37 : decode cX5_split 37 = .ok (.iload_n 3, 1) := by decide +kernel
theorem dX5_split_38 : decode cX5_split 38 = .ok (.if_icmp .ge 52, 3) := by decide +kernel
theorem dX5_split_41 : decode cX5_split 41 = .ok (.aload_n 0, 1) := by decide +kernel
theorem dX5_split_42 : decode cX5_split 42 = .ok (.iload_n 1, 1) := by decide +kernel
theorem dX5_split_43 : decode cX5_split 43 = .ok (.iload_n 2, 1) := by decide +kernel
theorem dX5_split_44 : decode cX5_split 44 = .ok (.invokevirtual 87, 3) := by decide +kernel
theorem dX5_split_47 : decode cX5_split 47 = .ok (.istore 4, 2) := by decide +kernel
theorem dX5_split_49 : decode cX5_split 49 = .ok (.aload_n 0, 1) := by decide +kernel
theorem dX5_split_50 : decode cX5_split 50 = .ok (.iload 4, 2) := by decide +kernel
theorem dX5_split_52 : decode cX5_split 52 = .ok (.invokevirtual 91, 3) := by decide +kernel
theorem dX5_split_55 : decode cX5_split 55 = .ok (.aload_n 0, 1) := by decide +kernel
theorem dX5_split_56 : decode cX5_split 56 = .ok (.aload_n 0, 1) := by decide +kernel
theorem dX5_split_57 : decode cX5_split 57 = .ok (.getfield 20, 3) := by decide +kernel
theorem dX5_split_60 : decode cX5_split 60 = .ok (.iload 4, 2) := by decide +kernel
theorem dX5_split_62 : decode cX5_split 62 = .ok (.iaload, 1) := by decide +kernel
theorem dX5_split_63 : decode cX5_split 63 = .ok (.putfield 81, 3) := by decide +kernel
theorem dX5_split_66 : decode cX5_split 66 = .ok (.aload_n 0, 1) := by decide +kernel
theorem dX5_split_67 : decode cX5_split 67 = .ok (.iload 4, 2) := by decide +kernel
theorem dX5_split_69 : decode cX5_split 69 = .ok (.putfield 84, 3) := by decide +kernel
theorem dX5_split_72 : decode cX5_split 72 = .ok (.aload_n 0, 1) := by decide +kernel
theorem dX5_split_73 : decode cX5_split 73 = .ok (.getfield 26, 3) := by decide +kernel
theorem dX5_split_76 : decode cX5_split 76 = .ok (.aload_n 0, 1) := by decide +kernel
theorem dX5_split_77 : decode cX5_split 77 = .ok (.getfield 81, 3) := by decide +kernel
theorem dX5_split_80 : decode cX5_split 80 = .ok (.iconst (-1), 1) := by decide +kernel
theorem dX5_split_81 : decode cX5_split 81 = .ok (.iastore, 1) := by decide +kernel
theorem dX5_split_82 : decode cX5_split 82 = .ok (.aload_n 0, 1) := by decide +kernel
theorem dX5_split_83 : decode cX5_split 83 = .ok (.getfield 20, 3) := by decide +kernel
theorem dX5_split_86 : decode cX5_split 86 = .ok (.iload 4, 2) := by decide +kernel
theorem dX5_split_88 : decode cX5_split 88 = .ok (.iconst (-1), 1) := by decide +kernel
theorem dX5_split_89 : decode cX5_split 89 = .ok (.iastore, 1) := by decide +kernel
theorem dX5_split_90 : decode cX5_split 90 = .ok (.return_, 1) := by decide +kernel
theorem dX5_join_0 : decode cX5_join 0 = .ok (.iload_n 1, 1) := by decide +kernel
theorem dX5_join_1 : decode cX5_join 1 = .ok (.iconst (-1), 1) := by decide +kernel
theorem dX5_join_2 : decode cX5_join 2 = .ok (.if_icmp .eq 8, 3) := by decide +kernel
theorem dX5_join_5 : decode cX5_join 5 = .ok (.iload_n 2, 1) := by decide +kernel
theorem dX5_join_6 : decode cX5_join 6 = .ok (.iconst (-1), 1) := by decide +kernel
theorem dX5_join_7 : decode cX5_join 7 = .ok (.if_icmp .ne 14, 3) := by decide +kernel
theorem dX5_join_10 : decode cX5_join 10 = .ok (.iload_n 1, 1) := by decide +kernel
theorem dX5_join_11 : decode cX5_join 11 = .ok (.iconst (-1), 1) := by decide +kernel
theorem dX5_join_12 : decode cX5_join 12 = .ok (.if_icmp .ne 7, 3) := by decide +kernel
theorem dX5_join_15 : decode cX5_join 15 = .ok (.iload_n 2, 1) := by decide +kernel
theorem dX5_join_16 : decode cX5_join 16 = .ok (.goto 4, 3) := by decide +kernel
theorem dX5_join_19 : decode cX5_join 19 = .ok (.iload_n 1, 1) := by decide +kernel
theorem dX5_join_20 : decode cX5_join 20 = .ok (.ireturn, 1) := by decide +kernel
theorem dX5_join_21 : decode cX5_join 21 = .ok (.aload_n 0, 1) := by decide +kernel
theorem dX5_join_22 : decode cX5_join 22 = .ok (.iload_n 1, 1) := by decide +kernel
theorem dX5_join_23 : decode cX5_join 23 = .ok (.invokevirtual 94, 3) := by decide +kernel
theorem dX5_join_26 : decode cX5_join 26 = .ok (.istore_n 3, 1) := by decide +kernel
theorem dX5_join_27 : decode cX5_join 27 = .ok (.aload_n 0, 1) := by decide +kernel
theorem dX5_join_28 : decode cX5_join 28 = .ok (.iload_n 3, 1) := by decide +kernel
theorem dX5_join_29 : decode cX5_join 29 = .ok (.invokevirtual 91, 3) := by decide +kernel
theorem dX5_join_32 : decode cX5_join 32 = .ok (.aload_n 0, 1) := by decide +kernel
theorem dX5_join_33 : decode cX5_join 33 = .ok (.iload_n 2, 1) := by decide +kernel
theorem dX5_join_34 : decode cX5_join 34 = .ok (.iload_n 3, 1) := by decide +kernel
theorem dX5_join_35 : decode cX5_join 35 = .ok (.iconst 1, 1) := by decide +kernel
theorem dX5_join_36 : decode cX5_join 36 = .ok (.invokevirtual 59, 3) := by decide +kernel
theorem dX5_join_39 : decode cX5_join 39 = .ok (.iload_n 3, 1) := by decide +kernel
theorem dX5_join_40 : decode cX5_join 40 = .ok (.ireturn, 1) := by decide +kernel
theorem dX5_count_0 : decode cX5_count 0 = .ok (.aload_n 0, 1) := by decide +kernel
theorem dX5_count_1 : decode cX5_count 1 = .ok (.aload_n 0, 1) := by decide +kernel
theorem dX5_count_2 : decode cX5_count 2 = .ok (.getfield 9, 3) := by decide +kernel
theorem dX5_count_5 : decode cX5_count 5 = .ok (.invokevirtual 78, 3) := by decide +kernel
theorem dX5_count_8 : decode cX5_count 8 = .ok (.ireturn, 1) := by decide +kernel
theorem dX5_isPlace_0 : decode cX5_isPlace 0 = .ok (.iload_n 1, 1) := by decide +kernel
theorem dX5_isPlace_1 : decode cX5_isPlace 1 = .ok (.ifCond .lt 15, 3) := by decide +kernel
theorem dX5_isPlace_4 : decode cX5_isPlace 4 = .ok (.iload_n 1, 1) := by decide +kernel
theorem dX5_isPlace_5 : decode cX5_isPlace 5 = .ok (.aload_n 0, 1) := by decide +kernel
theorem dX5_isPlace_6 : decode cX5_isPlace 6 = .ok (.invokevirtual 97, 3) := by decide +kernel
theorem dX5_isPlace_9 : decode cX5_isPlace 9 = .ok (.if_icmp .ge 7, 3) := by decide +kernel
theorem dX5_isPlace_12 : decode cX5_isPlace 12 = .ok (.iconst 1, 1) := by decide +kernel
theorem dX5_isPlace_13 : decode cX5_isPlace 13 = .ok (.goto 4, 3) := by decide +kernel
theorem dX5_isPlace_16 : decode cX5_isPlace 16 = .ok (.iconst 0, 1) := by decide +kernel
theorem dX5_isPlace_17 : decode cX5_isPlace 17 = .ok (.ireturn, 1) := by decide +kernel
theorem dX5_isRange_0 : decode cX5_isRange 0 = .ok (.iload_n 1, 1) := by decide +kernel
theorem dX5_isRange_1 : decode cX5_isRange 1 = .ok (.ifCond .lt 20, 3) := by decide +kernel
theorem dX5_isRange_4 : decode cX5_isRange 4 = .ok (.iload_n 1, 1) := by decide +kernel
theorem dX5_isRange_5 : decode cX5_isRange 5 = .ok (.iload_n 2, 1) := by decide +kernel
theorem dX5_isRange_6 : decode cX5_isRange 6 = .ok (.if_icmp .gt 15, 3) := by decide +kernel
theorem dX5_isRange_9 : decode cX5_isRange 9 = .ok (.iload_n 2, 1) := by decide +kernel
theorem dX5_isRange_10 : decode cX5_isRange 10 = .ok (.aload_n 0, 1) := by decide +kernel
theorem dX5_isRange_11 : decode cX5_isRange 11 = .ok (.invokevirtual 97, 3) := by decide +kernel
theorem dX5_isRange_14 : decode cX5_isRange 14 = .ok (.if_icmp .gt 7, 3) := by decide +kernel
theorem dX5_isRange_17 : decode cX5_isRange 17 = .ok (.iconst 1, 1) := by decide +kernel
theorem dX5_isRange_18 : decode cX5_isRange 18 = .ok (.goto 4, 3) := by decide +kernel
theorem dX5_isRange_21 : decode cX5_isRange 21 = .ok (.iconst 0, 1) := by decide +kernel
theorem dX5_isRange_22 : decode cX5_isRange 22 = .ok (.ireturn, 1) := by decide +kernel
theorem dX5_isValue_0 : decode cX5_isValue 0 = .ok (.iload_n 0, 1) := by decide +kernel
theorem dX5_isValue_1 : decode cX5_isValue 1 = .ok (.sipush (-1000), 3) := by decide +kernel
theorem dX5_isValue_4 : decode cX5_isValue 4 = .ok (.if_icmp .lt 14, 3) := by decide +kernel
theorem dX5_isValue_7 : decode cX5_isValue 7 = .ok (.iload_n 0, 1) := by decide +kernel
theorem dX5_isValue_8 : decode cX5_isValue 8 = .ok (.sipush 1000, 3) := by decide +kernel
theorem dX5_isValue_11 : decode cX5_isValue 11 = .ok (.if_icmp .gt 7, 3) := by decide +kernel
theorem dX5_isValue_14 : decode cX5_isValue 14 = .ok (.iconst 1, 1) := by decide +kernel
theorem dX5_isValue_15 : decode cX5_isValue 15 = .ok (.goto 4, 3) := by decide +kernel
theorem dX5_isValue_18 : decode cX5_isValue 18 = .ok (.iconst 0, 1) := by decide +kernel
theorem dX5_isValue_19 : decode cX5_isValue 19 = .ok (.ireturn, 1) := by decide +kernel
theorem dX5_isFinger_0 : decode cX5_isFinger 0 = .ok (.iload_n 0, 1) := by decide +kernel
theorem dX5_isFinger_1 : decode cX5_isFinger 1 = .ok (.ifCond .lt 12, 3) := by decide +kernel
theorem dX5_isFinger_4 : decode cX5_isFinger 4 = .ok (.iload_n 0, 1) := by decide +kernel
theorem dX5_isFinger_5 : decode cX5_isFinger 5 = .ok (.iconst 4, 1) := by decide +kernel
theorem dX5_isFinger_6 : decode cX5_isFinger 6 = .ok (.if_icmp .ge 7, 3) := by decide +kernel
theorem dX5_isFinger_9 : decode cX5_isFinger 9 = .ok (.iconst 1, 1) := by decide +kernel
theorem dX5_isFinger_10 : decode cX5_isFinger 10 = .ok (.goto 4, 3) := by decide +kernel
theorem dX5_isFinger_13 : decode cX5_isFinger 13 = .ok (.iconst 0, 1) := by decide +kernel
theorem dX5_isFinger_14 : decode cX5_isFinger 14 = .ok (.ireturn, 1) := by decide +kernel
theorem dX5_insert_0 : decode cX5_insert 0 = .ok (.aload_n 0, 1) := by decide +kernel
theorem dX5_insert_1 : decode cX5_insert 1 = .ok (.iload_n 1, 1) := by decide +kernel
theorem dX5_insert_2 : decode cX5_insert 2 = .ok (.ifCond .lt 11, 3) := by decide +kernel
theorem dX5_insert_5 : decode cX5_insert 5 = .ok (.iload_n 1, 1) := by decide +kernel
theorem dX5_insert_6 : decode cX5_insert 6 = .ok (.aload_n 0, 1) := by decide +kernel
theorem dX5_insert_7 : decode cX5_insert 7 = .ok (.invokevirtual 97, 3) := by decide +kernel
theorem dX5_insert_10 : decode cX5_insert 10 = .ok (.if_icmp .le 7, 3) := by decide +kernel
theorem dX5_insert_13 : decode cX5_insert 13 = .ok (.iconst 1, 1) := by decide +kernel
theorem dX5_insert_14 : decode cX5_insert 14 = .ok (.goto 37, 3) := by decide +kernel
theorem dX5_insert_17 : decode cX5_insert 17 = .ok (.iload_n 2, 1) := by decide +kernel
theorem dX5_insert_18 : decode cX5_insert 18 = .ok (.invokestatic 101, 3) := by decide +kernel
theorem dX5_insert_21 : decode cX5_insert 21 = .ok (.ifCond .ne 7, 3) := by decide +kernel
theorem dX5_insert_24 : decode cX5_insert 24 = .ok (.iconst 2, 1) := by decide +kernel
theorem dX5_insert_25 : decode cX5_insert 25 = .ok (.goto 26, 3) := by decide +kernel
theorem dX5_insert_28 : decode cX5_insert 28 = .ok (.aload_n 0, 1) := by decide +kernel
theorem dX5_insert_29 : decode cX5_insert 29 = .ok (.invokevirtual 97, 3) := by decide +kernel
theorem dX5_insert_32 : decode cX5_insert 32 = .ok (.aload_n 0, 1) := by decide +kernel
theorem dX5_insert_33 : decode cX5_insert 33 = .ok (.aload_n 0, 1) := by decide +kernel
theorem dX5_insert_34 : decode cX5_insert 34 = .ok (.getfield 13, 3) := by decide +kernel
theorem dX5_insert_37 : decode cX5_insert 37 = .ok (.invokevirtual 78, 3) := by decide +kernel
theorem dX5_insert_40 : decode cX5_insert 40 = .ok (.iadd, 1) := by decide +kernel
theorem dX5_insert_41 : decode cX5_insert 41 = .ok (.bipush 60, 2) := by decide +kernel
theorem dX5_insert_43 : decode cX5_insert 43 = .ok (.if_icmp .ne 7, 3) := by decide +kernel
theorem dX5_insert_46 : decode cX5_insert 46 = .ok (.iconst 3, 1) := by decide +kernel
theorem dX5_insert_47 : decode cX5_insert 47 = .ok (.goto 4, 3) := by decide +kernel
theorem dX5_insert_50 : decode cX5_insert 50 = .ok (.iconst 0, 1) := by decide +kernel
theorem dX5_insert_51 : decode cX5_insert 51 = .ok (.invokevirtual 105, 3) := by decide +kernel
theorem dX5_insert_54 : decode cX5_insert 54 = .ok (.ifCond .ne 5, 3) := by decide +kernel
theorem dX5_insert_57 : decode cX5_insert 57 = .ok (.iconst 0, 1) := by decide +kernel
theorem dX5_insert_58 : decode cX5_insert 58 = .ok (.ireturn, 1) := by decide +kernel
theorem dX5_insert_59 : decode cX5_insert 59 = .ok (.aload_n 0, 1) := by decide +kernel
theorem dX5_insert_60 : decode cX5_insert 60 = .ok (.invokevirtual 108, 3) := by decide +kernel
theorem dX5_insert_63 : decode cX5_insert 63 = .ok (.aload_n 0, 1) := by decide +kernel
theorem dX5_insert_64 : decode cX5_insert 64 = .ok (.aload_n 0, 1) := by decide +kernel
theorem dX5_insert_65 : decode cX5_insert 65 = .ok (.getfield 9, 3) := by decide +kernel
theorem dX5_insert_68 : decode cX5_insert 68 = .ok (.iload_n 1, 1) := by decide +kernel
theorem dX5_insert_69 : decode cX5_insert 69 = .ok (.invokevirtual 111, 3) := by decide +kernel
theorem dX5_insert_72 : decode cX5_insert 72 = .ok (.iconst 0, 1) := by decide +kernel
theorem dX5_insert_73 : decode cX5_insert 73 = .ok (.istore_n 3, 1) := by decide +kernel
theorem dX5_insert_74 : decode cX5_insert 74 = .ok (.aload_n 0, 1) := by decide +kernel
theorem dX5_insert_75 : decode cX5_insert 75 = .ok (.getfield 29, 3) := by decide +kernel
theorem dX5_insert_78 : decode cX5_insert 78 = .ok (.iload_n 3, 1) := by decide +kernel
theorem dX5_insert_79 : decode cX5_insert 79 = .ok (.baload, 1) := by decide +kernel
theorem dX5_insert_80 : decode cX5_insert 80 = .ok (.ifCond .eq 9, 3) := by decide +kernel
theorem dX5_insert_83 : decode cX5_insert 83 = .ok (.iinc 3 1, 3) := by decide +kernel
theorem dX5_insert_86 : decode cX5_insert 86 = .ok (.goto (-12), 3) := by decide +kernel
theorem dX5_insert_89 : decode cX5_insert 89 = .ok (.aload_n 0, 1) := by decide +kernel
theorem dX5_insert_90 : decode cX5_insert 90 = .ok (.getfield 29, 3) := by decide +kernel
theorem dX5_insert_93 : decode cX5_insert 93 = .ok (.iload_n 3, 1) := by decide +kernel
theorem dX5_insert_94 : decode cX5_insert 94 = .ok (.iconst 1, 1) := by decide +kernel
theorem dX5_insert_95 : decode cX5_insert 95 = .ok (.bastore, 1) := by decide +kernel
theorem dX5_insert_96 : decode cX5_insert 96 = .ok (.aload_n 0, 1) := by decide +kernel
theorem dX5_insert_97 : decode cX5_insert 97 = .ok (.getfield 16, 3) := by decide +kernel
theorem dX5_insert_100 : decode cX5_insert 100 = .ok (.iload_n 3, 1) := by decide +kernel
theorem dX5_insert_101 : decode cX5_insert 101 = .ok (.iload_n 2, 1) := by decide +kernel
theorem dX5_insert_102 : decode cX5_insert 102 = .ok (.iastore, 1) := by decide +kernel
theorem dX5_insert_103 : decode cX5_insert 103 = .ok (.aload_n 0, 1) := by decide +kernel
theorem dX5_insert_104 : decode cX5_insert 104 = .ok (.getfield 26, 3) := by decide +kernel
theorem dX5_insert_107 : decode cX5_insert 107 = .ok (.iload_n 3, 1) := by decide +kernel
theorem dX5_insert_108 : decode cX5_insert 108 = .ok (.iconst (-1), 1) := by decide +kernel
theorem dX5_insert_109 : decode cX5_insert 109 = .ok (.iastore, 1) := by decide +kernel
theorem dX5_insert_110 : decode cX5_insert 110 = .ok (.aload_n 0, 1) := by decide +kernel
theorem dX5_insert_111 : decode cX5_insert 111 = .ok (.getfield 20, 3) := by decide +kernel
theorem dX5_insert_114 : decode cX5_insert 114 = .ok (.iload_n 3, 1) := by decide +kernel
theorem dX5_insert_115 : decode cX5_insert 115 = .ok (.iconst (-1), 1) := by decide +kernel
theorem dX5_insert_116 : decode cX5_insert 116 = .ok (.iastore, 1) := by decide +kernel
theorem dX5_insert_117 : decode cX5_insert 117 = .ok (.aload_n 0, 1) := by decide +kernel
theorem dX5_insert_118 : decode cX5_insert 118 = .ok (.getfield 23, 3) := by decide +kernel
theorem dX5_insert_121 : decode cX5_insert 121 = .ok (.iload_n 3, 1) := by decide +kernel
theorem dX5_insert_122 : decode cX5_insert 122 = .ok (.iconst (-1), 1) := by decide +kernel
theorem dX5_insert_123 : decode cX5_insert 123 = .ok (.iastore, 1) := by decide +kernel
theorem dX5_insert_124 : decode cX5_insert 124 = .ok (.aload_n 0, 1) := by decide +kernel
theorem dX5_insert_125 : decode cX5_insert 125 = .ok (.aload_n 0, 1) := by decide +kernel
theorem dX5_insert_126 : decode cX5_insert 126 = .ok (.getfield 81, 3) := by decide +kernel
theorem dX5_insert_129 : decode cX5_insert 129 = .ok (.iload_n 3, 1) := by decide +kernel
theorem dX5_insert_130 : decode cX5_insert 130 = .ok (.iconst 0, 1) := by decide +kernel
theorem dX5_insert_131 : decode cX5_insert 131 = .ok (.invokevirtual 59, 3) := by decide +kernel
theorem dX5_insert_134 : decode cX5_insert 134 = .ok (.aload_n 0, 1) := by decide +kernel
theorem dX5_insert_135 : decode cX5_insert 135 = .ok (.aload_n 0, 1) := by decide +kernel
theorem dX5_insert_136 : decode cX5_insert 136 = .ok (.getfield 84, 3) := by decide +kernel
theorem dX5_insert_139 : decode cX5_insert 139 = .ok (.iload_n 3, 1) := by decide +kernel
theorem dX5_insert_140 : decode cX5_insert 140 = .ok (.iconst 1, 1) := by decide +kernel
theorem dX5_insert_141 : decode cX5_insert 141 = .ok (.invokevirtual 59, 3) := by decide +kernel
theorem dX5_insert_144 : decode cX5_insert 144 = .ok (.aload_n 0, 1) := by decide +kernel
theorem dX5_insert_145 : decode cX5_insert 145 = .ok (.iload_n 3, 1) := by decide +kernel
theorem dX5_insert_146 : decode cX5_insert 146 = .ok (.putfield 9, 3) := by decide +kernel
theorem dX5_insert_149 : decode cX5_insert 149 = .ok (.aload_n 0, 1) := by decide +kernel
theorem dX5_insert_150 : decode cX5_insert 150 = .ok (.invokevirtual 97, 3) := by decide +kernel
theorem dX5_insert_153 : decode cX5_insert 153 = .ok (.ireturn, 1) := by decide +kernel
theorem dX5_remove_0 : decode cX5_remove 0 = .ok (.aload_n 0, 1) := by decide +kernel
theorem dX5_remove_1 : decode cX5_remove 1 = .ok (.aload_n 0, 1) := by decide +kernel
theorem dX5_remove_2 : decode cX5_remove 2 = .ok (.iload_n 1, 1) := by decide +kernel
theorem dX5_remove_3 : decode cX5_remove 3 = .ok (.invokevirtual 115, 3) := by decide +kernel
theorem dX5_remove_6 : decode cX5_remove 6 = .ok (.ifCond .eq 7, 3) := by decide +kernel
theorem dX5_remove_9 : decode cX5_remove 9 = .ok (.iconst 0, 1) := by decide +kernel
theorem dX5_remove_10 : decode cX5_remove 10 = .ok (.goto 4, 3) := by decide +kernel
theorem dX5_remove_13 : decode cX5_remove 13 = .ok (.iconst 1, 1) := by decide +kernel
theorem dX5_remove_14 : decode cX5_remove 14 = .ok (.invokevirtual 105, 3) := by decide +kernel
theorem dX5_remove_17 : decode cX5_remove 17 = .ok (.ifCond .ne 5, 3) := by decide +kernel
theorem dX5_remove_20 : decode cX5_remove 20 = .ok (.iconst 0, 1) := by decide +kernel
theorem dX5_remove_21 : decode cX5_remove 21 = .ok (.ireturn, 1) := by decide +kernel
theorem dX5_remove_22 : decode cX5_remove 22 = .ok (.aload_n 0, 1) := by decide +kernel
theorem dX5_remove_23 : decode cX5_remove 23 = .ok (.invokevirtual 108, 3) := by decide +kernel
theorem dX5_remove_26 : decode cX5_remove 26 = .ok (.aload_n 0, 1) := by decide +kernel
theorem dX5_remove_27 : decode cX5_remove 27 = .ok (.aload_n 0, 1) := by decide +kernel
theorem dX5_remove_28 : decode cX5_remove 28 = .ok (.getfield 9, 3) := by decide +kernel
theorem dX5_remove_31 : decode cX5_remove 31 = .ok (.iload_n 1, 1) := by decide +kernel
theorem dX5_remove_32 : decode cX5_remove 32 = .ok (.invokevirtual 87, 3) := by decide +kernel
theorem dX5_remove_35 : decode cX5_remove 35 = .ok (.istore_n 2, 1) := by decide +kernel
theorem dX5_remove_36 : decode cX5_remove 36 = .ok (.aload_n 0, 1) := by decide +kernel
theorem dX5_remove_37 : decode cX5_remove 37 = .ok (.iload_n 2, 1) := by decide +kernel
theorem dX5_remove_38 : decode cX5_remove 38 = .ok (.invokevirtual 91, 3) := by decide +kernel
theorem dX5_remove_41 : decode cX5_remove 41 = .ok (.aload_n 0, 1) := by decide +kernel
theorem dX5_remove_42 : decode cX5_remove 42 = .ok (.getfield 20, 3) := by decide +kernel
theorem dX5_remove_45 : decode cX5_remove 45 = .ok (.iload_n 2, 1) := by decide +kernel
theorem dX5_remove_46 : decode cX5_remove 46 = .ok (.iaload, 1) := by decide +kernel
theorem dX5_remove_47 : decode cX5_remove 47 = .ok (.istore_n 3, 1) := by decide +kernel
theorem dX5_remove_48 : decode cX5_remove 48 = .ok (.aload_n 0, 1) := by decide +kernel
theorem dX5_remove_49 : decode cX5_remove 49 = .ok (.getfield 23, 3) := by decide +kernel
theorem dX5_remove_52 : decode cX5_remove 52 = .ok (.iload_n 2, 1) := by decide +kernel
theorem dX5_remove_53 : decode cX5_remove 53 = .ok (.iaload, 1) := by decide +kernel
theorem dX5_remove_54 : decode cX5_remove 54 = .ok (.istore 4, 2) := by decide +kernel
theorem dX5_remove_56 : decode cX5_remove 56 = .ok (.aload_n 0, 1) := by decide +kernel
theorem dX5_remove_57 : decode cX5_remove 57 = .ok (.iload_n 3, 1) := by decide +kernel
theorem dX5_remove_58 : decode cX5_remove 58 = .ok (.iconst (-1), 1) := by decide +kernel
theorem dX5_remove_59 : decode cX5_remove 59 = .ok (.iconst 0, 1) := by decide +kernel
theorem dX5_remove_60 : decode cX5_remove 60 = .ok (.invokevirtual 59, 3) := by decide +kernel
theorem dX5_remove_63 : decode cX5_remove 63 = .ok (.aload_n 0, 1) := by decide +kernel
theorem dX5_remove_64 : decode cX5_remove 64 = .ok (.iload 4, 2) := by decide +kernel
theorem dX5_remove_66 : decode cX5_remove 66 = .ok (.iconst (-1), 1) := by decide +kernel
theorem dX5_remove_67 : decode cX5_remove 67 = .ok (.iconst 0, 1) := by decide +kernel
theorem dX5_remove_68 : decode cX5_remove 68 = .ok (.invokevirtual 59, 3) := by decide +kernel
theorem dX5_remove_71 : decode cX5_remove 71 = .ok (.aload_n 0, 1) := by decide +kernel
theorem dX5_remove_72 : decode cX5_remove 72 = .ok (.getfield 29, 3) := by decide +kernel
theorem dX5_remove_75 : decode cX5_remove 75 = .ok (.iload_n 2, 1) := by decide +kernel
theorem dX5_remove_76 : decode cX5_remove 76 = .ok (.iconst 0, 1) := by decide +kernel
theorem dX5_remove_77 : decode cX5_remove 77 = .ok (.bastore, 1) := by decide +kernel
theorem dX5_remove_78 : decode cX5_remove 78 = .ok (.aload_n 0, 1) := by decide +kernel
theorem dX5_remove_79 : decode cX5_remove 79 = .ok (.aload_n 0, 1) := by decide +kernel
theorem dX5_remove_80 : decode cX5_remove 80 = .ok (.iload_n 3, 1) := by decide +kernel
theorem dX5_remove_81 : decode cX5_remove 81 = .ok (.iload 4, 2) := by decide +kernel
theorem dX5_remove_83 : decode cX5_remove 83 = .ok (.invokevirtual 118, 3) := by decide +kernel
theorem dX5_remove_86 : decode cX5_remove 86 = .ok (.putfield 9, 3) := by decide +kernel
theorem dX5_remove_89 : decode cX5_remove 89 = .ok (.iconst 0, 1) := by decide +kernel
theorem dX5_remove_90 : decode cX5_remove 90 = .ok (.istore 5, 2) := by decide +kernel
theorem dX5_remove_92 : decode cX5_remove 92 = .ok (.iload 5, 2) := by decide +kernel
theorem dX5_remove_94 : decode cX5_remove 94 = .ok (.iconst 4, 1) := by decide +kernel
theorem dX5_remove_95 : decode cX5_remove 95 = .ok (.if_icmp .ge 38, 3) := by decide +kernel
theorem dX5_remove_98 : decode cX5_remove 98 = .ok (.aload_n 0, 1) := by decide +kernel
theorem dX5_remove_99 : decode cX5_remove 99 = .ok (.getfield 33, 3) := by decide +kernel
theorem dX5_remove_102 : decode cX5_remove 102 = .ok (.iload 5, 2) := by decide +kernel
theorem dX5_remove_104 : decode cX5_remove 104 = .ok (.aload_n 0, 1) := by decide +kernel
theorem dX5_remove_105 : decode cX5_remove 105 = .ok (.getfield 33, 3) := by decide +kernel
theorem dX5_remove_108 : decode cX5_remove 108 = .ok (.iload 5, 2) := by decide +kernel
theorem dX5_remove_110 : decode cX5_remove 110 = .ok (.iaload, 1) := by decide +kernel
theorem dX5_remove_111 : decode cX5_remove 111 = .ok (.iload_n 2, 1) := by decide +kernel
theorem dX5_remove_112 : decode cX5_remove 112 = .ok (.if_icmp .ne 7, 3) := by decide +kernel
theorem dX5_remove_115 : decode cX5_remove 115 = .ok (.iconst (-1), 1) := by decide +kernel
theorem dX5_remove_116 : decode cX5_remove 116 = .ok (.goto 10, 3) := by decide +kernel
theorem dX5_remove_119 : decode cX5_remove 119 = .ok (.aload_n 0, 1) := by decide +kernel
theorem dX5_remove_120 : decode cX5_remove 120 = .ok (.getfield 33, 3) := by decide +kernel
theorem dX5_remove_123 : decode cX5_remove 123 = .ok (.iload 5, 2) := by decide +kernel
theorem dX5_remove_125 : decode cX5_remove 125 = .ok (.iaload, 1) := by decide +kernel
theorem dX5_remove_126 : decode cX5_remove 126 = .ok (.iastore, 1) := by decide +kernel
theorem dX5_remove_127 : decode cX5_remove 127 = .ok (.iinc 5 1, 3) := by decide +kernel
theorem dX5_remove_130 : decode cX5_remove 130 = .ok (.goto (-38), 3) := by decide +kernel
theorem dX5_remove_133 : decode cX5_remove 133 = .ok (.aload_n 0, 1) := by decide +kernel
theorem dX5_remove_134 : decode cX5_remove 134 = .ok (.getfield 16, 3) := by decide +kernel
theorem dX5_remove_137 : decode cX5_remove 137 = .ok (.iload_n 2, 1) := by decide +kernel
theorem dX5_remove_138 : decode cX5_remove 138 = .ok (.iaload, 1) := by decide +kernel
theorem dX5_remove_139 : decode cX5_remove 139 = .ok (.ireturn, 1) := by decide +kernel
theorem dX5_raiseUp_0 : decode cX5_raiseUp 0 = .ok (.aload_n 0, 1) := by decide +kernel
theorem dX5_raiseUp_1 : decode cX5_raiseUp 1 = .ok (.aload_n 0, 1) := by decide +kernel
theorem dX5_raiseUp_2 : decode cX5_raiseUp 2 = .ok (.getfield 9, 3) := by decide +kernel
theorem dX5_raiseUp_5 : decode cX5_raiseUp 5 = .ok (.iload_n 1, 1) := by decide +kernel
theorem dX5_raiseUp_6 : decode cX5_raiseUp 6 = .ok (.invokevirtual 87, 3) := by decide +kernel
theorem dX5_raiseUp_9 : decode cX5_raiseUp 9 = .ok (.istore_n 2, 1) := by decide +kernel
theorem dX5_raiseUp_10 : decode cX5_raiseUp 10 = .ok (.aload_n 0, 1) := by decide +kernel
theorem dX5_raiseUp_11 : decode cX5_raiseUp 11 = .ok (.iload_n 2, 1) := by decide +kernel
theorem dX5_raiseUp_12 : decode cX5_raiseUp 12 = .ok (.invokevirtual 91, 3) := by decide +kernel
theorem dX5_raiseUp_15 : decode cX5_raiseUp 15 = .ok (.aload_n 0, 1) := by decide +kernel
theorem dX5_raiseUp_16 : decode cX5_raiseUp 16 = .ok (.iload_n 2, 1) := by decide +kernel
theorem dX5_raiseUp_17 : decode cX5_raiseUp 17 = .ok (.putfield 9, 3) := by decide +kernel
theorem dX5_raiseUp_20 : decode cX5_raiseUp 20 = .ok (.iload_n 2, 1) := by decide +kernel
theorem dX5_raiseUp_21 : decode cX5_raiseUp 21 = .ok (.ireturn, 1) := by decide +kernel
theorem dX5_get_0 : decode cX5_get 0 = .ok (.aload_n 0, 1) := by decide +kernel
theorem dX5_get_1 : decode cX5_get 1 = .ok (.aload_n 0, 1) := by decide +kernel
theorem dX5_get_2 : decode cX5_get 2 = .ok (.iload_n 1, 1) := by decide +kernel
theorem dX5_get_3 : decode cX5_get 3 = .ok (.invokevirtual 115, 3) := by decide +kernel
theorem dX5_get_6 : decode cX5_get 6 = .ok (.ifCond .eq 7, 3) := by decide +kernel
theorem dX5_get_9 : decode cX5_get 9 = .ok (.iconst 0, 1) := by decide +kernel
theorem dX5_get_10 : decode cX5_get 10 = .ok (.goto 4, 3) := by decide +kernel
theorem dX5_get_13 : decode cX5_get 13 = .ok (.iconst 1, 1) := by decide +kernel
theorem dX5_get_14 : decode cX5_get 14 = .ok (.invokevirtual 105, 3) := by decide +kernel
theorem dX5_get_17 : decode cX5_get 17 = .ok (.ifCond .ne 5, 3) := by decide +kernel
theorem dX5_get_20 : decode cX5_get 20 = .ok (.iconst 0, 1) := by decide +kernel
theorem dX5_get_21 : decode cX5_get 21 = .ok (.ireturn, 1) := by decide +kernel
theorem dX5_get_22 : decode cX5_get 22 = .ok (.aload_n 0, 1) := by decide +kernel
theorem dX5_get_23 : decode cX5_get 23 = .ok (.invokevirtual 108, 3) := by decide +kernel
theorem dX5_get_26 : decode cX5_get 26 = .ok (.aload_n 0, 1) := by decide +kernel
theorem dX5_get_27 : decode cX5_get 27 = .ok (.getfield 16, 3) := by decide +kernel
theorem dX5_get_30 : decode cX5_get 30 = .ok (.aload_n 0, 1) := by decide +kernel
theorem dX5_get_31 : decode cX5_get 31 = .ok (.iload_n 1, 1) := by decide +kernel
theorem dX5_get_32 : decode cX5_get 32 = .ok (.invokevirtual 121, 3) := by decide +kernel
theorem dX5_get_35 : decode cX5_get 35 = .ok (.iaload, 1) := by decide +kernel
theorem dX5_get_36 : decode cX5_get 36 = .ok (.ireturn, 1) := by decide +kernel
theorem dX5_set_0 : decode cX5_set 0 = .ok (.aload_n 0, 1) := by decide +kernel
theorem dX5_set_1 : decode cX5_set 1 = .ok (.aload_n 0, 1) := by decide +kernel
theorem dX5_set_2 : decode cX5_set 2 = .ok (.iload_n 1, 1) := by decide +kernel
theorem dX5_set_3 : decode cX5_set 3 = .ok (.invokevirtual 115, 3) := by decide +kernel
theorem dX5_set_6 : decode cX5_set 6 = .ok (.ifCond .ne 7, 3) := by decide +kernel
theorem dX5_set_9 : decode cX5_set 9 = .ok (.iconst 1, 1) := by decide +kernel
theorem dX5_set_10 : decode cX5_set 10 = .ok (.goto 15, 3) := by decide +kernel
theorem dX5_set_13 : decode cX5_set 13 = .ok (.iload_n 2, 1) := by decide +kernel
theorem dX5_set_14 : decode cX5_set 14 = .ok (.invokestatic 101, 3) := by decide +kernel
theorem dX5_set_17 : decode cX5_set 17 = .ok (.ifCond .ne 7, 3) := by decide +kernel
theorem dX5_set_20 : decode cX5_set 20 = .ok (.iconst 2, 1) := by decide +kernel
theorem dX5_set_21 : decode cX5_set 21 = .ok (.goto 4, 3) := by decide +kernel
theorem dX5_set_24 : decode cX5_set 24 = .ok (.iconst 0, 1) := by decide +kernel
theorem dX5_set_25 : decode cX5_set 25 = .ok (.invokevirtual 105, 3) := by decide +kernel
theorem dX5_set_28 : decode cX5_set 28 = .ok (.ifCond .ne 5, 3) := by decide +kernel
theorem dX5_set_31 : decode cX5_set 31 = .ok (.iconst 0, 1) := by decide +kernel
theorem dX5_set_32 : decode cX5_set 32 = .ok (.ireturn, 1) := by decide +kernel
theorem dX5_set_33 : decode cX5_set 33 = .ok (.aload_n 0, 1) := by decide +kernel
theorem dX5_set_34 : decode cX5_set 34 = .ok (.invokevirtual 108, 3) := by decide +kernel
theorem dX5_set_37 : decode cX5_set 37 = .ok (.aload_n 0, 1) := by decide +kernel
theorem dX5_set_38 : decode cX5_set 38 = .ok (.iload_n 1, 1) := by decide +kernel
theorem dX5_set_39 : decode cX5_set 39 = .ok (.invokevirtual 121, 3) := by decide +kernel
theorem dX5_set_42 : decode cX5_set 42 = .ok (.istore_n 3, 1) := by decide +kernel
theorem dX5_set_43 : decode cX5_set 43 = .ok (.aload_n 0, 1) := by decide +kernel
theorem dX5_set_44 : decode cX5_set 44 = .ok (.getfield 16, 3) := by decide +kernel
theorem dX5_set_47 : decode cX5_set 47 = .ok (.iload_n 3, 1) := by decide +kernel
theorem dX5_set_48 : decode cX5_set 48 = .ok (.iaload, 1) := by decide +kernel
theorem dX5_set_49 : decode cX5_set 49 = .ok (.istore 4, 2) := by decide +kernel
theorem dX5_set_51 : decode cX5_set 51 = .ok (.aload_n 0, 1) := by decide +kernel
theorem dX5_set_52 : decode cX5_set 52 = .ok (.getfield 16, 3) := by decide +kernel
theorem dX5_set_55 : decode cX5_set 55 = .ok (.iload_n 3, 1) := by decide +kernel
theorem dX5_set_56 : decode cX5_set 56 = .ok (.iload_n 2, 1) := by decide +kernel
theorem dX5_set_57 : decode cX5_set 57 = .ok (.iastore, 1) := by decide +kernel
theorem dX5_set_58 : decode cX5_set 58 = .ok (.iload 4, 2) := by decide +kernel
theorem dX5_set_60 : decode cX5_set 60 = .ok (.ireturn, 1) := by decide +kernel
theorem dX5_open_0 : decode cX5_open 0 = .ok (.aload_n 0, 1) := by decide +kernel
theorem dX5_open_1 : decode cX5_open 1 = .ok (.invokevirtual 108, 3) := by decide +kernel
theorem dX5_open_4 : decode cX5_open 4 = .ok (.aload_n 0, 1) := by decide +kernel
theorem dX5_open_5 : decode cX5_open 5 = .ok (.aload_n 0, 1) := by decide +kernel
theorem dX5_open_6 : decode cX5_open 6 = .ok (.getfield 9, 3) := by decide +kernel
theorem dX5_open_9 : decode cX5_open 9 = .ok (.putfield 124, 3) := by decide +kernel
theorem dX5_open_12 : decode cX5_open 12 = .ok (.aload_n 0, 1) := by decide +kernel
theorem dX5_open_13 : decode cX5_open 13 = .ok (.iconst (-1), 1) := by decide +kernel
theorem dX5_open_14 : decode cX5_open 14 = .ok (.putfield 127, 3) := by decide +kernel
theorem dX5_open_17 : decode cX5_open 17 = .ok (.aload_n 0, 1) := by decide +kernel
theorem dX5_open_18 : decode cX5_open 18 = .ok (.iconst (-1), 1) := by decide +kernel
theorem dX5_open_19 : decode cX5_open 19 = .ok (.putfield 130, 3) := by decide +kernel
theorem dX5_open_22 : decode cX5_open 22 = .ok (.iload_n 1, 1) := by decide +kernel
theorem dX5_open_23 : decode cX5_open 23 = .ok (.iload_n 2, 1) := by decide +kernel
theorem dX5_open_24 : decode cX5_open 24 = .ok (.if_icmp .ge 45, 3) := by decide +kernel
theorem dX5_open_27 : decode cX5_open 27 = .ok (.aload_n 0, 1) := by decide +kernel
theorem dX5_open_28 : decode cX5_open 28 = .ok (.aload_n 0, 1) := by decide +kernel
theorem dX5_open_29 : decode cX5_open 29 = .ok (.getfield 9, 3) := by decide +kernel
theorem dX5_open_32 : decode cX5_open 32 = .ok (.iload_n 2, 1) := by decide +kernel
theorem dX5_open_33 : decode cX5_open 33 = .ok (.invokevirtual 111, 3) := by decide +kernel
theorem dX5_open_36 : decode cX5_open 36 = .ok (.aload_n 0, 1) := by decide +kernel
theorem dX5_open_37 : decode cX5_open 37 = .ok (.aload_n 0, 1) := by decide +kernel
theorem dX5_open_38 : decode cX5_open 38 = .ok (.getfield 84, 3) := by decide +kernel
theorem dX5_open_41 : decode cX5_open 41 = .ok (.putfield 130, 3) := by decide +kernel
theorem dX5_open_44 : decode cX5_open 44 = .ok (.aload_n 0, 1) := by decide +kernel
theorem dX5_open_45 : decode cX5_open 45 = .ok (.aload_n 0, 1) := by decide +kernel
theorem dX5_open_46 : decode cX5_open 46 = .ok (.getfield 81, 3) := by decide +kernel
theorem dX5_open_49 : decode cX5_open 49 = .ok (.iload_n 1, 1) := by decide +kernel
theorem dX5_open_50 : decode cX5_open 50 = .ok (.invokevirtual 111, 3) := by decide +kernel
theorem dX5_open_53 : decode cX5_open 53 = .ok (.aload_n 0, 1) := by decide +kernel
theorem dX5_open_54 : decode cX5_open 54 = .ok (.aload_n 0, 1) := by decide +kernel
theorem dX5_open_55 : decode cX5_open 55 = .ok (.getfield 81, 3) := by decide +kernel
theorem dX5_open_58 : decode cX5_open 58 = .ok (.putfield 124, 3) := by decide +kernel
theorem dX5_open_61 : decode cX5_open 61 = .ok (.aload_n 0, 1) := by decide +kernel
theorem dX5_open_62 : decode cX5_open 62 = .ok (.aload_n 0, 1) := by decide +kernel
theorem dX5_open_63 : decode cX5_open 63 = .ok (.getfield 84, 3) := by decide +kernel
theorem dX5_open_66 : decode cX5_open 66 = .ok (.putfield 127, 3) := by decide +kernel
theorem dX5_open_69 : decode cX5_open 69 = .ok (.return_, 1) := by decide +kernel
theorem dX5_close_0 : decode cX5_close 0 = .ok (.aload_n 0, 1) := by decide +kernel
theorem dX5_close_1 : decode cX5_close 1 = .ok (.aload_n 0, 1) := by decide +kernel
theorem dX5_close_2 : decode cX5_close 2 = .ok (.aload_n 0, 1) := by decide +kernel
theorem dX5_close_3 : decode cX5_close 3 = .ok (.aload_n 0, 1) := by decide +kernel
theorem dX5_close_4 : decode cX5_close 4 = .ok (.getfield 124, 3) := by decide +kernel
theorem dX5_close_7 : decode cX5_close 7 = .ok (.aload_n 0, 1) := by decide +kernel
theorem dX5_close_8 : decode cX5_close 8 = .ok (.getfield 127, 3) := by decide +kernel
theorem dX5_close_11 : decode cX5_close 11 = .ok (.invokevirtual 118, 3) := by decide +kernel
theorem dX5_close_14 : decode cX5_close 14 = .ok (.aload_n 0, 1) := by decide +kernel
theorem dX5_close_15 : decode cX5_close 15 = .ok (.getfield 130, 3) := by decide +kernel
theorem dX5_close_18 : decode cX5_close 18 = .ok (.invokevirtual 118, 3) := by decide +kernel
theorem dX5_close_21 : decode cX5_close 21 = .ok (.putfield 9, 3) := by decide +kernel
theorem dX5_close_24 : decode cX5_close 24 = .ok (.return_, 1) := by decide +kernel
theorem dX5_turnRound_0 : decode cX5_turnRound 0 = .ok (.aload_n 0, 1) := by decide +kernel
theorem dX5_turnRound_1 : decode cX5_turnRound 1 = .ok (.aload_n 0, 1) := by decide +kernel
theorem dX5_turnRound_2 : decode cX5_turnRound 2 = .ok (.getfield 127, 3) := by decide +kernel
theorem dX5_turnRound_5 : decode cX5_turnRound 5 = .ok (.invokevirtual 52, 3) := by decide +kernel
theorem dX5_turnRound_8 : decode cX5_turnRound 8 = .ok (.iconst 0, 1) := by decide +kernel
theorem dX5_turnRound_9 : decode cX5_turnRound 9 = .ok (.istore_n 1, 1) := by decide +kernel
theorem dX5_turnRound_10 : decode cX5_turnRound 10 = .ok (.iload_n 1, 1) := by decide +kernel
theorem dX5_turnRound_11 : decode cX5_turnRound 11 = .ok (.aload_n 0, 1) := by decide +kernel
theorem dX5_turnRound_12 : decode cX5_turnRound 12 = .ok (.getfield 46, 3) := by decide +kernel
theorem dX5_turnRound_15 : decode cX5_turnRound 15 = .ok (.if_icmp .ge 42, 3) := by decide +kernel
theorem dX5_turnRound_18 : decode cX5_turnRound 18 = .ok (.aload_n 0, 1) := by decide +kernel
theorem dX5_turnRound_19 : decode cX5_turnRound 19 = .ok (.getfield 36, 3) := by decide +kernel
theorem dX5_turnRound_22 : decode cX5_turnRound 22 = .ok (.iload_n 1, 1) := by decide +kernel
theorem dX5_turnRound_23 : decode cX5_turnRound 23 = .ok (.iaload, 1) := by decide +kernel
theorem dX5_turnRound_24 : decode cX5_turnRound 24 = .ok (.istore_n 2, 1) := by decide +kernel
theorem dX5_turnRound_25 : decode cX5_turnRound 25 = .ok (.aload_n 0, 1) := by decide +kernel
theorem dX5_turnRound_26 : decode cX5_turnRound 26 = .ok (.getfield 20, 3) := by decide +kernel
theorem dX5_turnRound_29 : decode cX5_turnRound 29 = .ok (.iload_n 2, 1) := by decide +kernel
theorem dX5_turnRound_30 : decode cX5_turnRound 30 = .ok (.iaload, 1) := by decide +kernel
theorem dX5_turnRound_31 : decode cX5_turnRound 31 = .ok (.istore_n 3, 1) := by decide +kernel
theorem dX5_turnRound_32 : decode cX5_turnRound 32 = .ok (.aload_n 0, 1) := by decide +kernel
theorem dX5_turnRound_33 : decode cX5_turnRound 33 = .ok (.getfield 20, 3) := by decide +kernel
theorem dX5_turnRound_36 : decode cX5_turnRound 36 = .ok (.iload_n 2, 1) := by decide +kernel
theorem dX5_turnRound_37 : decode cX5_turnRound 37 = .ok (.aload_n 0, 1) := by decide +kernel
theorem dX5_turnRound_38 : decode cX5_turnRound 38 = .ok (.getfield 23, 3) := by decide +kernel
theorem dX5_turnRound_41 : decode cX5_turnRound 41 = .ok (.iload_n 2, 1) := by decide +kernel
theorem dX5_turnRound_42 : decode cX5_turnRound 42 = .ok (.iaload, 1) := by decide +kernel
theorem dX5_turnRound_43 : decode cX5_turnRound 43 = .ok (.iastore, 1) := by decide +kernel
theorem dX5_turnRound_44 : decode cX5_turnRound 44 = .ok (.aload_n 0, 1) := by decide +kernel
theorem dX5_turnRound_45 : decode cX5_turnRound 45 = .ok (.getfield 23, 3) := by decide +kernel
theorem dX5_turnRound_48 : decode cX5_turnRound 48 = .ok (.iload_n 2, 1) := by decide +kernel
theorem dX5_turnRound_49 : decode cX5_turnRound 49 = .ok (.iload_n 3, 1) := by decide +kernel
theorem dX5_turnRound_50 : decode cX5_turnRound 50 = .ok (.iastore, 1) := by decide +kernel
theorem dX5_turnRound_51 : decode cX5_turnRound 51 = .ok (.iinc 1 1, 3) := by decide +kernel
theorem dX5_turnRound_54 : decode cX5_turnRound 54 = .ok (.goto (-44), 3) := by decide +kernel
theorem dX5_turnRound_57 : decode cX5_turnRound 57 = .ok (.return_, 1) := by decide +kernel
theorem dX5_reverse_0 : decode cX5_reverse 0 = .ok (.aload_n 0, 1) := by decide +kernel
theorem dX5_reverse_1 : decode cX5_reverse 1 = .ok (.aload_n 0, 1) := by decide +kernel
theorem dX5_reverse_2 : decode cX5_reverse 2 = .ok (.iload_n 1, 1) := by decide +kernel
theorem dX5_reverse_3 : decode cX5_reverse 3 = .ok (.iload_n 2, 1) := by decide +kernel
theorem dX5_reverse_4 : decode cX5_reverse 4 = .ok (.invokevirtual 133, 3) := by decide +kernel
theorem dX5_reverse_7 : decode cX5_reverse 7 = .ok (.ifCond .eq 7, 3) := by decide +kernel
theorem dX5_reverse_10 : decode cX5_reverse 10 = .ok (.iconst 0, 1) := by decide +kernel
theorem dX5_reverse_11 : decode cX5_reverse 11 = .ok (.goto 4, 3) := by decide +kernel
theorem dX5_reverse_14 : decode cX5_reverse 14 = .ok (.iconst 1, 1) := by decide +kernel
theorem dX5_reverse_15 : decode cX5_reverse 15 = .ok (.invokevirtual 105, 3) := by decide +kernel
theorem dX5_reverse_18 : decode cX5_reverse 18 = .ok (.ifCond .ne 5, 3) := by decide +kernel
theorem dX5_reverse_21 : decode cX5_reverse 21 = .ok (.iconst 0, 1) := by decide +kernel
theorem dX5_reverse_22 : decode cX5_reverse 22 = .ok (.ireturn, 1) := by decide +kernel
theorem dX5_reverse_23 : decode cX5_reverse 23 = .ok (.aload_n 0, 1) := by decide +kernel
theorem dX5_reverse_24 : decode cX5_reverse 24 = .ok (.iload_n 1, 1) := by decide +kernel
theorem dX5_reverse_25 : decode cX5_reverse 25 = .ok (.iload_n 2, 1) := by decide +kernel
theorem dX5_reverse_26 : decode cX5_reverse 26 = .ok (.invokevirtual 137, 3) := by decide +kernel
theorem dX5_reverse_29 : decode cX5_reverse 29 = .ok (.aload_n 0, 1) := by decide +kernel
theorem dX5_reverse_30 : decode cX5_reverse 30 = .ok (.invokevirtual 140, 3) := by decide +kernel
theorem dX5_reverse_33 : decode cX5_reverse 33 = .ok (.aload_n 0, 1) := by decide +kernel
theorem dX5_reverse_34 : decode cX5_reverse 34 = .ok (.invokevirtual 143, 3) := by decide +kernel
theorem dX5_reverse_37 : decode cX5_reverse 37 = .ok (.iload_n 2, 1) := by decide +kernel
theorem dX5_reverse_38 : decode cX5_reverse 38 = .ok (.iload_n 1, 1) := by decide +kernel
theorem dX5_reverse_39 : decode cX5_reverse 39 = .ok (.isub, 1) := by decide +kernel
theorem dX5_reverse_40 : decode cX5_reverse 40 = .ok (.ireturn, 1) := by decide +kernel
theorem dX5_raise_0 : decode cX5_raise 0 = .ok (.aload_n 0, 1) := by decide +kernel
theorem dX5_raise_1 : decode cX5_raise 1 = .ok (.aload_n 0, 1) := by decide +kernel
theorem dX5_raise_2 : decode cX5_raise 2 = .ok (.iload_n 1, 1) := by decide +kernel
theorem dX5_raise_3 : decode cX5_raise 3 = .ok (.iload_n 2, 1) := by decide +kernel
theorem dX5_raise_4 : decode cX5_raise 4 = .ok (.invokevirtual 133, 3) := by decide +kernel
theorem dX5_raise_7 : decode cX5_raise 7 = .ok (.ifCond .ne 7, 3) := by decide +kernel
theorem dX5_raise_10 : decode cX5_raise 10 = .ok (.iconst 1, 1) := by decide +kernel
theorem dX5_raise_11 : decode cX5_raise 11 = .ok (.goto 15, 3) := by decide +kernel
theorem dX5_raise_14 : decode cX5_raise 14 = .ok (.iload_n 3, 1) := by decide +kernel
theorem dX5_raise_15 : decode cX5_raise 15 = .ok (.invokestatic 101, 3) := by decide +kernel
theorem dX5_raise_18 : decode cX5_raise 18 = .ok (.ifCond .ne 7, 3) := by decide +kernel
theorem dX5_raise_21 : decode cX5_raise 21 = .ok (.iconst 2, 1) := by decide +kernel
theorem dX5_raise_22 : decode cX5_raise 22 = .ok (.goto 4, 3) := by decide +kernel
theorem dX5_raise_25 : decode cX5_raise 25 = .ok (.iconst 0, 1) := by decide +kernel
theorem dX5_raise_26 : decode cX5_raise 26 = .ok (.invokevirtual 105, 3) := by decide +kernel
theorem dX5_raise_29 : decode cX5_raise 29 = .ok (.ifCond .ne 5, 3) := by decide +kernel
theorem dX5_raise_32 : decode cX5_raise 32 = .ok (.iconst 0, 1) := by decide +kernel
theorem dX5_raise_33 : decode cX5_raise 33 = .ok (.ireturn, 1) := by decide +kernel
theorem dX5_raise_34 : decode cX5_raise 34 = .ok (.aload_n 0, 1) := by decide +kernel
theorem dX5_raise_35 : decode cX5_raise 35 = .ok (.iload_n 1, 1) := by decide +kernel
theorem dX5_raise_36 : decode cX5_raise 36 = .ok (.iload_n 2, 1) := by decide +kernel
theorem dX5_raise_37 : decode cX5_raise 37 = .ok (.invokevirtual 137, 3) := by decide +kernel
theorem dX5_raise_40 : decode cX5_raise 40 = .ok (.aload_n 0, 1) := by decide +kernel
theorem dX5_raise_41 : decode cX5_raise 41 = .ok (.aload_n 0, 1) := by decide +kernel
theorem dX5_raise_42 : decode cX5_raise 42 = .ok (.getfield 127, 3) := by decide +kernel
theorem dX5_raise_45 : decode cX5_raise 45 = .ok (.invokevirtual 52, 3) := by decide +kernel
theorem dX5_raise_48 : decode cX5_raise 48 = .ok (.iconst 0, 1) := by decide +kernel
theorem dX5_raise_49 : decode cX5_raise 49 = .ok (.istore 4, 2) := by decide +kernel
theorem dX5_raise_51 : decode cX5_raise 51 = .ok (.iload 4, 2) := by decide +kernel
theorem dX5_raise_53 : decode cX5_raise 53 = .ok (.aload_n 0, 1) := by decide +kernel
theorem dX5_raise_54 : decode cX5_raise 54 = .ok (.getfield 46, 3) := by decide +kernel
theorem dX5_raise_57 : decode cX5_raise 57 = .ok (.if_icmp .ge 25, 3) := by decide +kernel
theorem dX5_raise_60 : decode cX5_raise 60 = .ok (.aload_n 0, 1) := by decide +kernel
theorem dX5_raise_61 : decode cX5_raise 61 = .ok (.getfield 16, 3) := by decide +kernel
theorem dX5_raise_64 : decode cX5_raise 64 = .ok (.aload_n 0, 1) := by decide +kernel
theorem dX5_raise_65 : decode cX5_raise 65 = .ok (.getfield 36, 3) := by decide +kernel
theorem dX5_raise_68 : decode cX5_raise 68 = .ok (.iload 4, 2) := by decide +kernel
theorem dX5_raise_70 : decode cX5_raise 70 = .ok (.iaload, 1) := by decide +kernel
theorem dX5_raise_71 : decode cX5_raise 71 = .ok (.dup2, 1) := by decide +kernel
theorem dX5_raise_72 : decode cX5_raise 72 = .ok (.iaload, 1) := by decide +kernel
theorem dX5_raise_73 : decode cX5_raise 73 = .ok (.iload_n 3, 1) := by decide +kernel
theorem dX5_raise_74 : decode cX5_raise 74 = .ok (.iadd, 1) := by decide +kernel
theorem dX5_raise_75 : decode cX5_raise 75 = .ok (.iastore, 1) := by decide +kernel
theorem dX5_raise_76 : decode cX5_raise 76 = .ok (.iinc 4 1, 3) := by decide +kernel
theorem dX5_raise_79 : decode cX5_raise 79 = .ok (.goto (-28), 3) := by decide +kernel
theorem dX5_raise_82 : decode cX5_raise 82 = .ok (.aload_n 0, 1) := by decide +kernel
theorem dX5_raise_83 : decode cX5_raise 83 = .ok (.invokevirtual 143, 3) := by decide +kernel
theorem dX5_raise_86 : decode cX5_raise 86 = .ok (.iload_n 2, 1) := by decide +kernel
theorem dX5_raise_87 : decode cX5_raise 87 = .ok (.iload_n 1, 1) := by decide +kernel
theorem dX5_raise_88 : decode cX5_raise 88 = .ok (.isub, 1) := by decide +kernel
theorem dX5_raise_89 : decode cX5_raise 89 = .ok (.ireturn, 1) := by decide +kernel
theorem dX5_sum_0 : decode cX5_sum 0 = .ok (.aload_n 0, 1) := by decide +kernel
theorem dX5_sum_1 : decode cX5_sum 1 = .ok (.aload_n 0, 1) := by decide +kernel
theorem dX5_sum_2 : decode cX5_sum 2 = .ok (.iload_n 1, 1) := by decide +kernel
theorem dX5_sum_3 : decode cX5_sum 3 = .ok (.iload_n 2, 1) := by decide +kernel
theorem dX5_sum_4 : decode cX5_sum 4 = .ok (.invokevirtual 133, 3) := by decide +kernel
theorem dX5_sum_7 : decode cX5_sum 7 = .ok (.ifCond .eq 7, 3) := by decide +kernel
theorem dX5_sum_10 : decode cX5_sum 10 = .ok (.iconst 0, 1) := by decide +kernel
theorem dX5_sum_11 : decode cX5_sum 11 = .ok (.goto 4, 3) := by decide +kernel
theorem dX5_sum_14 : decode cX5_sum 14 = .ok (.iconst 1, 1) := by decide +kernel
theorem dX5_sum_15 : decode cX5_sum 15 = .ok (.invokevirtual 105, 3) := by decide +kernel
theorem dX5_sum_18 : decode cX5_sum 18 = .ok (.ifCond .ne 5, 3) := by decide +kernel
theorem dX5_sum_21 : decode cX5_sum 21 = .ok (.iconst 0, 1) := by decide +kernel
theorem dX5_sum_22 : decode cX5_sum 22 = .ok (.ireturn, 1) := by decide +kernel
theorem dX5_sum_23 : decode cX5_sum 23 = .ok (.aload_n 0, 1) := by decide +kernel
theorem dX5_sum_24 : decode cX5_sum 24 = .ok (.iload_n 1, 1) := by decide +kernel
theorem dX5_sum_25 : decode cX5_sum 25 = .ok (.iload_n 2, 1) := by decide +kernel
theorem dX5_sum_26 : decode cX5_sum 26 = .ok (.invokevirtual 137, 3) := by decide +kernel
theorem dX5_sum_29 : decode cX5_sum 29 = .ok (.aload_n 0, 1) := by decide +kernel
theorem dX5_sum_30 : decode cX5_sum 30 = .ok (.aload_n 0, 1) := by decide +kernel
theorem dX5_sum_31 : decode cX5_sum 31 = .ok (.getfield 127, 3) := by decide +kernel
theorem dX5_sum_34 : decode cX5_sum 34 = .ok (.invokevirtual 52, 3) := by decide +kernel
theorem dX5_sum_37 : decode cX5_sum 37 = .ok (.iconst 0, 1) := by decide +kernel
theorem dX5_sum_38 : decode cX5_sum 38 = .ok (.istore_n 3, 1) := by decide +kernel
theorem dX5_sum_39 : decode cX5_sum 39 = .ok (.iconst 0, 1) := by decide +kernel
theorem dX5_sum_40 : decode cX5_sum 40 = .ok (.istore 4, 2) := by decide +kernel
theorem dX5_sum_42 : decode cX5_sum 42 = .ok (.iload 4, 2) := by decide +kernel
theorem dX5_sum_44 : decode cX5_sum 44 = .ok (.aload_n 0, 1) := by decide +kernel
theorem dX5_sum_45 : decode cX5_sum 45 = .ok (.getfield 46, 3) := by decide +kernel
theorem dX5_sum_48 : decode cX5_sum 48 = .ok (.if_icmp .ge 24, 3) := by decide +kernel
theorem dX5_sum_51 : decode cX5_sum 51 = .ok (.iload_n 3, 1) := by decide +kernel
theorem dX5_sum_52 : decode cX5_sum 52 = .ok (.aload_n 0, 1) := by decide +kernel
theorem dX5_sum_53 : decode cX5_sum 53 = .ok (.getfield 16, 3) := by decide +kernel
theorem dX5_sum_56 : decode cX5_sum 56 = .ok (.aload_n 0, 1) := by decide +kernel
theorem dX5_sum_57 : decode cX5_sum 57 = .ok (.getfield 36, 3) := by decide +kernel
theorem dX5_sum_60 : decode cX5_sum 60 = .ok (.iload 4, 2) := by decide +kernel
theorem dX5_sum_62 : decode cX5_sum 62 = .ok (.iaload, 1) := by decide +kernel
theorem dX5_sum_63 : decode cX5_sum 63 = .ok (.iaload, 1) := by decide +kernel
theorem dX5_sum_64 : decode cX5_sum 64 = .ok (.iadd, 1) := by decide +kernel
theorem dX5_sum_65 : decode cX5_sum 65 = .ok (.istore_n 3, 1) := by decide +kernel
theorem dX5_sum_66 : decode cX5_sum 66 = .ok (.iinc 4 1, 3) := by decide +kernel
theorem dX5_sum_69 : decode cX5_sum 69 = .ok (.goto (-27), 3) := by decide +kernel
theorem dX5_sum_72 : decode cX5_sum 72 = .ok (.aload_n 0, 1) := by decide +kernel
theorem dX5_sum_73 : decode cX5_sum 73 = .ok (.invokevirtual 143, 3) := by decide +kernel
theorem dX5_sum_76 : decode cX5_sum 76 = .ok (.iload_n 3, 1) := by decide +kernel
theorem dX5_sum_77 : decode cX5_sum 77 = .ok (.ireturn, 1) := by decide +kernel
theorem dX5_least_0 : decode cX5_least 0 = .ok (.aload_n 0, 1) := by decide +kernel
theorem dX5_least_1 : decode cX5_least 1 = .ok (.aload_n 0, 1) := by decide +kernel
theorem dX5_least_2 : decode cX5_least 2 = .ok (.iload_n 1, 1) := by decide +kernel
theorem dX5_least_3 : decode cX5_least 3 = .ok (.iload_n 2, 1) := by decide +kernel
theorem dX5_least_4 : decode cX5_least 4 = .ok (.invokevirtual 133, 3) := by decide +kernel
theorem dX5_least_7 : decode cX5_least 7 = .ok (.ifCond .ne 7, 3) := by decide +kernel
theorem dX5_least_10 : decode cX5_least 10 = .ok (.iconst 1, 1) := by decide +kernel
theorem dX5_least_11 : decode cX5_least 11 = .ok (.goto 13, 3) := by decide +kernel
theorem dX5_least_14 : decode cX5_least 14 = .ok (.iload_n 1, 1) := by decide +kernel
theorem dX5_least_15 : decode cX5_least 15 = .ok (.iload_n 2, 1) := by decide +kernel
theorem dX5_least_16 : decode cX5_least 16 = .ok (.if_icmp .ne 7, 3) := by decide +kernel
theorem dX5_least_19 : decode cX5_least 19 = .ok (.iconst 2, 1) := by decide +kernel
theorem dX5_least_20 : decode cX5_least 20 = .ok (.goto 4, 3) := by decide +kernel
theorem dX5_least_23 : decode cX5_least 23 = .ok (.iconst 0, 1) := by decide +kernel
theorem dX5_least_24 : decode cX5_least 24 = .ok (.invokevirtual 105, 3) := by decide +kernel
theorem dX5_least_27 : decode cX5_least 27 = .ok (.ifCond .ne 5, 3) := by decide +kernel
theorem dX5_least_30 : decode cX5_least 30 = .ok (.iconst 0, 1) := by decide +kernel
theorem dX5_least_31 : decode cX5_least 31 = .ok (.ireturn, 1) := by decide +kernel
theorem dX5_least_32 : decode cX5_least 32 = .ok (.aload_n 0, 1) := by decide +kernel
theorem dX5_least_33 : decode cX5_least 33 = .ok (.iload_n 1, 1) := by decide +kernel
theorem dX5_least_34 : decode cX5_least 34 = .ok (.iload_n 2, 1) := by decide +kernel
theorem dX5_least_35 : decode cX5_least 35 = .ok (.invokevirtual 137, 3) := by decide +kernel
theorem dX5_least_38 : decode cX5_least 38 = .ok (.aload_n 0, 1) := by decide +kernel
theorem dX5_least_39 : decode cX5_least 39 = .ok (.aload_n 0, 1) := by decide +kernel
theorem dX5_least_40 : decode cX5_least 40 = .ok (.getfield 127, 3) := by decide +kernel
theorem dX5_least_43 : decode cX5_least 43 = .ok (.invokevirtual 52, 3) := by decide +kernel
theorem dX5_least_46 : decode cX5_least 46 = .ok (.aload_n 0, 1) := by decide +kernel
theorem dX5_least_47 : decode cX5_least 47 = .ok (.getfield 16, 3) := by decide +kernel
theorem dX5_least_50 : decode cX5_least 50 = .ok (.aload_n 0, 1) := by decide +kernel
theorem dX5_least_51 : decode cX5_least 51 = .ok (.getfield 36, 3) := by decide +kernel
theorem dX5_least_54 : decode cX5_least 54 = .ok (.iconst 0, 1) := by decide +kernel
theorem dX5_least_55 : decode cX5_least 55 = .ok (.iaload, 1) := by decide +kernel
theorem dX5_least_56 : decode cX5_least 56 = .ok (.iaload, 1) := by decide +kernel
theorem dX5_least_57 : decode cX5_least 57 = .ok (.istore_n 3, 1) := by decide +kernel
theorem dX5_least_58 : decode cX5_least 58 = .ok (.iconst 1, 1) := by decide +kernel
theorem dX5_least_59 : decode cX5_least 59 = .ok (.istore 4, 2) := by decide +kernel
theorem dX5_least_61 : decode cX5_least 61 = .ok (.iload 4, 2) := by decide +kernel
theorem dX5_least_63 : decode cX5_least 63 = .ok (.aload_n 0, 1) := by decide +kernel
theorem dX5_least_64 : decode cX5_least 64 = .ok (.getfield 46, 3) := by decide +kernel
theorem dX5_least_67 : decode cX5_least 67 = .ok (.if_icmp .ge 42, 3) := by decide +kernel
theorem dX5_least_70 : decode cX5_least 70 = .ok (.aload_n 0, 1) := by decide +kernel
theorem dX5_least_71 : decode cX5_least 71 = .ok (.getfield 16, 3) := by decide +kernel
theorem dX5_least_74 : decode cX5_least 74 = .ok (.aload_n 0, 1) := by decide +kernel
theorem dX5_least_75 : decode cX5_least 75 = .ok (.getfield 36, 3) := by decide +kernel
theorem dX5_least_78 : decode cX5_least 78 = .ok (.iload 4, 2) := by decide +kernel
theorem dX5_least_80 : decode cX5_least 80 = .ok (.iaload, 1) := by decide +kernel
theorem dX5_least_81 : decode cX5_least 81 = .ok (.iaload, 1) := by decide +kernel
theorem dX5_least_82 : decode cX5_least 82 = .ok (.iload_n 3, 1) := by decide +kernel
theorem dX5_least_83 : decode cX5_least 83 = .ok (.if_icmp .ge 18, 3) := by decide +kernel
theorem dX5_least_86 : decode cX5_least 86 = .ok (.aload_n 0, 1) := by decide +kernel
theorem dX5_least_87 : decode cX5_least 87 = .ok (.getfield 16, 3) := by decide +kernel
theorem dX5_least_90 : decode cX5_least 90 = .ok (.aload_n 0, 1) := by decide +kernel
theorem dX5_least_91 : decode cX5_least 91 = .ok (.getfield 36, 3) := by decide +kernel
theorem dX5_least_94 : decode cX5_least 94 = .ok (.iload 4, 2) := by decide +kernel
theorem dX5_least_96 : decode cX5_least 96 = .ok (.iaload, 1) := by decide +kernel
theorem dX5_least_97 : decode cX5_least 97 = .ok (.iaload, 1) := by decide +kernel
theorem dX5_least_98 : decode cX5_least 98 = .ok (.goto 4, 3) := by decide +kernel
theorem dX5_least_101 : decode cX5_least 101 = .ok (.iload_n 3, 1) := by decide +kernel
theorem dX5_least_102 : decode cX5_least 102 = .ok (.istore_n 3, 1) := by decide +kernel
theorem dX5_least_103 : decode cX5_least 103 = .ok (.iinc 4 1, 3) := by decide +kernel
theorem dX5_least_106 : decode cX5_least 106 = .ok (.goto (-45), 3) := by decide +kernel
theorem dX5_least_109 : decode cX5_least 109 = .ok (.aload_n 0, 1) := by decide +kernel
theorem dX5_least_110 : decode cX5_least 110 = .ok (.invokevirtual 143, 3) := by decide +kernel
theorem dX5_least_113 : decode cX5_least 113 = .ok (.iload_n 3, 1) := by decide +kernel
theorem dX5_least_114 : decode cX5_least 114 = .ok (.ireturn, 1) := by decide +kernel
theorem dX5_cut_0 : decode cX5_cut 0 = .ok (.aload_n 0, 1) := by decide +kernel
theorem dX5_cut_1 : decode cX5_cut 1 = .ok (.aload_n 0, 1) := by decide +kernel
theorem dX5_cut_2 : decode cX5_cut 2 = .ok (.iload_n 1, 1) := by decide +kernel
theorem dX5_cut_3 : decode cX5_cut 3 = .ok (.iload_n 2, 1) := by decide +kernel
theorem dX5_cut_4 : decode cX5_cut 4 = .ok (.invokevirtual 133, 3) := by decide +kernel
theorem dX5_cut_7 : decode cX5_cut 7 = .ok (.ifCond .ne 7, 3) := by decide +kernel
theorem dX5_cut_10 : decode cX5_cut 10 = .ok (.iconst 1, 1) := by decide +kernel
theorem dX5_cut_11 : decode cX5_cut 11 = .ok (.goto 16, 3) := by decide +kernel
theorem dX5_cut_14 : decode cX5_cut 14 = .ok (.aload_n 0, 1) := by decide +kernel
theorem dX5_cut_15 : decode cX5_cut 15 = .ok (.getfield 13, 3) := by decide +kernel
theorem dX5_cut_18 : decode cX5_cut 18 = .ok (.iconst (-1), 1) := by decide +kernel
theorem dX5_cut_19 : decode cX5_cut 19 = .ok (.if_icmp .eq 7, 3) := by decide +kernel
theorem dX5_cut_22 : decode cX5_cut 22 = .ok (.iconst 2, 1) := by decide +kernel
theorem dX5_cut_23 : decode cX5_cut 23 = .ok (.goto 4, 3) := by decide +kernel
theorem dX5_cut_26 : decode cX5_cut 26 = .ok (.iconst 0, 1) := by decide +kernel
theorem dX5_cut_27 : decode cX5_cut 27 = .ok (.invokevirtual 105, 3) := by decide +kernel
theorem dX5_cut_30 : decode cX5_cut 30 = .ok (.ifCond .ne 5, 3) := by decide +kernel
theorem dX5_cut_33 : decode cX5_cut 33 = .ok (.iconst 0, 1) := by decide +kernel
theorem dX5_cut_34 : decode cX5_cut 34 = .ok (.ireturn, 1) := by decide +kernel
theorem dX5_cut_35 : decode cX5_cut 35 = .ok (.aload_n 0, 1) := by decide +kernel
theorem dX5_cut_36 : decode cX5_cut 36 = .ok (.iload_n 1, 1) := by decide +kernel
theorem dX5_cut_37 : decode cX5_cut 37 = .ok (.iload_n 2, 1) := by decide +kernel
theorem dX5_cut_38 : decode cX5_cut 38 = .ok (.invokevirtual 137, 3) := by decide +kernel
theorem dX5_cut_41 : decode cX5_cut 41 = .ok (.aload_n 0, 1) := by decide +kernel
theorem dX5_cut_42 : decode cX5_cut 42 = .ok (.aload_n 0, 1) := by decide +kernel
theorem dX5_cut_43 : decode cX5_cut 43 = .ok (.getfield 127, 3) := by decide +kernel
theorem dX5_cut_46 : decode cX5_cut 46 = .ok (.putfield 13, 3) := by decide +kernel
theorem dX5_cut_49 : decode cX5_cut 49 = .ok (.aload_n 0, 1) := by decide +kernel
theorem dX5_cut_50 : decode cX5_cut 50 = .ok (.aload_n 0, 1) := by decide +kernel
theorem dX5_cut_51 : decode cX5_cut 51 = .ok (.aload_n 0, 1) := by decide +kernel
theorem dX5_cut_52 : decode cX5_cut 52 = .ok (.getfield 124, 3) := by decide +kernel
theorem dX5_cut_55 : decode cX5_cut 55 = .ok (.aload_n 0, 1) := by decide +kernel
theorem dX5_cut_56 : decode cX5_cut 56 = .ok (.getfield 130, 3) := by decide +kernel
theorem dX5_cut_59 : decode cX5_cut 59 = .ok (.invokevirtual 118, 3) := by decide +kernel
theorem dX5_cut_62 : decode cX5_cut 62 = .ok (.putfield 9, 3) := by decide +kernel
theorem dX5_cut_65 : decode cX5_cut 65 = .ok (.iload_n 2, 1) := by decide +kernel
theorem dX5_cut_66 : decode cX5_cut 66 = .ok (.iload_n 1, 1) := by decide +kernel
theorem dX5_cut_67 : decode cX5_cut 67 = .ok (.isub, 1) := by decide +kernel
theorem dX5_cut_68 : decode cX5_cut 68 = .ok (.ireturn, 1) := by decide +kernel
theorem dX5_paste_0 : decode cX5_paste 0 = .ok (.aload_n 0, 1) := by decide +kernel
theorem dX5_paste_1 : decode cX5_paste 1 = .ok (.iload_n 1, 1) := by decide +kernel
theorem dX5_paste_2 : decode cX5_paste 2 = .ok (.ifCond .lt 11, 3) := by decide +kernel
theorem dX5_paste_5 : decode cX5_paste 5 = .ok (.iload_n 1, 1) := by decide +kernel
theorem dX5_paste_6 : decode cX5_paste 6 = .ok (.aload_n 0, 1) := by decide +kernel
theorem dX5_paste_7 : decode cX5_paste 7 = .ok (.invokevirtual 97, 3) := by decide +kernel
theorem dX5_paste_10 : decode cX5_paste 10 = .ok (.if_icmp .le 7, 3) := by decide +kernel
theorem dX5_paste_13 : decode cX5_paste 13 = .ok (.iconst 1, 1) := by decide +kernel
theorem dX5_paste_14 : decode cX5_paste 14 = .ok (.goto 4, 3) := by decide +kernel
theorem dX5_paste_17 : decode cX5_paste 17 = .ok (.iconst 0, 1) := by decide +kernel
theorem dX5_paste_18 : decode cX5_paste 18 = .ok (.invokevirtual 105, 3) := by decide +kernel
theorem dX5_paste_21 : decode cX5_paste 21 = .ok (.ifCond .ne 5, 3) := by decide +kernel
theorem dX5_paste_24 : decode cX5_paste 24 = .ok (.iconst 0, 1) := by decide +kernel
theorem dX5_paste_25 : decode cX5_paste 25 = .ok (.ireturn, 1) := by decide +kernel
theorem dX5_paste_26 : decode cX5_paste 26 = .ok (.aload_n 0, 1) := by decide +kernel
theorem dX5_paste_27 : decode cX5_paste 27 = .ok (.invokevirtual 108, 3) := by decide +kernel
theorem dX5_paste_30 : decode cX5_paste 30 = .ok (.aload_n 0, 1) := by decide +kernel
theorem dX5_paste_31 : decode cX5_paste 31 = .ok (.aload_n 0, 1) := by decide +kernel
theorem dX5_paste_32 : decode cX5_paste 32 = .ok (.getfield 13, 3) := by decide +kernel
theorem dX5_paste_35 : decode cX5_paste 35 = .ok (.invokevirtual 78, 3) := by decide +kernel
theorem dX5_paste_38 : decode cX5_paste 38 = .ok (.istore_n 2, 1) := by decide +kernel
theorem dX5_paste_39 : decode cX5_paste 39 = .ok (.iload_n 2, 1) := by decide +kernel
theorem dX5_paste_40 : decode cX5_paste 40 = .ok (.ifCond .le 43, 3) := by decide +kernel
theorem dX5_paste_43 : decode cX5_paste 43 = .ok (.aload_n 0, 1) := by decide +kernel
theorem dX5_paste_44 : decode cX5_paste 44 = .ok (.aload_n 0, 1) := by decide +kernel
theorem dX5_paste_45 : decode cX5_paste 45 = .ok (.getfield 9, 3) := by decide +kernel
theorem dX5_paste_48 : decode cX5_paste 48 = .ok (.iload_n 1, 1) := by decide +kernel
theorem dX5_paste_49 : decode cX5_paste 49 = .ok (.invokevirtual 111, 3) := by decide +kernel
theorem dX5_paste_52 : decode cX5_paste 52 = .ok (.aload_n 0, 1) := by decide +kernel
theorem dX5_paste_53 : decode cX5_paste 53 = .ok (.getfield 84, 3) := by decide +kernel
theorem dX5_paste_56 : decode cX5_paste 56 = .ok (.istore_n 3, 1) := by decide +kernel
theorem dX5_paste_57 : decode cX5_paste 57 = .ok (.aload_n 0, 1) := by decide +kernel
theorem dX5_paste_58 : decode cX5_paste 58 = .ok (.aload_n 0, 1) := by decide +kernel
theorem dX5_paste_59 : decode cX5_paste 59 = .ok (.aload_n 0, 1) := by decide +kernel
theorem dX5_paste_60 : decode cX5_paste 60 = .ok (.aload_n 0, 1) := by decide +kernel
theorem dX5_paste_61 : decode cX5_paste 61 = .ok (.getfield 81, 3) := by decide +kernel
theorem dX5_paste_64 : decode cX5_paste 64 = .ok (.aload_n 0, 1) := by decide +kernel
theorem dX5_paste_65 : decode cX5_paste 65 = .ok (.getfield 13, 3) := by decide +kernel
theorem dX5_paste_68 : decode cX5_paste 68 = .ok (.invokevirtual 118, 3) := by decide +kernel
theorem dX5_paste_71 : decode cX5_paste 71 = .ok (.iload_n 3, 1) := by decide +kernel
theorem dX5_paste_72 : decode cX5_paste 72 = .ok (.invokevirtual 118, 3) := by decide +kernel
theorem dX5_paste_75 : decode cX5_paste 75 = .ok (.putfield 9, 3) := by decide +kernel
theorem dX5_paste_78 : decode cX5_paste 78 = .ok (.aload_n 0, 1) := by decide +kernel
theorem dX5_paste_79 : decode cX5_paste 79 = .ok (.iconst (-1), 1) := by decide +kernel
theorem dX5_paste_80 : decode cX5_paste 80 = .ok (.putfield 13, 3) := by decide +kernel
theorem dX5_paste_83 : decode cX5_paste 83 = .ok (.iload_n 2, 1) := by decide +kernel
theorem dX5_paste_84 : decode cX5_paste 84 = .ok (.ireturn, 1) := by decide +kernel
theorem dX5_point_0 : decode cX5_point 0 = .ok (.aload_n 0, 1) := by decide +kernel
theorem dX5_point_1 : decode cX5_point 1 = .ok (.iload_n 1, 1) := by decide +kernel
theorem dX5_point_2 : decode cX5_point 2 = .ok (.invokestatic 146, 3) := by decide +kernel
theorem dX5_point_5 : decode cX5_point 5 = .ok (.ifCond .eq 15, 3) := by decide +kernel
theorem dX5_point_8 : decode cX5_point 8 = .ok (.aload_n 0, 1) := by decide +kernel
theorem dX5_point_9 : decode cX5_point 9 = .ok (.iload_n 2, 1) := by decide +kernel
theorem dX5_point_10 : decode cX5_point 10 = .ok (.invokevirtual 115, 3) := by decide +kernel
theorem dX5_point_13 : decode cX5_point 13 = .ok (.ifCond .eq 7, 3) := by decide +kernel
theorem dX5_point_16 : decode cX5_point 16 = .ok (.iconst 0, 1) := by decide +kernel
theorem dX5_point_17 : decode cX5_point 17 = .ok (.goto 4, 3) := by decide +kernel
theorem dX5_point_20 : decode cX5_point 20 = .ok (.iconst 1, 1) := by decide +kernel
theorem dX5_point_21 : decode cX5_point 21 = .ok (.invokevirtual 105, 3) := by decide +kernel
theorem dX5_point_24 : decode cX5_point 24 = .ok (.ifCond .ne 5, 3) := by decide +kernel
theorem dX5_point_27 : decode cX5_point 27 = .ok (.iconst 0, 1) := by decide +kernel
theorem dX5_point_28 : decode cX5_point 28 = .ok (.ireturn, 1) := by decide +kernel
theorem dX5_point_29 : decode cX5_point 29 = .ok (.aload_n 0, 1) := by decide +kernel
theorem dX5_point_30 : decode cX5_point 30 = .ok (.invokevirtual 108, 3) := by decide +kernel
theorem dX5_point_33 : decode cX5_point 33 = .ok (.aload_n 0, 1) := by decide +kernel
theorem dX5_point_34 : decode cX5_point 34 = .ok (.getfield 33, 3) := by decide +kernel
theorem dX5_point_37 : decode cX5_point 37 = .ok (.iload_n 1, 1) := by decide +kernel
theorem dX5_point_38 : decode cX5_point 38 = .ok (.aload_n 0, 1) := by decide +kernel
theorem dX5_point_39 : decode cX5_point 39 = .ok (.iload_n 2, 1) := by decide +kernel
theorem dX5_point_40 : decode cX5_point 40 = .ok (.invokevirtual 121, 3) := by decide +kernel
theorem dX5_point_43 : decode cX5_point 43 = .ok (.iastore, 1) := by decide +kernel
theorem dX5_point_44 : decode cX5_point 44 = .ok (.aload_n 0, 1) := by decide +kernel
theorem dX5_point_45 : decode cX5_point 45 = .ok (.getfield 16, 3) := by decide +kernel
theorem dX5_point_48 : decode cX5_point 48 = .ok (.aload_n 0, 1) := by decide +kernel
theorem dX5_point_49 : decode cX5_point 49 = .ok (.getfield 33, 3) := by decide +kernel
theorem dX5_point_52 : decode cX5_point 52 = .ok (.iload_n 1, 1) := by decide +kernel
theorem dX5_point_53 : decode cX5_point 53 = .ok (.iaload, 1) := by decide +kernel
theorem dX5_point_54 : decode cX5_point 54 = .ok (.iaload, 1) := by decide +kernel
theorem dX5_point_55 : decode cX5_point 55 = .ok (.ireturn, 1) := by decide +kernel
theorem dX5_isInSequence_0 : decode cX5_isInSequence 0 = .ok (.iload_n 1, 1) := by decide +kernel
theorem dX5_isInSequence_1 : decode cX5_isInSequence 1 = .ok (.iconst (-1), 1) := by decide +kernel
theorem dX5_isInSequence_2 : decode cX5_isInSequence 2 = .ok (.if_icmp .eq 19, 3) := by decide +kernel
theorem dX5_isInSequence_5 : decode cX5_isInSequence 5 = .ok (.aload_n 0, 1) := by decide +kernel
theorem dX5_isInSequence_6 : decode cX5_isInSequence 6 = .ok (.iload_n 1, 1) := by decide +kernel
theorem dX5_isInSequence_7 : decode cX5_isInSequence 7 = .ok (.invokevirtual 56, 3) := by decide +kernel
theorem dX5_isInSequence_10 : decode cX5_isInSequence 10 = .ok (.aload_n 0, 1) := by decide +kernel
theorem dX5_isInSequence_11 : decode cX5_isInSequence 11 = .ok (.getfield 9, 3) := by decide +kernel
theorem dX5_isInSequence_14 : decode cX5_isInSequence 14 = .ok (.if_icmp .ne 7, 3) := by decide +kernel
theorem dX5_isInSequence_17 : decode cX5_isInSequence 17 = .ok (.iconst 1, 1) := by decide +kernel
theorem dX5_isInSequence_18 : decode cX5_isInSequence 18 = .ok (.goto 4, 3) := by decide +kernel
theorem dX5_isInSequence_21 : decode cX5_isInSequence 21 = .ok (.iconst 0, 1) := by decide +kernel
theorem dX5_isInSequence_22 : decode cX5_isInSequence 22 = .ok (.ireturn, 1) := by decide +kernel
theorem dX5_follow_0 : decode cX5_follow 0 = .ok (.aload_n 0, 1) := by decide +kernel
theorem dX5_follow_1 : decode cX5_follow 1 = .ok (.iload_n 1, 1) := by decide +kernel
theorem dX5_follow_2 : decode cX5_follow 2 = .ok (.invokestatic 146, 3) := by decide +kernel
theorem dX5_follow_5 : decode cX5_follow 5 = .ok (.ifCond .eq 7, 3) := by decide +kernel
theorem dX5_follow_8 : decode cX5_follow 8 = .ok (.iconst 0, 1) := by decide +kernel
theorem dX5_follow_9 : decode cX5_follow 9 = .ok (.goto 4, 3) := by decide +kernel
theorem dX5_follow_12 : decode cX5_follow 12 = .ok (.iconst 1, 1) := by decide +kernel
theorem dX5_follow_13 : decode cX5_follow 13 = .ok (.invokevirtual 105, 3) := by decide +kernel
theorem dX5_follow_16 : decode cX5_follow 16 = .ok (.ifCond .ne 5, 3) := by decide +kernel
theorem dX5_follow_19 : decode cX5_follow 19 = .ok (.iconst 0, 1) := by decide +kernel
theorem dX5_follow_20 : decode cX5_follow 20 = .ok (.ireturn, 1) := by decide +kernel
theorem dX5_follow_21 : decode cX5_follow 21 = .ok (.aload_n 0, 1) := by decide +kernel
theorem dX5_follow_22 : decode cX5_follow 22 = .ok (.invokevirtual 108, 3) := by decide +kernel
theorem dX5_follow_25 : decode cX5_follow 25 = .ok (.aload_n 0, 1) := by decide +kernel
theorem dX5_follow_26 : decode cX5_follow 26 = .ok (.aload_n 0, 1) := by decide +kernel
theorem dX5_follow_27 : decode cX5_follow 27 = .ok (.getfield 33, 3) := by decide +kernel
theorem dX5_follow_30 : decode cX5_follow 30 = .ok (.iload_n 1, 1) := by decide +kernel
theorem dX5_follow_31 : decode cX5_follow 31 = .ok (.iaload, 1) := by decide +kernel
theorem dX5_follow_32 : decode cX5_follow 32 = .ok (.invokevirtual 149, 3) := by decide +kernel
theorem dX5_follow_35 : decode cX5_follow 35 = .ok (.ifCond .eq 24, 3) := by decide +kernel
theorem dX5_follow_38 : decode cX5_follow 38 = .ok (.aload_n 0, 1) := by decide +kernel
theorem dX5_follow_39 : decode cX5_follow 39 = .ok (.aload_n 0, 1) := by decide +kernel
theorem dX5_follow_40 : decode cX5_follow 40 = .ok (.aload_n 0, 1) := by decide +kernel
theorem dX5_follow_41 : decode cX5_follow 41 = .ok (.aload_n 0, 1) := by decide +kernel
theorem dX5_follow_42 : decode cX5_follow 42 = .ok (.getfield 33, 3) := by decide +kernel
theorem dX5_follow_45 : decode cX5_follow 45 = .ok (.iload_n 1, 1) := by decide +kernel
theorem dX5_follow_46 : decode cX5_follow 46 = .ok (.iaload, 1) := by decide +kernel
theorem dX5_follow_47 : decode cX5_follow 47 = .ok (.invokevirtual 152, 3) := by decide +kernel
theorem dX5_follow_50 : decode cX5_follow 50 = .ok (.invokevirtual 121, 3) := by decide +kernel
theorem dX5_follow_53 : decode cX5_follow 53 = .ok (.invokevirtual 152, 3) := by decide +kernel
theorem dX5_follow_56 : decode cX5_follow 56 = .ok (.goto 4, 3) := by decide +kernel
theorem dX5_follow_59 : decode cX5_follow 59 = .ok (.iconst (-1), 1) := by decide +kernel
theorem dX5_follow_60 : decode cX5_follow 60 = .ok (.ireturn, 1) := by decide +kernel
theorem dX5_canMove_0 : decode cX5_canMove 0 = .ok (.aload_n 0, 1) := by decide +kernel
theorem dX5_canMove_1 : decode cX5_canMove 1 = .ok (.aload_n 0, 1) := by decide +kernel
theorem dX5_canMove_2 : decode cX5_canMove 2 = .ok (.getfield 33, 3) := by decide +kernel
theorem dX5_canMove_5 : decode cX5_canMove 5 = .ok (.iload_n 1, 1) := by decide +kernel
theorem dX5_canMove_6 : decode cX5_canMove 6 = .ok (.iaload, 1) := by decide +kernel
theorem dX5_canMove_7 : decode cX5_canMove 7 = .ok (.invokevirtual 149, 3) := by decide +kernel
theorem dX5_canMove_10 : decode cX5_canMove 10 = .ok (.istore_n 3, 1) := by decide +kernel
theorem dX5_canMove_11 : decode cX5_canMove 11 = .ok (.iload_n 3, 1) := by decide +kernel
theorem dX5_canMove_12 : decode cX5_canMove 12 = .ok (.ifCond .eq 20, 3) := by decide +kernel
theorem dX5_canMove_15 : decode cX5_canMove 15 = .ok (.aload_n 0, 1) := by decide +kernel
theorem dX5_canMove_16 : decode cX5_canMove 16 = .ok (.aload_n 0, 1) := by decide +kernel
theorem dX5_canMove_17 : decode cX5_canMove 17 = .ok (.getfield 33, 3) := by decide +kernel
theorem dX5_canMove_20 : decode cX5_canMove 20 = .ok (.iload_n 1, 1) := by decide +kernel
theorem dX5_canMove_21 : decode cX5_canMove 21 = .ok (.iaload, 1) := by decide +kernel
theorem dX5_canMove_22 : decode cX5_canMove 22 = .ok (.invokevirtual 152, 3) := by decide +kernel
theorem dX5_canMove_25 : decode cX5_canMove 25 = .ok (.i2l, 1) := by decide +kernel
theorem dX5_canMove_26 : decode cX5_canMove 26 = .ok (.iload_n 2, 1) := by decide +kernel
theorem dX5_canMove_27 : decode cX5_canMove 27 = .ok (.i2l, 1) := by decide +kernel
theorem dX5_canMove_28 : decode cX5_canMove 28 = .ok (.ladd, 1) := by decide +kernel
theorem dX5_canMove_29 : decode cX5_canMove 29 = .ok (.goto 6, 3) := by decide +kernel
theorem dX5_canMove_32 : decode cX5_canMove 32 = .ok (.ldc2_w 155, 3) := by decide +kernel
theorem dX5_canMove_35 : decode cX5_canMove 35 = .ok (.lstore 4, 2) := by decide +kernel
theorem dX5_canMove_37 : decode cX5_canMove 37 = .ok (.iload_n 3, 1) := by decide +kernel
theorem dX5_canMove_38 : decode cX5_canMove 38 = .ok (.ifCond .eq 25, 3) := by decide +kernel
theorem dX5_canMove_41 : decode cX5_canMove 41 = .ok (.lload 4, 2) := by decide +kernel
theorem dX5_canMove_43 : decode cX5_canMove 43 = .ok (.lconst 0, 1) := by decide +kernel
theorem dX5_canMove_44 : decode cX5_canMove 44 = .ok (.lcmp, 1) := by decide +kernel
theorem dX5_canMove_45 : decode cX5_canMove 45 = .ok (.ifCond .lt 18, 3) := by decide +kernel
theorem dX5_canMove_48 : decode cX5_canMove 48 = .ok (.lload 4, 2) := by decide +kernel
theorem dX5_canMove_50 : decode cX5_canMove 50 = .ok (.aload_n 0, 1) := by decide +kernel
theorem dX5_canMove_51 : decode cX5_canMove 51 = .ok (.invokevirtual 97, 3) := by decide +kernel
theorem dX5_canMove_54 : decode cX5_canMove 54 = .ok (.i2l, 1) := by decide +kernel
theorem dX5_canMove_55 : decode cX5_canMove 55 = .ok (.lcmp, 1) := by decide +kernel
theorem dX5_canMove_56 : decode cX5_canMove 56 = .ok (.ifCond .ge 7, 3) := by decide +kernel
theorem dX5_canMove_59 : decode cX5_canMove 59 = .ok (.iconst 1, 1) := by decide +kernel
theorem dX5_canMove_60 : decode cX5_canMove 60 = .ok (.goto 4, 3) := by decide +kernel
theorem dX5_canMove_63 : decode cX5_canMove 63 = .ok (.iconst 0, 1) := by decide +kernel
theorem dX5_canMove_64 : decode cX5_canMove 64 = .ok (.ireturn, 1) := by decide +kernel
theorem dX5_move_0 : decode cX5_move 0 = .ok (.aload_n 0, 1) := by decide +kernel
theorem dX5_move_1 : decode cX5_move 1 = .ok (.iload_n 1, 1) := by decide +kernel
theorem dX5_move_2 : decode cX5_move 2 = .ok (.invokestatic 146, 3) := by decide +kernel
theorem dX5_move_5 : decode cX5_move 5 = .ok (.ifCond .ne 7, 3) := by decide +kernel
theorem dX5_move_8 : decode cX5_move 8 = .ok (.iconst 1, 1) := by decide +kernel
theorem dX5_move_9 : decode cX5_move 9 = .ok (.goto 17, 3) := by decide +kernel
theorem dX5_move_12 : decode cX5_move 12 = .ok (.aload_n 0, 1) := by decide +kernel
theorem dX5_move_13 : decode cX5_move 13 = .ok (.iload_n 1, 1) := by decide +kernel
theorem dX5_move_14 : decode cX5_move 14 = .ok (.iload_n 2, 1) := by decide +kernel
theorem dX5_move_15 : decode cX5_move 15 = .ok (.invokevirtual 157, 3) := by decide +kernel
theorem dX5_move_18 : decode cX5_move 18 = .ok (.ifCond .eq 7, 3) := by decide +kernel
theorem dX5_move_21 : decode cX5_move 21 = .ok (.iconst 0, 1) := by decide +kernel
theorem dX5_move_22 : decode cX5_move 22 = .ok (.goto 4, 3) := by decide +kernel
theorem dX5_move_25 : decode cX5_move 25 = .ok (.iconst 2, 1) := by decide +kernel
theorem dX5_move_26 : decode cX5_move 26 = .ok (.invokevirtual 105, 3) := by decide +kernel
theorem dX5_move_29 : decode cX5_move 29 = .ok (.ifCond .ne 5, 3) := by decide +kernel
theorem dX5_move_32 : decode cX5_move 32 = .ok (.iconst 0, 1) := by decide +kernel
theorem dX5_move_33 : decode cX5_move 33 = .ok (.ireturn, 1) := by decide +kernel
theorem dX5_move_34 : decode cX5_move 34 = .ok (.aload_n 0, 1) := by decide +kernel
theorem dX5_move_35 : decode cX5_move 35 = .ok (.invokevirtual 108, 3) := by decide +kernel
theorem dX5_move_38 : decode cX5_move 38 = .ok (.aload_n 0, 1) := by decide +kernel
theorem dX5_move_39 : decode cX5_move 39 = .ok (.aload_n 0, 1) := by decide +kernel
theorem dX5_move_40 : decode cX5_move 40 = .ok (.getfield 33, 3) := by decide +kernel
theorem dX5_move_43 : decode cX5_move 43 = .ok (.iload_n 1, 1) := by decide +kernel
theorem dX5_move_44 : decode cX5_move 44 = .ok (.iaload, 1) := by decide +kernel
theorem dX5_move_45 : decode cX5_move 45 = .ok (.invokevirtual 152, 3) := by decide +kernel
theorem dX5_move_48 : decode cX5_move 48 = .ok (.istore_n 3, 1) := by decide +kernel
theorem dX5_move_49 : decode cX5_move 49 = .ok (.aload_n 0, 1) := by decide +kernel
theorem dX5_move_50 : decode cX5_move 50 = .ok (.iload_n 3, 1) := by decide +kernel
theorem dX5_move_51 : decode cX5_move 51 = .ok (.invokevirtual 121, 3) := by decide +kernel
theorem dX5_move_54 : decode cX5_move 54 = .ok (.istore 4, 2) := by decide +kernel
theorem dX5_move_56 : decode cX5_move 56 = .ok (.aload_n 0, 1) := by decide +kernel
theorem dX5_move_57 : decode cX5_move 57 = .ok (.getfield 33, 3) := by decide +kernel
theorem dX5_move_60 : decode cX5_move 60 = .ok (.iload_n 1, 1) := by decide +kernel
theorem dX5_move_61 : decode cX5_move 61 = .ok (.aload_n 0, 1) := by decide +kernel
theorem dX5_move_62 : decode cX5_move 62 = .ok (.iload_n 3, 1) := by decide +kernel
theorem dX5_move_63 : decode cX5_move 63 = .ok (.iload_n 2, 1) := by decide +kernel
theorem dX5_move_64 : decode cX5_move 64 = .ok (.iadd, 1) := by decide +kernel
theorem dX5_move_65 : decode cX5_move 65 = .ok (.invokevirtual 121, 3) := by decide +kernel
theorem dX5_move_68 : decode cX5_move 68 = .ok (.iastore, 1) := by decide +kernel
theorem dX5_move_69 : decode cX5_move 69 = .ok (.iload_n 3, 1) := by decide +kernel
theorem dX5_move_70 : decode cX5_move 70 = .ok (.iload_n 2, 1) := by decide +kernel
theorem dX5_move_71 : decode cX5_move 71 = .ok (.iadd, 1) := by decide +kernel
theorem dX5_move_72 : decode cX5_move 72 = .ok (.ireturn, 1) := by decide +kernel
theorem dX5_lastSteps_0 : decode cX5_lastSteps 0 = .ok (.aload_n 0, 1) := by decide +kernel
theorem dX5_lastSteps_1 : decode cX5_lastSteps 1 = .ok (.iconst 0, 1) := by decide +kernel
theorem dX5_lastSteps_2 : decode cX5_lastSteps 2 = .ok (.putfield 39, 3) := by decide +kernel
theorem dX5_lastSteps_5 : decode cX5_lastSteps 5 = .ok (.aload_n 0, 1) := by decide +kernel
theorem dX5_lastSteps_6 : decode cX5_lastSteps 6 = .ok (.getfield 72, 3) := by decide +kernel
theorem dX5_lastSteps_9 : decode cX5_lastSteps 9 = .ok (.ireturn, 1) := by decide +kernel
theorem dX5_lastRotations_0 : decode cX5_lastRotations 0 = .ok (.aload_n 0, 1) := by decide +kernel
theorem dX5_lastRotations_1 : decode cX5_lastRotations 1 = .ok (.iconst 0, 1) := by decide +kernel
theorem dX5_lastRotations_2 : decode cX5_lastRotations 2 = .ok (.putfield 39, 3) := by decide +kernel
theorem dX5_lastRotations_5 : decode cX5_lastRotations 5 = .ok (.aload_n 0, 1) := by decide +kernel
theorem dX5_lastRotations_6 : decode cX5_lastRotations 6 = .ok (.getfield 63, 3) := by decide +kernel
theorem dX5_lastRotations_9 : decode cX5_lastRotations 9 = .ok (.ireturn, 1) := by decide +kernel
theorem dX5_steps_0 : decode cX5_steps 0 = .ok (.aload_n 0, 1) := by decide +kernel
theorem dX5_steps_1 : decode cX5_steps 1 = .ok (.iconst 0, 1) := by decide +kernel
theorem dX5_steps_2 : decode cX5_steps 2 = .ok (.putfield 39, 3) := by decide +kernel
theorem dX5_steps_5 : decode cX5_steps 5 = .ok (.aload_n 0, 1) := by decide +kernel
theorem dX5_steps_6 : decode cX5_steps 6 = .ok (.getfield 75, 3) := by decide +kernel
theorem dX5_steps_9 : decode cX5_steps 9 = .ok (.ireturn, 1) := by decide +kernel
theorem dX5_splays_0 : decode cX5_splays 0 = .ok (.aload_n 0, 1) := by decide +kernel
theorem dX5_splays_1 : decode cX5_splays 1 = .ok (.iconst 0, 1) := by decide +kernel
theorem dX5_splays_2 : decode cX5_splays 2 = .ok (.putfield 39, 3) := by decide +kernel
theorem dX5_splays_5 : decode cX5_splays 5 = .ok (.aload_n 0, 1) := by decide +kernel
theorem dX5_splays_6 : decode cX5_splays 6 = .ok (.getfield 66, 3) := by decide +kernel
theorem dX5_splays_9 : decode cX5_splays 9 = .ok (.ireturn, 1) := by decide +kernel
theorem dX5_rank_0 : decode cX5_rank 0 = .ok (.iconst 0, 1) := by decide +kernel
theorem dX5_rank_1 : decode cX5_rank 1 = .ok (.istore_n 1, 1) := by decide +kernel
theorem dX5_rank_2 : decode cX5_rank 2 = .ok (.iconst 2, 1) := by decide +kernel
theorem dX5_rank_3 : decode cX5_rank 3 = .ok (.iload_n 1, 1) := by decide +kernel
theorem dX5_rank_4 : decode cX5_rank 4 = .ok (.ishl, 1) := by decide +kernel
theorem dX5_rank_5 : decode cX5_rank 5 = .ok (.iload_n 0, 1) := by decide +kernel
theorem dX5_rank_6 : decode cX5_rank 6 = .ok (.if_icmp .gt 9, 3) := by decide +kernel
theorem dX5_rank_9 : decode cX5_rank 9 = .ok (.iinc 1 1, 3) := by decide +kernel
theorem dX5_rank_12 : decode cX5_rank 12 = .ok (.goto (-10), 3) := by decide +kernel
theorem dX5_rank_15 : decode cX5_rank 15 = .ok (.iload_n 1, 1) := by decide +kernel
theorem dX5_rank_16 : decode cX5_rank 16 = .ok (.ireturn, 1) := by decide +kernel
theorem dX5_potential_0 : decode cX5_potential 0 = .ok (.aload_n 0, 1) := by decide +kernel
theorem dX5_potential_1 : decode cX5_potential 1 = .ok (.iconst 0, 1) := by decide +kernel
theorem dX5_potential_2 : decode cX5_potential 2 = .ok (.putfield 39, 3) := by decide +kernel
theorem dX5_potential_5 : decode cX5_potential 5 = .ok (.iconst 0, 1) := by decide +kernel
theorem dX5_potential_6 : decode cX5_potential 6 = .ok (.istore_n 1, 1) := by decide +kernel
theorem dX5_potential_7 : decode cX5_potential 7 = .ok (.iconst 0, 1) := by decide +kernel
theorem dX5_potential_8 : decode cX5_potential 8 = .ok (.istore_n 2, 1) := by decide +kernel
theorem dX5_potential_9 : decode cX5_potential 9 = .ok (.iload_n 2, 1) := by decide +kernel
theorem dX5_potential_10 : decode cX5_potential 10 = .ok (.bipush 60, 2) := by decide +kernel
theorem dX5_potential_12 : decode cX5_potential 12 = .ok (.if_icmp .ge 33, 3) := by decide +kernel
theorem dX5_potential_15 : decode cX5_potential 15 = .ok (.iload_n 1, 1) := by decide +kernel
theorem dX5_potential_16 : decode cX5_potential 16 = .ok (.aload_n 0, 1) := by decide +kernel
theorem dX5_potential_17 : decode cX5_potential 17 = .ok (.getfield 29, 3) := by decide +kernel
theorem dX5_potential_20 : decode cX5_potential 20 = .ok (.iload_n 2, 1) := by decide +kernel
theorem dX5_potential_21 : decode cX5_potential 21 = .ok (.baload, 1) := by decide +kernel
theorem dX5_potential_22 : decode cX5_potential 22 = .ok (.ifCond .eq 14, 3) := by decide +kernel
theorem dX5_potential_25 : decode cX5_potential 25 = .ok (.aload_n 0, 1) := by decide +kernel
theorem dX5_potential_26 : decode cX5_potential 26 = .ok (.iload_n 2, 1) := by decide +kernel
theorem dX5_potential_27 : decode cX5_potential 27 = .ok (.invokevirtual 160, 3) := by decide +kernel
theorem dX5_potential_30 : decode cX5_potential 30 = .ok (.invokestatic 163, 3) := by decide +kernel
theorem dX5_potential_33 : decode cX5_potential 33 = .ok (.goto 4, 3) := by decide +kernel
theorem dX5_potential_36 : decode cX5_potential 36 = .ok (.iconst 0, 1) := by decide +kernel
theorem dX5_potential_37 : decode cX5_potential 37 = .ok (.iadd, 1) := by decide +kernel
theorem dX5_potential_38 : decode cX5_potential 38 = .ok (.istore_n 1, 1) := by decide +kernel
theorem dX5_potential_39 : decode cX5_potential 39 = .ok (.iinc 2 1, 3) := by decide +kernel
theorem dX5_potential_42 : decode cX5_potential 42 = .ok (.goto (-33), 3) := by decide +kernel
theorem dX5_potential_45 : decode cX5_potential 45 = .ok (.iload_n 1, 1) := by decide +kernel
theorem dX5_potential_46 : decode cX5_potential 46 = .ok (.ireturn, 1) := by decide +kernel
theorem dX5_size_0 : decode cX5_size 0 = .ok (.aload_n 0, 1) := by decide +kernel
theorem dX5_size_1 : decode cX5_size 1 = .ok (.iconst 0, 1) := by decide +kernel
theorem dX5_size_2 : decode cX5_size 2 = .ok (.putfield 39, 3) := by decide +kernel
theorem dX5_size_5 : decode cX5_size 5 = .ok (.aload_n 0, 1) := by decide +kernel
theorem dX5_size_6 : decode cX5_size 6 = .ok (.invokevirtual 97, 3) := by decide +kernel
theorem dX5_size_9 : decode cX5_size 9 = .ok (.ireturn, 1) := by decide +kernel
theorem dX5_clipped_0 : decode cX5_clipped 0 = .ok (.aload_n 0, 1) := by decide +kernel
theorem dX5_clipped_1 : decode cX5_clipped 1 = .ok (.iconst 0, 1) := by decide +kernel
theorem dX5_clipped_2 : decode cX5_clipped 2 = .ok (.putfield 39, 3) := by decide +kernel
theorem dX5_clipped_5 : decode cX5_clipped 5 = .ok (.aload_n 0, 1) := by decide +kernel
theorem dX5_clipped_6 : decode cX5_clipped 6 = .ok (.aload_n 0, 1) := by decide +kernel
theorem dX5_clipped_7 : decode cX5_clipped 7 = .ok (.getfield 13, 3) := by decide +kernel
theorem dX5_clipped_10 : decode cX5_clipped 10 = .ok (.invokevirtual 78, 3) := by decide +kernel
theorem dX5_clipped_13 : decode cX5_clipped 13 = .ok (.ireturn, 1) := by decide +kernel
theorem dX5_root_0 : decode cX5_root 0 = .ok (.aload_n 0, 1) := by decide +kernel
theorem dX5_root_1 : decode cX5_root 1 = .ok (.iconst 0, 1) := by decide +kernel
theorem dX5_root_2 : decode cX5_root 2 = .ok (.putfield 39, 3) := by decide +kernel
theorem dX5_root_5 : decode cX5_root 5 = .ok (.aload_n 0, 1) := by decide +kernel
theorem dX5_root_6 : decode cX5_root 6 = .ok (.getfield 9, 3) := by decide +kernel
theorem dX5_root_9 : decode cX5_root 9 = .ok (.iconst (-1), 1) := by decide +kernel
theorem dX5_root_10 : decode cX5_root 10 = .ok (.if_icmp .ne 7, 3) := by decide +kernel
theorem dX5_root_13 : decode cX5_root 13 = .ok (.iconst (-1), 1) := by decide +kernel
theorem dX5_root_14 : decode cX5_root 14 = .ok (.goto 11, 3) := by decide +kernel
theorem dX5_root_17 : decode cX5_root 17 = .ok (.aload_n 0, 1) := by decide +kernel
theorem dX5_root_18 : decode cX5_root 18 = .ok (.aload_n 0, 1) := by decide +kernel
theorem dX5_root_19 : decode cX5_root 19 = .ok (.getfield 9, 3) := by decide +kernel
theorem dX5_root_22 : decode cX5_root 22 = .ok (.invokevirtual 152, 3) := by decide +kernel
theorem dX5_root_25 : decode cX5_root 25 = .ok (.ireturn, 1) := by decide +kernel
theorem dX5_height_0 : decode cX5_height 0 = .ok (.aload_n 0, 1) := by decide +kernel
theorem dX5_height_1 : decode cX5_height 1 = .ok (.iconst 0, 1) := by decide +kernel
theorem dX5_height_2 : decode cX5_height 2 = .ok (.putfield 39, 3) := by decide +kernel
theorem dX5_height_5 : decode cX5_height 5 = .ok (.iconst 0, 1) := by decide +kernel
theorem dX5_height_6 : decode cX5_height 6 = .ok (.istore_n 1, 1) := by decide +kernel
theorem dX5_height_7 : decode cX5_height 7 = .ok (.aload_n 0, 1) := by decide +kernel
theorem dX5_height_8 : decode cX5_height 8 = .ok (.aload_n 0, 1) := by decide +kernel
theorem dX5_height_9 : decode cX5_height 9 = .ok (.getfield 9, 3) := by decide +kernel
theorem dX5_height_12 : decode cX5_height 12 = .ok (.invokevirtual 52, 3) := by decide +kernel
theorem dX5_height_15 : decode cX5_height 15 = .ok (.iconst 0, 1) := by decide +kernel
theorem dX5_height_16 : decode cX5_height 16 = .ok (.istore_n 2, 1) := by decide +kernel
theorem dX5_height_17 : decode cX5_height 17 = .ok (.iload_n 2, 1) := by decide +kernel
theorem dX5_height_18 : decode cX5_height 18 = .ok (.aload_n 0, 1) := by decide +kernel
theorem dX5_height_19 : decode cX5_height 19 = .ok (.getfield 46, 3) := by decide +kernel
theorem dX5_height_22 : decode cX5_height 22 = .ok (.if_icmp .ge 33, 3) := by decide +kernel
theorem dX5_height_25 : decode cX5_height 25 = .ok (.aload_n 0, 1) := by decide +kernel
theorem dX5_height_26 : decode cX5_height 26 = .ok (.aload_n 0, 1) := by decide +kernel
theorem dX5_height_27 : decode cX5_height 27 = .ok (.getfield 36, 3) := by decide +kernel
theorem dX5_height_30 : decode cX5_height 30 = .ok (.iload_n 2, 1) := by decide +kernel
theorem dX5_height_31 : decode cX5_height 31 = .ok (.iaload, 1) := by decide +kernel
theorem dX5_height_32 : decode cX5_height 32 = .ok (.invokevirtual 166, 3) := by decide +kernel
theorem dX5_height_35 : decode cX5_height 35 = .ok (.iconst 1, 1) := by decide +kernel
theorem dX5_height_36 : decode cX5_height 36 = .ok (.iadd, 1) := by decide +kernel
theorem dX5_height_37 : decode cX5_height 37 = .ok (.istore_n 3, 1) := by decide +kernel
theorem dX5_height_38 : decode cX5_height 38 = .ok (.iload_n 3, 1) := by decide +kernel
theorem dX5_height_39 : decode cX5_height 39 = .ok (.iload_n 1, 1) := by decide +kernel
theorem dX5_height_40 : decode cX5_height 40 = .ok (.if_icmp .le 7, 3) := by decide +kernel
theorem dX5_height_43 : decode cX5_height 43 = .ok (.iload_n 3, 1) := by decide +kernel
theorem dX5_height_44 : decode cX5_height 44 = .ok (.goto 4, 3) := by decide +kernel
theorem dX5_height_47 : decode cX5_height 47 = .ok (.iload_n 1, 1) := by decide +kernel
theorem dX5_height_48 : decode cX5_height 48 = .ok (.istore_n 1, 1) := by decide +kernel
theorem dX5_height_49 : decode cX5_height 49 = .ok (.iinc 2 1, 3) := by decide +kernel
theorem dX5_height_52 : decode cX5_height 52 = .ok (.goto (-35), 3) := by decide +kernel
theorem dX5_height_55 : decode cX5_height 55 = .ok (.iload_n 1, 1) := by decide +kernel
theorem dX5_height_56 : decode cX5_height 56 = .ok (.ireturn, 1) := by decide +kernel
theorem dX5_depth_0 : decode cX5_depth 0 = .ok (.aload_n 0, 1) := by decide +kernel
theorem dX5_depth_1 : decode cX5_depth 1 = .ok (.aload_n 0, 1) := by decide +kernel
theorem dX5_depth_2 : decode cX5_depth 2 = .ok (.iload_n 1, 1) := by decide +kernel
theorem dX5_depth_3 : decode cX5_depth 3 = .ok (.invokevirtual 115, 3) := by decide +kernel
theorem dX5_depth_6 : decode cX5_depth 6 = .ok (.ifCond .eq 7, 3) := by decide +kernel
theorem dX5_depth_9 : decode cX5_depth 9 = .ok (.iconst 0, 1) := by decide +kernel
theorem dX5_depth_10 : decode cX5_depth 10 = .ok (.goto 4, 3) := by decide +kernel
theorem dX5_depth_13 : decode cX5_depth 13 = .ok (.iconst 1, 1) := by decide +kernel
theorem dX5_depth_14 : decode cX5_depth 14 = .ok (.invokevirtual 105, 3) := by decide +kernel
theorem dX5_depth_17 : decode cX5_depth 17 = .ok (.ifCond .eq 19, 3) := by decide +kernel
theorem dX5_depth_20 : decode cX5_depth 20 = .ok (.aload_n 0, 1) := by decide +kernel
theorem dX5_depth_21 : decode cX5_depth 21 = .ok (.aload_n 0, 1) := by decide +kernel
theorem dX5_depth_22 : decode cX5_depth 22 = .ok (.aload_n 0, 1) := by decide +kernel
theorem dX5_depth_23 : decode cX5_depth 23 = .ok (.getfield 9, 3) := by decide +kernel
theorem dX5_depth_26 : decode cX5_depth 26 = .ok (.iload_n 1, 1) := by decide +kernel
theorem dX5_depth_27 : decode cX5_depth 27 = .ok (.invokevirtual 87, 3) := by decide +kernel
theorem dX5_depth_30 : decode cX5_depth 30 = .ok (.invokevirtual 166, 3) := by decide +kernel
theorem dX5_depth_33 : decode cX5_depth 33 = .ok (.goto 4, 3) := by decide +kernel
theorem dX5_depth_36 : decode cX5_depth 36 = .ok (.iconst 0, 1) := by decide +kernel
theorem dX5_depth_37 : decode cX5_depth 37 = .ok (.ireturn, 1) := by decide +kernel
theorem dX5_subtree_0 : decode cX5_subtree 0 = .ok (.aload_n 0, 1) := by decide +kernel
theorem dX5_subtree_1 : decode cX5_subtree 1 = .ok (.aload_n 0, 1) := by decide +kernel
theorem dX5_subtree_2 : decode cX5_subtree 2 = .ok (.iload_n 1, 1) := by decide +kernel
theorem dX5_subtree_3 : decode cX5_subtree 3 = .ok (.invokevirtual 115, 3) := by decide +kernel
theorem dX5_subtree_6 : decode cX5_subtree 6 = .ok (.ifCond .eq 7, 3) := by decide +kernel
theorem dX5_subtree_9 : decode cX5_subtree 9 = .ok (.iconst 0, 1) := by decide +kernel
theorem dX5_subtree_10 : decode cX5_subtree 10 = .ok (.goto 4, 3) := by decide +kernel
theorem dX5_subtree_13 : decode cX5_subtree 13 = .ok (.iconst 1, 1) := by decide +kernel
theorem dX5_subtree_14 : decode cX5_subtree 14 = .ok (.invokevirtual 105, 3) := by decide +kernel
theorem dX5_subtree_17 : decode cX5_subtree 17 = .ok (.ifCond .eq 19, 3) := by decide +kernel
theorem dX5_subtree_20 : decode cX5_subtree 20 = .ok (.aload_n 0, 1) := by decide +kernel
theorem dX5_subtree_21 : decode cX5_subtree 21 = .ok (.aload_n 0, 1) := by decide +kernel
theorem dX5_subtree_22 : decode cX5_subtree 22 = .ok (.aload_n 0, 1) := by decide +kernel
theorem dX5_subtree_23 : decode cX5_subtree 23 = .ok (.getfield 9, 3) := by decide +kernel
theorem dX5_subtree_26 : decode cX5_subtree 26 = .ok (.iload_n 1, 1) := by decide +kernel
theorem dX5_subtree_27 : decode cX5_subtree 27 = .ok (.invokevirtual 87, 3) := by decide +kernel
theorem dX5_subtree_30 : decode cX5_subtree 30 = .ok (.invokevirtual 160, 3) := by decide +kernel
theorem dX5_subtree_33 : decode cX5_subtree 33 = .ok (.goto 4, 3) := by decide +kernel
theorem dX5_subtree_36 : decode cX5_subtree 36 = .ok (.iconst 0, 1) := by decide +kernel
theorem dX5_subtree_37 : decode cX5_subtree 37 = .ok (.ireturn, 1) := by decide +kernel
theorem dX5_child_0 : decode cX5_child 0 = .ok (.aload_n 0, 1) := by decide +kernel
theorem dX5_child_1 : decode cX5_child 1 = .ok (.aload_n 0, 1) := by decide +kernel
theorem dX5_child_2 : decode cX5_child 2 = .ok (.iload_n 1, 1) := by decide +kernel
theorem dX5_child_3 : decode cX5_child 3 = .ok (.invokevirtual 115, 3) := by decide +kernel
theorem dX5_child_6 : decode cX5_child 6 = .ok (.ifCond .eq 7, 3) := by decide +kernel
theorem dX5_child_9 : decode cX5_child 9 = .ok (.iconst 0, 1) := by decide +kernel
theorem dX5_child_10 : decode cX5_child 10 = .ok (.goto 4, 3) := by decide +kernel
theorem dX5_child_13 : decode cX5_child 13 = .ok (.iconst 1, 1) := by decide +kernel
theorem dX5_child_14 : decode cX5_child 14 = .ok (.invokevirtual 105, 3) := by decide +kernel
theorem dX5_child_17 : decode cX5_child 17 = .ok (.ifCond .ne 5, 3) := by decide +kernel
theorem dX5_child_20 : decode cX5_child 20 = .ok (.iconst 0, 1) := by decide +kernel
theorem dX5_child_21 : decode cX5_child 21 = .ok (.ireturn, 1) := by decide +kernel
theorem dX5_child_22 : decode cX5_child 22 = .ok (.aload_n 0, 1) := by decide +kernel
theorem dX5_child_23 : decode cX5_child 23 = .ok (.aload_n 0, 1) := by decide +kernel
theorem dX5_child_24 : decode cX5_child 24 = .ok (.getfield 9, 3) := by decide +kernel
theorem dX5_child_27 : decode cX5_child 27 = .ok (.iload_n 1, 1) := by decide +kernel
theorem dX5_child_28 : decode cX5_child 28 = .ok (.invokevirtual 87, 3) := by decide +kernel
theorem dX5_child_31 : decode cX5_child 31 = .ok (.istore_n 3, 1) := by decide +kernel
theorem dX5_child_32 : decode cX5_child 32 = .ok (.iload_n 2, 1) := by decide +kernel
theorem dX5_child_33 : decode cX5_child 33 = .ok (.ifCond .eq 12, 3) := by decide +kernel
theorem dX5_child_36 : decode cX5_child 36 = .ok (.aload_n 0, 1) := by decide +kernel
theorem dX5_child_37 : decode cX5_child 37 = .ok (.getfield 23, 3) := by decide +kernel
theorem dX5_child_40 : decode cX5_child 40 = .ok (.iload_n 3, 1) := by decide +kernel
theorem dX5_child_41 : decode cX5_child 41 = .ok (.iaload, 1) := by decide +kernel
theorem dX5_child_42 : decode cX5_child 42 = .ok (.goto 9, 3) := by decide +kernel
theorem dX5_child_45 : decode cX5_child 45 = .ok (.aload_n 0, 1) := by decide +kernel
theorem dX5_child_46 : decode cX5_child 46 = .ok (.getfield 20, 3) := by decide +kernel
theorem dX5_child_49 : decode cX5_child 49 = .ok (.iload_n 3, 1) := by decide +kernel
theorem dX5_child_50 : decode cX5_child 50 = .ok (.iaload, 1) := by decide +kernel
theorem dX5_child_51 : decode cX5_child 51 = .ok (.istore 4, 2) := by decide +kernel
theorem dX5_child_53 : decode cX5_child 53 = .ok (.iload 4, 2) := by decide +kernel
theorem dX5_child_55 : decode cX5_child 55 = .ok (.iconst (-1), 1) := by decide +kernel
theorem dX5_child_56 : decode cX5_child 56 = .ok (.if_icmp .ne 7, 3) := by decide +kernel
theorem dX5_child_59 : decode cX5_child 59 = .ok (.iconst (-1), 1) := by decide +kernel
theorem dX5_child_60 : decode cX5_child 60 = .ok (.goto 9, 3) := by decide +kernel
theorem dX5_child_63 : decode cX5_child 63 = .ok (.aload_n 0, 1) := by decide +kernel
theorem dX5_child_64 : decode cX5_child 64 = .ok (.iload 4, 2) := by decide +kernel
theorem dX5_child_66 : decode cX5_child 66 = .ok (.invokevirtual 152, 3) := by decide +kernel
theorem dX5_child_69 : decode cX5_child 69 = .ok (.ireturn, 1) := by decide +kernel
theorem dX5_whereIs_0 : decode cX5_whereIs 0 = .ok (.aload_n 0, 1) := by decide +kernel
theorem dX5_whereIs_1 : decode cX5_whereIs 1 = .ok (.iload_n 1, 1) := by decide +kernel
theorem dX5_whereIs_2 : decode cX5_whereIs 2 = .ok (.invokestatic 146, 3) := by decide +kernel
theorem dX5_whereIs_5 : decode cX5_whereIs 5 = .ok (.ifCond .eq 7, 3) := by decide +kernel
theorem dX5_whereIs_8 : decode cX5_whereIs 8 = .ok (.iconst 0, 1) := by decide +kernel
theorem dX5_whereIs_9 : decode cX5_whereIs 9 = .ok (.goto 4, 3) := by decide +kernel
theorem dX5_whereIs_12 : decode cX5_whereIs 12 = .ok (.iconst 1, 1) := by decide +kernel
theorem dX5_whereIs_13 : decode cX5_whereIs 13 = .ok (.invokevirtual 105, 3) := by decide +kernel
theorem dX5_whereIs_16 : decode cX5_whereIs 16 = .ok (.ifCond .ne 5, 3) := by decide +kernel
theorem dX5_whereIs_19 : decode cX5_whereIs 19 = .ok (.iconst 0, 1) := by decide +kernel
theorem dX5_whereIs_20 : decode cX5_whereIs 20 = .ok (.ireturn, 1) := by decide +kernel
theorem dX5_whereIs_21 : decode cX5_whereIs 21 = .ok (.aload_n 0, 1) := by decide +kernel
theorem dX5_whereIs_22 : decode cX5_whereIs 22 = .ok (.getfield 33, 3) := by decide +kernel
theorem dX5_whereIs_25 : decode cX5_whereIs 25 = .ok (.iload_n 1, 1) := by decide +kernel
theorem dX5_whereIs_26 : decode cX5_whereIs 26 = .ok (.iaload, 1) := by decide +kernel
theorem dX5_whereIs_27 : decode cX5_whereIs 27 = .ok (.iconst (-1), 1) := by decide +kernel
theorem dX5_whereIs_28 : decode cX5_whereIs 28 = .ok (.if_icmp .ne 7, 3) := by decide +kernel
theorem dX5_whereIs_31 : decode cX5_whereIs 31 = .ok (.iconst 0, 1) := by decide +kernel
theorem dX5_whereIs_32 : decode cX5_whereIs 32 = .ok (.goto 21, 3) := by decide +kernel
theorem dX5_whereIs_35 : decode cX5_whereIs 35 = .ok (.aload_n 0, 1) := by decide +kernel
theorem dX5_whereIs_36 : decode cX5_whereIs 36 = .ok (.aload_n 0, 1) := by decide +kernel
theorem dX5_whereIs_37 : decode cX5_whereIs 37 = .ok (.getfield 33, 3) := by decide +kernel
theorem dX5_whereIs_40 : decode cX5_whereIs 40 = .ok (.iload_n 1, 1) := by decide +kernel
theorem dX5_whereIs_41 : decode cX5_whereIs 41 = .ok (.iaload, 1) := by decide +kernel
theorem dX5_whereIs_42 : decode cX5_whereIs 42 = .ok (.invokevirtual 149, 3) := by decide +kernel
theorem dX5_whereIs_45 : decode cX5_whereIs 45 = .ok (.ifCond .eq 7, 3) := by decide +kernel
theorem dX5_whereIs_48 : decode cX5_whereIs 48 = .ok (.iconst 1, 1) := by decide +kernel
theorem dX5_whereIs_49 : decode cX5_whereIs 49 = .ok (.goto 4, 3) := by decide +kernel
theorem dX5_whereIs_52 : decode cX5_whereIs 52 = .ok (.iconst 2, 1) := by decide +kernel
theorem dX5_whereIs_53 : decode cX5_whereIs 53 = .ok (.ireturn, 1) := by decide +kernel
theorem dX5_plain_0 : decode cX5_plain 0 = .ok (.aload_n 0, 1) := by decide +kernel
theorem dX5_plain_1 : decode cX5_plain 1 = .ok (.aload_n 0, 1) := by decide +kernel
theorem dX5_plain_2 : decode cX5_plain 2 = .ok (.iload_n 1, 1) := by decide +kernel
theorem dX5_plain_3 : decode cX5_plain 3 = .ok (.invokevirtual 115, 3) := by decide +kernel
theorem dX5_plain_6 : decode cX5_plain 6 = .ok (.ifCond .eq 7, 3) := by decide +kernel
theorem dX5_plain_9 : decode cX5_plain 9 = .ok (.iconst 0, 1) := by decide +kernel
theorem dX5_plain_10 : decode cX5_plain 10 = .ok (.goto 4, 3) := by decide +kernel
theorem dX5_plain_13 : decode cX5_plain 13 = .ok (.iconst 1, 1) := by decide +kernel
theorem dX5_plain_14 : decode cX5_plain 14 = .ok (.invokevirtual 105, 3) := by decide +kernel
theorem dX5_plain_17 : decode cX5_plain 17 = .ok (.ifCond .eq 20, 3) := by decide +kernel
theorem dX5_plain_20 : decode cX5_plain 20 = .ok (.aload_n 0, 1) := by decide +kernel
theorem dX5_plain_21 : decode cX5_plain 21 = .ok (.getfield 16, 3) := by decide +kernel
theorem dX5_plain_24 : decode cX5_plain 24 = .ok (.aload_n 0, 1) := by decide +kernel
theorem dX5_plain_25 : decode cX5_plain 25 = .ok (.aload_n 0, 1) := by decide +kernel
theorem dX5_plain_26 : decode cX5_plain 26 = .ok (.getfield 9, 3) := by decide +kernel
theorem dX5_plain_29 : decode cX5_plain 29 = .ok (.iload_n 1, 1) := by decide +kernel
theorem dX5_plain_30 : decode cX5_plain 30 = .ok (.invokevirtual 87, 3) := by decide +kernel
theorem dX5_plain_33 : decode cX5_plain 33 = .ok (.iaload, 1) := by decide +kernel
theorem dX5_plain_34 : decode cX5_plain 34 = .ok (.goto 4, 3) := by decide +kernel
theorem dX5_plain_37 : decode cX5_plain 37 = .ok (.iconst 0, 1) := by decide +kernel
theorem dX5_plain_38 : decode cX5_plain 38 = .ok (.ireturn, 1) := by decide +kernel
theorem dX5_plainSum_0 : decode cX5_plainSum 0 = .ok (.aload_n 0, 1) := by decide +kernel
theorem dX5_plainSum_1 : decode cX5_plainSum 1 = .ok (.aload_n 0, 1) := by decide +kernel
theorem dX5_plainSum_2 : decode cX5_plainSum 2 = .ok (.iload_n 1, 1) := by decide +kernel
theorem dX5_plainSum_3 : decode cX5_plainSum 3 = .ok (.iload_n 2, 1) := by decide +kernel
theorem dX5_plainSum_4 : decode cX5_plainSum 4 = .ok (.invokevirtual 133, 3) := by decide +kernel
theorem dX5_plainSum_7 : decode cX5_plainSum 7 = .ok (.ifCond .eq 7, 3) := by decide +kernel
theorem dX5_plainSum_10 : decode cX5_plainSum 10 = .ok (.iconst 0, 1) := by decide +kernel
theorem dX5_plainSum_11 : decode cX5_plainSum 11 = .ok (.goto 4, 3) := by decide +kernel
theorem dX5_plainSum_14 : decode cX5_plainSum 14 = .ok (.iconst 1, 1) := by decide +kernel
theorem dX5_plainSum_15 : decode cX5_plainSum 15 = .ok (.invokevirtual 105, 3) := by decide +kernel
theorem dX5_plainSum_18 : decode cX5_plainSum 18 = .ok (.ifCond .ne 5, 3) := by decide +kernel
theorem dX5_plainSum_21 : decode cX5_plainSum 21 = .ok (.iconst 0, 1) := by decide +kernel
theorem dX5_plainSum_22 : decode cX5_plainSum 22 = .ok (.ireturn, 1) := by decide +kernel
theorem dX5_plainSum_23 : decode cX5_plainSum 23 = .ok (.aload_n 0, 1) := by decide +kernel
theorem dX5_plainSum_24 : decode cX5_plainSum 24 = .ok (.aload_n 0, 1) := by decide +kernel
theorem dX5_plainSum_25 : decode cX5_plainSum 25 = .ok (.getfield 9, 3) := by decide +kernel
theorem dX5_plainSum_28 : decode cX5_plainSum 28 = .ok (.invokevirtual 52, 3) := by decide +kernel
theorem dX5_plainSum_31 : decode cX5_plainSum 31 = .ok (.iconst 0, 1) := by decide +kernel
theorem dX5_plainSum_32 : decode cX5_plainSum 32 = .ok (.istore_n 3, 1) := by decide +kernel
theorem dX5_plainSum_33 : decode cX5_plainSum 33 = .ok (.iload_n 1, 1) := by decide +kernel
theorem dX5_plainSum_34 : decode cX5_plainSum 34 = .ok (.istore 4, 2) := by decide +kernel
theorem dX5_plainSum_36 : decode cX5_plainSum 36 = .ok (.iload 4, 2) := by decide +kernel
theorem dX5_plainSum_38 : decode cX5_plainSum 38 = .ok (.iload_n 2, 1) := by decide +kernel
theorem dX5_plainSum_39 : decode cX5_plainSum 39 = .ok (.if_icmp .ge 24, 3) := by decide +kernel
theorem dX5_plainSum_42 : decode cX5_plainSum 42 = .ok (.iload_n 3, 1) := by decide +kernel
theorem dX5_plainSum_43 : decode cX5_plainSum 43 = .ok (.aload_n 0, 1) := by decide +kernel
theorem dX5_plainSum_44 : decode cX5_plainSum 44 = .ok (.getfield 16, 3) := by decide +kernel
theorem dX5_plainSum_47 : decode cX5_plainSum 47 = .ok (.aload_n 0, 1) := by decide +kernel
theorem dX5_plainSum_48 : decode cX5_plainSum 48 = .ok (.getfield 36, 3) := by decide +kernel
theorem dX5_plainSum_51 : decode cX5_plainSum 51 = .ok (.iload 4, 2) := by decide +kernel
theorem dX5_plainSum_53 : decode cX5_plainSum 53 = .ok (.iaload, 1) := by decide +kernel
theorem dX5_plainSum_54 : decode cX5_plainSum 54 = .ok (.iaload, 1) := by decide +kernel
theorem dX5_plainSum_55 : decode cX5_plainSum 55 = .ok (.iadd, 1) := by decide +kernel
theorem dX5_plainSum_56 : decode cX5_plainSum 56 = .ok (.istore_n 3, 1) := by decide +kernel
theorem dX5_plainSum_57 : decode cX5_plainSum 57 = .ok (.iinc 4 1, 3) := by decide +kernel
theorem dX5_plainSum_60 : decode cX5_plainSum 60 = .ok (.goto (-24), 3) := by decide +kernel
theorem dX5_plainSum_63 : decode cX5_plainSum 63 = .ok (.iload_n 3, 1) := by decide +kernel
theorem dX5_plainSum_64 : decode cX5_plainSum 64 = .ok (.ireturn, 1) := by decide +kernel
