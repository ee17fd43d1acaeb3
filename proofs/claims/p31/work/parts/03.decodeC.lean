theorem dX0_init_0 : decode cX0_init 0 = .ok (.aload_n 0, 1) := by decide +kernel
theorem dX0_init_1 : decode cX0_init 1 = .ok (.invokespecial 1, 3) := by decide +kernel
theorem dX0_init_4 : decode cX0_init 4 = .ok (.aload_n 0, 1) := by decide +kernel
theorem dX0_init_5 : decode cX0_init 5 = .ok (.iconst 1, 1) := by decide +kernel
theorem dX0_init_6 : decode cX0_init 6 = .ok (.putfield 7, 3) := by decide +kernel
theorem dX0_init_9 : decode cX0_init 9 = .ok (.aload_n 0, 1) := by decide +kernel
theorem dX0_init_10 : decode cX0_init 10 = .ok (.iload_n 1, 1) := by decide +kernel
theorem dX0_init_11 : decode cX0_init 11 = .ok (.putfield 13, 3) := by decide +kernel
theorem dX0_init_14 : decode cX0_init 14 = .ok (.return_, 1) := by decide +kernel
theorem dX0_countOf_0 : decode cX0_countOf 0 = .ok (.aload_n 0, 1) := by decide +kernel
theorem dX0_countOf_1 : decode cX0_countOf 1 = .ok (.ifnonnull 7, 3) := by decide +kernel
theorem dX0_countOf_4 : decode cX0_countOf 4 = .ok (.iconst 0, 1) := by decide +kernel
theorem dX0_countOf_5 : decode cX0_countOf 5 = .ok (.goto 7, 3) := by decide +kernel
theorem dX0_countOf_8 : decode cX0_countOf 8 = .ok (.aload_n 0, 1) := by decide +kernel
theorem dX0_countOf_9 : decode cX0_countOf 9 = .ok (.getfield 7, 3) := by decide +kernel
theorem dX0_countOf_12 : decode cX0_countOf 12 = .ok (.ireturn, 1) := by decide +kernel
theorem dX0_isLeftChild_0 : decode cX0_isLeftChild 0 = .ok (.aload_n 0, 1) := by decide +kernel
theorem dX0_isLeftChild_1 : decode cX0_isLeftChild 1 = .ok (.getfield 16, 3) := by decide +kernel
theorem dX0_isLeftChild_4 : decode cX0_isLeftChild 4 = .ok (.ifnull 18, 3) := by decide +kernel
theorem dX0_isLeftChild_7 : decode cX0_isLeftChild 7 = .ok (.aload_n 0, 1) := by decide +kernel
theorem dX0_isLeftChild_8 : decode cX0_isLeftChild 8 = .ok (.getfield 16, 3) := by decide +kernel
theorem dX0_isLeftChild_11 : decode cX0_isLeftChild 11 = .ok (.getfield 20, 3) := by decide +kernel
theorem dX0_isLeftChild_14 : decode cX0_isLeftChild 14 = .ok (.aload_n 0, 1) := by decide +kernel
theorem dX0_isLeftChild_15 : decode cX0_isLeftChild 15 = .ok (.if_acmp .ne 7, 3) := by decide +kernel
theorem dX0_isLeftChild_18 : decode cX0_isLeftChild 18 = .ok (.iconst 1, 1) := by decide +kernel
theorem dX0_isLeftChild_19 : decode cX0_isLeftChild 19 = .ok (.goto 4, 3) := by decide +kernel
theorem dX0_isLeftChild_22 : decode cX0_isLeftChild 22 = .ok (.iconst 0, 1) := by decide +kernel
theorem dX0_isLeftChild_23 : decode cX0_isLeftChild 23 = .ok (.ireturn, 1) := by decide +kernel
theorem dX0_takeLeft_0 : decode cX0_takeLeft 0 = .ok (.aload_n 0, 1) := by decide +kernel
theorem dX0_takeLeft_1 : decode cX0_takeLeft 1 = .ok (.aload_n 1, 1) := by decide +kernel
theorem dX0_takeLeft_2 : decode cX0_takeLeft 2 = .ok (.putfield 20, 3) := by decide +kernel
theorem dX0_takeLeft_5 : decode cX0_takeLeft 5 = .ok (.aload_n 1, 1) := by decide +kernel
theorem dX0_takeLeft_6 : decode cX0_takeLeft 6 = .ok (.ifnull 8, 3) := by decide +kernel
theorem dX0_takeLeft_9 : decode cX0_takeLeft 9 = .ok (.aload_n 1, 1) := by decide +kernel
theorem dX0_takeLeft_10 : decode cX0_takeLeft 10 = .ok (.aload_n 0, 1) := by decide +kernel
theorem dX0_takeLeft_11 : decode cX0_takeLeft 11 = .ok (.putfield 16, 3) := by decide +kernel
theorem dX0_takeLeft_14 : decode cX0_takeLeft 14 = .ok (.aload_n 0, 1) := by decide +kernel
theorem dX0_takeLeft_15 : decode cX0_takeLeft 15 = .ok (.iconst 1, 1) := by decide +kernel
theorem dX0_takeLeft_16 : decode cX0_takeLeft 16 = .ok (.aload_n 0, 1) := by decide +kernel
theorem dX0_takeLeft_17 : decode cX0_takeLeft 17 = .ok (.getfield 20, 3) := by decide +kernel
theorem dX0_takeLeft_20 : decode cX0_takeLeft 20 = .ok (.invokestatic 23, 3) := by decide +kernel
theorem dX0_takeLeft_23 : decode cX0_takeLeft 23 = .ok (.iadd, 1) := by decide +kernel
theorem dX0_takeLeft_24 : decode cX0_takeLeft 24 = .ok (.aload_n 0, 1) := by decide +kernel
theorem dX0_takeLeft_25 : decode cX0_takeLeft 25 = .ok (.getfield 27, 3) := by decide +kernel
theorem dX0_takeLeft_28 : decode cX0_takeLeft 28 = .ok (.invokestatic 23, 3) := by decide +kernel
theorem dX0_takeLeft_31 : decode cX0_takeLeft 31 = .ok (.iadd, 1) := by decide +kernel
theorem dX0_takeLeft_32 : decode cX0_takeLeft 32 = .ok (.putfield 7, 3) := by decide +kernel
theorem dX0_takeLeft_35 : decode cX0_takeLeft 35 = .ok (.return_, 1) := by decide +kernel
theorem dX0_takeRight_0 : decode cX0_takeRight 0 = .ok (.aload_n 0, 1) := by decide +kernel
theorem dX0_takeRight_1 : decode cX0_takeRight 1 = .ok (.aload_n 1, 1) := by decide +kernel
theorem dX0_takeRight_2 : decode cX0_takeRight 2 = .ok (.putfield 27, 3) := by decide +kernel
theorem dX0_takeRight_5 : decode cX0_takeRight 5 = .ok (.aload_n 1, 1) := by decide +kernel
theorem dX0_takeRight_6 : decode cX0_takeRight 6 = .ok (.ifnull 8, 3) := by decide +kernel
theorem dX0_takeRight_9 : decode cX0_takeRight 9 = .ok (.aload_n 1, 1) := by decide +kernel
theorem dX0_takeRight_10 : decode cX0_takeRight 10 = .ok (.aload_n 0, 1) := by decide +kernel
theorem dX0_takeRight_11 : decode cX0_takeRight 11 = .ok (.putfield 16, 3) := by decide +kernel
theorem dX0_takeRight_14 : decode cX0_takeRight 14 = .ok (.aload_n 0, 1) := by decide +kernel
theorem dX0_takeRight_15 : decode cX0_takeRight 15 = .ok (.iconst 1, 1) := by decide +kernel
theorem dX0_takeRight_16 : decode cX0_takeRight 16 = .ok (.aload_n 0, 1) := by decide +kernel
theorem dX0_takeRight_17 : decode cX0_takeRight 17 = .ok (.getfield 20, 3) := by decide +kernel
theorem dX0_takeRight_20 : decode cX0_takeRight 20 = .ok (.invokestatic 23, 3) := by decide +kernel
theorem dX0_takeRight_23 : decode cX0_takeRight 23 = .ok (.iadd, 1) := by decide +kernel
theorem dX0_takeRight_24 : decode cX0_takeRight 24 = .ok (.aload_n 0, 1) := by decide +kernel
theorem dX0_takeRight_25 : decode cX0_takeRight 25 = .ok (.getfield 27, 3) := by decide +kernel
theorem dX0_takeRight_28 : decode cX0_takeRight 28 = .ok (.invokestatic 23, 3) := by decide +kernel
theorem dX0_takeRight_31 : decode cX0_takeRight 31 = .ok (.iadd, 1) := by decide +kernel
theorem dX0_takeRight_32 : decode cX0_takeRight 32 = .ok (.putfield 7, 3) := by decide +kernel
theorem dX0_takeRight_35 : decode cX0_takeRight 35 = .ok (.return_, 1) := by decide +kernel
theorem dX0_dropLeft_0 : decode cX0_dropLeft 0 = .ok (.aload_n 0, 1) := by decide +kernel
theorem dX0_dropLeft_1 : decode cX0_dropLeft 1 = .ok (.getfield 20, 3) := by decide +kernel
theorem dX0_dropLeft_4 : decode cX0_dropLeft 4 = .ok (.astore_n 1, 1) := by decide +kernel
theorem dX0_dropLeft_5 : decode cX0_dropLeft 5 = .ok (.aload_n 1, 1) := by decide +kernel
theorem dX0_dropLeft_6 : decode cX0_dropLeft 6 = .ok (.ifnull 8, 3) := by decide +kernel
theorem dX0_dropLeft_9 : decode cX0_dropLeft 9 = .ok (.aload_n 1, 1) := by decide +kernel
theorem dX0_dropLeft_10 : decode cX0_dropLeft 10 = .ok (.aconst_null, 1) := by decide +kernel
theorem dX0_dropLeft_11 : decode cX0_dropLeft 11 = .ok (.putfield 16, 3) := by decide +kernel
theorem dX0_dropLeft_14 : decode cX0_dropLeft 14 = .ok (.aload_n 0, 1) := by decide +kernel
theorem dX0_dropLeft_15 : decode cX0_dropLeft 15 = .ok (.aconst_null, 1) := by decide +kernel
theorem dX0_dropLeft_16 : decode cX0_dropLeft 16 = .ok (.invokevirtual 30, 3) := by decide +kernel
theorem dX0_dropLeft_19 : decode cX0_dropLeft 19 = .ok (.aload_n 1, 1) := by decide +kernel
theorem dX0_dropLeft_20 : decode cX0_dropLeft 20 = .ok (.areturn, 1) := by decide +kernel
theorem dX0_dropRight_0 : decode cX0_dropRight 0 = .ok (.aload_n 0, 1) := by decide +kernel
theorem dX0_dropRight_1 : decode cX0_dropRight 1 = .ok (.getfield 27, 3) := by decide +kernel
theorem dX0_dropRight_4 : decode cX0_dropRight 4 = .ok (.astore_n 1, 1) := by decide +kernel
theorem dX0_dropRight_5 : decode cX0_dropRight 5 = .ok (.aload_n 1, 1) := by decide +kernel
theorem dX0_dropRight_6 : decode cX0_dropRight 6 = .ok (.ifnull 8, 3) := by decide +kernel
theorem dX0_dropRight_9 : decode cX0_dropRight 9 = .ok (.aload_n 1, 1) := by decide +kernel
theorem dX0_dropRight_10 : decode cX0_dropRight 10 = .ok (.aconst_null, 1) := by decide +kernel
theorem dX0_dropRight_11 : decode cX0_dropRight 11 = .ok (.putfield 16, 3) := by decide +kernel
theorem dX0_dropRight_14 : decode cX0_dropRight 14 = .ok (.aload_n 0, 1) := by decide +kernel
theorem dX0_dropRight_15 : decode cX0_dropRight 15 = .ok (.aconst_null, 1) := by decide +kernel
theorem dX0_dropRight_16 : decode cX0_dropRight 16 = .ok (.invokevirtual 34, 3) := by decide +kernel
theorem dX0_dropRight_19 : decode cX0_dropRight 19 = .ok (.aload_n 1, 1) := by decide +kernel
theorem dX0_dropRight_20 : decode cX0_dropRight 20 = .ok (.areturn, 1) := by decide +kernel
theorem dX0_swapSides_0 : decode cX0_swapSides 0 = .ok (.aload_n 0, 1) := by decide +kernel
theorem dX0_swapSides_1 : decode cX0_swapSides 1 = .ok (.getfield 20, 3) := by decide +kernel
theorem dX0_swapSides_4 : decode cX0_swapSides 4 = .ok (.astore_n 1, 1) := by decide +kernel
theorem dX0_swapSides_5 : decode cX0_swapSides 5 = .ok (.aload_n 0, 1) := by decide +kernel
theorem dX0_swapSides_6 : decode cX0_swapSides 6 = .ok (.aload_n 0, 1) := by decide +kernel
theorem dX0_swapSides_7 : decode cX0_swapSides 7 = .ok (.getfield 27, 3) := by decide +kernel
theorem dX0_swapSides_10 : decode cX0_swapSides 10 = .ok (.putfield 20, 3) := by decide +kernel
theorem dX0_swapSides_13 : decode cX0_swapSides 13 = .ok (.aload_n 0, 1) := by decide +kernel
theorem dX0_swapSides_14 : decode cX0_swapSides 14 = .ok (.aload_n 1, 1) := by decide +kernel
theorem dX0_swapSides_15 : decode cX0_swapSides 15 = .ok (.putfield 27, 3) := by decide +kernel
theorem dX0_swapSides_18 : decode cX0_swapSides 18 = .ok (.return_, 1) := by decide +kernel
theorem dX0_position_0 : decode cX0_position 0 = .ok (.aload_n 0, 1) := by decide +kernel
theorem dX0_position_1 : decode cX0_position 1 = .ok (.getfield 20, 3) := by decide +kernel
theorem dX0_position_4 : decode cX0_position 4 = .ok (.invokestatic 23, 3) := by decide +kernel
theorem dX0_position_7 : decode cX0_position 7 = .ok (.istore_n 1, 1) := by decide +kernel
theorem dX0_position_8 : decode cX0_position 8 = .ok (.aload_n 0, 1) := by decide +kernel
theorem dX0_position_9 : decode cX0_position 9 = .ok (.astore_n 2, 1) := by decide +kernel
theorem dX0_position_10 : decode cX0_position 10 = .ok (.aload_n 2, 1) := by decide +kernel
theorem dX0_position_11 : decode cX0_position 11 = .ok (.getfield 16, 3) := by decide +kernel
theorem dX0_position_14 : decode cX0_position 14 = .ok (.ifnull 33, 3) := by decide +kernel
theorem dX0_position_17 : decode cX0_position 17 = .ok (.aload_n 2, 1) := by decide +kernel
theorem dX0_position_18 : decode cX0_position 18 = .ok (.invokevirtual 37, 3) := by decide +kernel
theorem dX0_position_21 : decode cX0_position 21 = .ok (.ifCond .ne 18, 3) := by decide +kernel
theorem dX0_position_24 : decode cX0_position 24 = .ok (.iload_n 1, 1) := by decide +kernel
theorem dX0_position_25 : decode cX0_position 25 = .ok (.aload_n 2, 1) := by decide +kernel
theorem dX0_position_26 : decode cX0_position 26 = .ok (.getfield 16, 3) := by decide +kernel
theorem dX0_position_29 : decode cX0_position 29 = .ok (.getfield 7, 3) := by decide +kernel
theorem dX0_position_32 : decode cX0_position 32 = .ok (.aload_n 2, 1) := by decide +kernel
theorem dX0_position_33 : decode cX0_position 33 = .ok (.getfield 7, 3) := by decide +kernel
theorem dX0_position_36 : decode cX0_position 36 = .ok (.isub, 1) := by decide +kernel
theorem dX0_position_37 : decode cX0_position 37 = .ok (.iadd, 1) := by decide +kernel
theorem dX0_position_38 : decode cX0_position 38 = .ok (.istore_n 1, 1) := by decide +kernel
theorem dX0_position_39 : decode cX0_position 39 = .ok (.aload_n 2, 1) := by decide +kernel
theorem dX0_position_40 : decode cX0_position 40 = .ok (.getfield 16, 3) := by decide +kernel
theorem dX0_position_43 : decode cX0_position 43 = .ok (.astore_n 2, 1) := by decide +kernel
theorem dX0_position_44 : decode cX0_position 44 = .ok (.goto (-34), 3) := by decide +kernel
theorem dX0_position_47 : decode cX0_position 47 = .ok (.iload_n 1, 1) := by decide +kernel
theorem dX0_position_48 : decode cX0_position 48 = .ok (.ireturn, 1) := by decide +kernel
theorem dX0_nodesAbove_0 : decode cX0_nodesAbove 0 = .ok (.iconst 0, 1) := by decide +kernel
theorem dX0_nodesAbove_1 : decode cX0_nodesAbove 1 = .ok (.istore_n 1, 1) := by decide +kernel
theorem dX0_nodesAbove_2 : decode cX0_nodesAbove 2 = .ok (.aload_n 0, 1) := by decide +kernel
theorem dX0_nodesAbove_3 : decode cX0_nodesAbove 3 = .ok (.getfield 16, 3) := by decide +kernel
theorem dX0_nodesAbove_6 : decode cX0_nodesAbove 6 = .ok (.astore_n 2, 1) := by decide +kernel
theorem dX0_nodesAbove_7 : decode cX0_nodesAbove 7 = .ok (.aload_n 2, 1) := by decide +kernel
theorem dX0_nodesAbove_8 : decode cX0_nodesAbove 8 = .ok (.ifnull 14, 3) := by decide +kernel
theorem dX0_nodesAbove_11 : decode cX0_nodesAbove 11 = .ok (.iinc 1 1, 3) := by decide +kernel
theorem dX0_nodesAbove_14 : decode cX0_nodesAbove 14 = .ok (.aload_n 2, 1) := by decide +kernel
theorem dX0_nodesAbove_15 : decode cX0_nodesAbove 15 = .ok (.getfield 16, 3) := by decide +kernel
theorem dX0_nodesAbove_18 : decode cX0_nodesAbove 18 = .ok (.astore_n 2, 1) := by decide +kernel
theorem dX0_nodesAbove_19 : decode cX0_nodesAbove 19 = .ok (.goto (-12), 3) := by decide +kernel
theorem dX0_nodesAbove_22 : decode cX0_nodesAbove 22 = .ok (.iload_n 1, 1) := by decide +kernel
theorem dX0_nodesAbove_23 : decode cX0_nodesAbove 23 = .ok (.ireturn, 1) := by decide +kernel
theorem dX0_top_0 : decode cX0_top 0 = .ok (.aload_n 0, 1) := by decide +kernel
theorem dX0_top_1 : decode cX0_top 1 = .ok (.astore_n 1, 1) := by decide +kernel
theorem dX0_top_2 : decode cX0_top 2 = .ok (.aload_n 1, 1) := by decide +kernel
theorem dX0_top_3 : decode cX0_top 3 = .ok (.getfield 16, 3) := by decide +kernel
theorem dX0_top_6 : decode cX0_top 6 = .ok (.ifnull 11, 3) := by decide +kernel
theorem dX0_top_9 : decode cX0_top 9 = .ok (.aload_n 1, 1) := by decide +kernel
theorem dX0_top_10 : decode cX0_top 10 = .ok (.getfield 16, 3) := by decide +kernel
theorem dX0_top_13 : decode cX0_top 13 = .ok (.astore_n 1, 1) := by decide +kernel
theorem dX0_top_14 : decode cX0_top 14 = .ok (.goto (-12), 3) := by decide +kernel
theorem dX0_top_17 : decode cX0_top 17 = .ok (.aload_n 1, 1) := by decide +kernel
theorem dX0_top_18 : decode cX0_top 18 = .ok (.areturn, 1) := by decide +kernel
theorem dX0_nextOfWalk_0 : decode cX0_nextOfWalk 0 = .ok (.aload_n 0, 1) := by decide +kernel
theorem dX0_nextOfWalk_1 : decode cX0_nextOfWalk 1 = .ok (.getfield 20, 3) := by decide +kernel
theorem dX0_nextOfWalk_4 : decode cX0_nextOfWalk 4 = .ok (.ifnull 8, 3) := by decide +kernel
theorem dX0_nextOfWalk_7 : decode cX0_nextOfWalk 7 = .ok (.aload_n 0, 1) := by decide +kernel
theorem dX0_nextOfWalk_8 : decode cX0_nextOfWalk 8 = .ok (.getfield 20, 3) := by decide +kernel
theorem dX0_nextOfWalk_11 : decode cX0_nextOfWalk 11 = .ok (.areturn, 1) := by decide +kernel
theorem dX0_nextOfWalk_12 : decode cX0_nextOfWalk 12 = .ok (.aload_n 0, 1) := by decide +kernel
theorem dX0_nextOfWalk_13 : decode cX0_nextOfWalk 13 = .ok (.getfield 27, 3) := by decide +kernel
theorem dX0_nextOfWalk_16 : decode cX0_nextOfWalk 16 = .ok (.ifnull 8, 3) := by decide +kernel
theorem dX0_nextOfWalk_19 : decode cX0_nextOfWalk 19 = .ok (.aload_n 0, 1) := by decide +kernel
theorem dX0_nextOfWalk_20 : decode cX0_nextOfWalk 20 = .ok (.getfield 27, 3) := by decide +kernel
theorem dX0_nextOfWalk_23 : decode cX0_nextOfWalk 23 = .ok (.areturn, 1) := by decide +kernel
theorem dX0_nextOfWalk_24 : decode cX0_nextOfWalk 24 = .ok (.aload_n 0, 1) := by decide +kernel
theorem dX0_nextOfWalk_25 : decode cX0_nextOfWalk 25 = .ok (.astore_n 1, 1) := by decide +kernel
theorem dX0_nextOfWalk_26 : decode cX0_nextOfWalk 26 = .ok (.aload_n 1, 1) := by decide +kernel
theorem dX0_nextOfWalk_27 : decode cX0_nextOfWalk 27 = .ok (.getfield 16, 3) := by decide +kernel
theorem dX0_nextOfWalk_30 : decode cX0_nextOfWalk 30 = .ok (.ifnull 36, 3) := by decide +kernel
theorem dX0_nextOfWalk_33 : decode cX0_nextOfWalk 33 = .ok (.aload_n 1, 1) := by decide +kernel
theorem dX0_nextOfWalk_34 : decode cX0_nextOfWalk 34 = .ok (.invokevirtual 37, 3) := by decide +kernel
theorem dX0_nextOfWalk_37 : decode cX0_nextOfWalk 37 = .ok (.ifCond .eq 21, 3) := by decide +kernel
theorem dX0_nextOfWalk_40 : decode cX0_nextOfWalk 40 = .ok (.aload_n 1, 1) := by decide +kernel
theorem dX0_nextOfWalk_41 : decode cX0_nextOfWalk 41 = .ok (.getfield 16, 3) := by decide +kernel
theorem dX0_nextOfWalk_44 : decode cX0_nextOfWalk 44 = .ok (.getfield 27, 3) := by decide +kernel
theorem dX0_nextOfWalk_47 : decode cX0_nextOfWalk 47 = .ok (.ifnull 11, 3) := by decide +kernel
theorem dX0_nextOfWalk_50 : decode cX0_nextOfWalk 50 = .ok (.aload_n 1, 1) := by decide +kernel
theorem dX0_nextOfWalk_51 : decode cX0_nextOfWalk 51 = .ok (.getfield 16, 3) := by decide +kernel
theorem dX0_nextOfWalk_54 : decode cX0_nextOfWalk 54 = .ok (.getfield 27, 3) := by decide +kernel
theorem dX0_nextOfWalk_57 : decode cX0_nextOfWalk 57 = .ok (.areturn, 1) := by decide +kernel
theorem dX0_nextOfWalk_58 : decode cX0_nextOfWalk 58 = .ok (.aload_n 1, 1) := by decide +kernel
theorem dX0_nextOfWalk_59 : decode cX0_nextOfWalk 59 = .ok (.getfield 16, 3) := by decide +kernel
theorem dX0_nextOfWalk_62 : decode cX0_nextOfWalk 62 = .ok (.astore_n 1, 1) := by decide +kernel
theorem dX0_nextOfWalk_63 : decode cX0_nextOfWalk 63 = .ok (.goto (-37), 3) := by decide +kernel
theorem dX0_nextOfWalk_66 : decode cX0_nextOfWalk 66 = .ok (.aconst_null, 1) := by decide +kernel
theorem dX0_nextOfWalk_67 : decode cX0_nextOfWalk 67 = .ok (.areturn, 1) := by decide +kernel
theorem dX1_init_0 : decode cX1_init 0 = .ok (.aload_n 0, 1) := by decide +kernel
theorem dX1_init_1 : decode cX1_init 1 = .ok (.invokespecial 3, 3) := by decide +kernel
theorem dX1_init_4 : decode cX1_init 4 = .ok (.aload_n 0, 1) := by decide +kernel
theorem dX1_init_5 : decode cX1_init 5 = .ok (.bipush 60, 2) := by decide +kernel
theorem dX1_init_7 : decode cX1_init 7 = .ok (.newarray .int, 2) := by decide +kernel
theorem dX1_init_9 : decode cX1_init 9 = .ok (.putfield 9, 3) := by decide +kernel
theorem dX1_init_12 : decode cX1_init 12 = .ok (.return_, 1) := by decide +kernel
theorem dX1_valueAt_0 : decode cX1_valueAt 0 = .ok (.iload_n 1, 1) := by decide +kernel
theorem dX1_valueAt_1 : decode cX1_valueAt 1 = .ok (.ifCond .lt 20, 3) := by decide +kernel
theorem dX1_valueAt_4 : decode cX1_valueAt 4 = .ok (.iload_n 1, 1) := by decide +kernel
theorem dX1_valueAt_5 : decode cX1_valueAt 5 = .ok (.aload_n 0, 1) := by decide +kernel
theorem dX1_valueAt_6 : decode cX1_valueAt 6 = .ok (.getfield 15, 3) := by decide +kernel
theorem dX1_valueAt_9 : decode cX1_valueAt 9 = .ok (.if_icmp .ge 12, 3) := by decide +kernel
theorem dX1_valueAt_12 : decode cX1_valueAt 12 = .ok (.aload_n 0, 1) := by decide +kernel
theorem dX1_valueAt_13 : decode cX1_valueAt 13 = .ok (.getfield 9, 3) := by decide +kernel
theorem dX1_valueAt_16 : decode cX1_valueAt 16 = .ok (.iload_n 1, 1) := by decide +kernel
theorem dX1_valueAt_17 : decode cX1_valueAt 17 = .ok (.iaload, 1) := by decide +kernel
theorem dX1_valueAt_18 : decode cX1_valueAt 18 = .ok (.goto 4, 3) := by decide +kernel
theorem dX1_valueAt_21 : decode cX1_valueAt 21 = .ok (.iconst 0, 1) := by decide +kernel
theorem dX1_valueAt_22 : decode cX1_valueAt 22 = .ok (.ireturn, 1) := by decide +kernel
theorem dX1_replace_0 : decode cX1_replace 0 = .ok (.iload_n 1, 1) := by decide +kernel
theorem dX1_replace_1 : decode cX1_replace 1 = .ok (.ifCond .lt 18, 3) := by decide +kernel
theorem dX1_replace_4 : decode cX1_replace 4 = .ok (.iload_n 1, 1) := by decide +kernel
theorem dX1_replace_5 : decode cX1_replace 5 = .ok (.aload_n 0, 1) := by decide +kernel
theorem dX1_replace_6 : decode cX1_replace 6 = .ok (.getfield 15, 3) := by decide +kernel
theorem dX1_replace_9 : decode cX1_replace 9 = .ok (.if_icmp .ge 10, 3) := by decide +kernel
theorem dX1_replace_12 : decode cX1_replace 12 = .ok (.aload_n 0, 1) := by decide +kernel
theorem dX1_replace_13 : decode cX1_replace 13 = .ok (.getfield 9, 3) := by decide +kernel
theorem dX1_replace_16 : decode cX1_replace 16 = .ok (.iload_n 1, 1) := by decide +kernel
theorem dX1_replace_17 : decode cX1_replace 17 = .ok (.iload_n 2, 1) := by decide +kernel
theorem dX1_replace_18 : decode cX1_replace 18 = .ok (.iastore, 1) := by decide +kernel
theorem dX1_replace_19 : decode cX1_replace 19 = .ok (.return_, 1) := by decide +kernel
theorem dX1_open_0 : decode cX1_open 0 = .ok (.iload_n 1, 1) := by decide +kernel
theorem dX1_open_1 : decode cX1_open 1 = .ok (.ifCond .lt 23, 3) := by decide +kernel
theorem dX1_open_4 : decode cX1_open 4 = .ok (.iload_n 1, 1) := by decide +kernel
theorem dX1_open_5 : decode cX1_open 5 = .ok (.aload_n 0, 1) := by decide +kernel
theorem dX1_open_6 : decode cX1_open 6 = .ok (.getfield 15, 3) := by decide +kernel
theorem dX1_open_9 : decode cX1_open 9 = .ok (.if_icmp .gt 15, 3) := by decide +kernel
theorem dX1_open_12 : decode cX1_open 12 = .ok (.aload_n 0, 1) := by decide +kernel
theorem dX1_open_13 : decode cX1_open 13 = .ok (.getfield 15, 3) := by decide +kernel
theorem dX1_open_16 : decode cX1_open 16 = .ok (.aload_n 0, 1) := by decide +kernel
theorem dX1_open_17 : decode cX1_open 17 = .ok (.getfield 9, 3) := by decide +kernel
theorem dX1_open_20 : decode cX1_open 20 = .ok (.arraylength, 1) := by decide +kernel
theorem dX1_open_21 : decode cX1_open 21 = .ok (.if_icmp .lt 4, 3) := by decide +kernel
theorem dX1_open_24 : decode cX1_open 24 = .ok (.return_, 1) := by decide +kernel
theorem dX1_open_25 : decode cX1_open 25 = .ok (.aload_n 0, 1) := by decide +kernel
theorem dX1_open_26 : decode cX1_open 26 = .ok (.getfield 9, 3) := by decide +kernel
theorem dX1_open_29 : decode cX1_open 29 = .ok (.iload_n 1, 1) := by decide +kernel
theorem dX1_open_30 : decode cX1_open 30 = .ok (.aload_n 0, 1) := by decide +kernel
theorem dX1_open_31 : decode cX1_open 31 = .ok (.getfield 9, 3) := by decide +kernel
theorem dX1_open_34 : decode cX1_open 34 = .ok (.iload_n 1, 1) := by decide +kernel
theorem dX1_open_35 : decode cX1_open 35 = .ok (.iconst 1, 1) := by decide +kernel
theorem dX1_open_36 : decode cX1_open 36 = .ok (.iadd, 1) := by decide +kernel
theorem dX1_open_37 : decode cX1_open 37 = .ok (.aload_n 0, 1) := by decide +kernel
theorem dX1_open_38 : decode cX1_open 38 = .ok (.getfield 15, 3) := by decide +kernel
theorem dX1_open_41 : decode cX1_open 41 = .ok (.iload_n 1, 1) := by decide +kernel
theorem dX1_open_42 : decode cX1_open 42 = .ok (.isub, 1) := by decide +kernel
theorem dX1_open_43 : decode cX1_open 43 = .ok (.invokestatic 19, 3) := by decide +kernel
theorem dX1_open_46 : decode cX1_open 46 = .ok (.aload_n 0, 1) := by decide +kernel
theorem dX1_open_47 : decode cX1_open 47 = .ok (.getfield 9, 3) := by decide +kernel
theorem dX1_open_50 : decode cX1_open 50 = .ok (.iload_n 1, 1) := by decide +kernel
theorem dX1_open_51 : decode cX1_open 51 = .ok (.iload_n 2, 1) := by decide +kernel
theorem dX1_open_52 : decode cX1_open 52 = .ok (.iastore, 1) := by decide +kernel
theorem dX1_open_53 : decode cX1_open 53 = .ok (.aload_n 0, 1) := by decide +kernel
theorem dX1_open_54 : decode cX1_open 54 = .ok (.dup, 1) := by decide +kernel
theorem dX1_open_55 : decode cX1_open 55 = .ok (.getfield 15, 3) := by decide +kernel
theorem dX1_open_58 : decode cX1_open 58 = .ok (.iconst 1, 1) := by decide +kernel
theorem dX1_open_59 : decode cX1_open 59 = .ok (.iadd, 1) := by decide +kernel
theorem dX1_open_60 : decode cX1_open 60 = .ok (.putfield 15, 3) := by decide +kernel
theorem dX1_open_63 : decode cX1_open 63 = .ok (.return_, 1) := by decide +kernel
theorem dX1_close_0 : decode cX1_close 0 = .ok (.iload_n 1, 1) := by decide +kernel
theorem dX1_close_1 : decode cX1_close 1 = .ok (.ifCond .lt 44, 3) := by decide +kernel
theorem dX1_close_4 : decode cX1_close 4 = .ok (.iload_n 1, 1) := by decide +kernel
theorem dX1_close_5 : decode cX1_close 5 = .ok (.aload_n 0, 1) := by decide +kernel
theorem dX1_close_6 : decode cX1_close 6 = .ok (.getfield 15, 3) := by decide +kernel
theorem dX1_close_9 : decode cX1_close 9 = .ok (.if_icmp .ge 36, 3) := by decide +kernel
theorem dX1_close_12 : decode cX1_close 12 = .ok (.aload_n 0, 1) := by decide +kernel
theorem dX1_close_13 : decode cX1_close 13 = .ok (.getfield 9, 3) := by decide +kernel
theorem dX1_close_16 : decode cX1_close 16 = .ok (.iload_n 1, 1) := by decide +kernel
theorem dX1_close_17 : decode cX1_close 17 = .ok (.iconst 1, 1) := by decide +kernel
theorem dX1_close_18 : decode cX1_close 18 = .ok (.iadd, 1) := by decide +kernel
theorem dX1_close_19 : decode cX1_close 19 = .ok (.aload_n 0, 1) := by decide +kernel
theorem dX1_close_20 : decode cX1_close 20 = .ok (.getfield 9, 3) := by decide +kernel
theorem dX1_close_23 : decode cX1_close 23 = .ok (.iload_n 1, 1) := by decide +kernel
theorem dX1_close_24 : decode cX1_close 24 = .ok (.aload_n 0, 1) := by decide +kernel
theorem dX1_close_25 : decode cX1_close 25 = .ok (.getfield 15, 3) := by decide +kernel
theorem dX1_close_28 : decode cX1_close 28 = .ok (.iload_n 1, 1) := by decide +kernel
theorem dX1_close_29 : decode cX1_close 29 = .ok (.isub, 1) := by decide +kernel
theorem dX1_close_30 : decode cX1_close 30 = .ok (.iconst 1, 1) := by decide +kernel
theorem dX1_close_31 : decode cX1_close 31 = .ok (.isub, 1) := by decide +kernel
theorem dX1_close_32 : decode cX1_close 32 = .ok (.invokestatic 19, 3) := by decide +kernel
theorem dX1_close_35 : decode cX1_close 35 = .ok (.aload_n 0, 1) := by decide +kernel
theorem dX1_close_36 : decode cX1_close 36 = .ok (.dup, 1) := by decide +kernel
theorem dX1_close_37 : decode cX1_close 37 = .ok (.getfield 15, 3) := by decide +kernel
theorem dX1_close_40 : decode cX1_close 40 = .ok (.iconst 1, 1) := by decide +kernel
theorem dX1_close_41 : decode cX1_close 41 = .ok (.isub, 1) := by decide +kernel
theorem dX1_close_42 : decode cX1_close 42 = .ok (.putfield 15, 3) := by decide +kernel
theorem dX1_close_45 : decode cX1_close 45 = .ok (.return_, 1) := by decide +kernel
theorem dX1_turnRound_0 : decode cX1_turnRound 0 = .ok (.aload_n 0, 1) := by decide +kernel
theorem dX1_turnRound_1 : decode cX1_turnRound 1 = .ok (.iload_n 1, 1) := by decide +kernel
theorem dX1_turnRound_2 : decode cX1_turnRound 2 = .ok (.iload_n 2, 1) := by decide +kernel
theorem dX1_turnRound_3 : decode cX1_turnRound 3 = .ok (.invokevirtual 25, 3) := by decide +kernel
theorem dX1_turnRound_6 : decode cX1_turnRound 6 = .ok (.ifCond .ne 4, 3) := by decide +kernel
theorem dX1_turnRound_9 : decode cX1_turnRound 9 = .ok (.return_, 1) := by decide +kernel
theorem dX1_turnRound_10 : decode cX1_turnRound 10 = .ok (.iload_n 1, 1) := by decide +kernel
theorem dX1_turnRound_11 : decode cX1_turnRound 11 = .ok (.istore_n 3, 1) := by decide +kernel
theorem dX1_turnRound_12 : decode cX1_turnRound 12 = .ok (.iload_n 2, 1) := by decide +kernel
theorem dX1_turnRound_13 : decode cX1_turnRound 13 = .ok (.iconst 1, 1) := by decide +kernel
theorem dX1_turnRound_14 : decode cX1_turnRound 14 = .ok (.isub, 1) := by decide +kernel
theorem dX1_turnRound_15 : decode cX1_turnRound 15 = .ok (.istore 4, 2) := by decide +kernel
theorem dX1_turnRound_17 : decode cX1_turnRound 17 = .ok (.iload_n 3, 1) := by decide +kernel
theorem dX1_turnRound_18 : decode cX1_turnRound 18 = .ok (.iload 4, 2) := by decide +kernel
theorem dX1_turnRound_20 : decode cX1_turnRound 20 = .ok (.if_icmp .ge 42, 3) := by decide +kernel
theorem dX1_turnRound_23 : decode cX1_turnRound 23 = .ok (.aload_n 0, 1) := by decide +kernel
theorem dX1_turnRound_24 : decode cX1_turnRound 24 = .ok (.getfield 9, 3) := by decide +kernel
theorem dX1_turnRound_27 : decode cX1_turnRound 27 = .ok (.iload_n 3, 1) := by decide +kernel
theorem dX1_turnRound_28 : decode cX1_turnRound 28 = .ok (.iaload, 1) := by decide +kernel
theorem dX1_turnRound_29 : decode cX1_turnRound 29 = .ok (.istore 5, 2) := by decide +kernel
theorem dX1_turnRound_31 : decode cX1_turnRound 31 = .ok (.aload_n 0, 1) := by decide +kernel
theorem dX1_turnRound_32 : decode cX1_turnRound 32 = .ok (.getfield 9, 3) := by decide +kernel
theorem dX1_turnRound_35 : decode cX1_turnRound 35 = .ok (.iload_n 3, 1) := by decide +kernel
theorem dX1_turnRound_36 : decode cX1_turnRound 36 = .ok (.aload_n 0, 1) := by decide +kernel
theorem dX1_turnRound_37 : decode cX1_turnRound 37 = .ok (.getfield 9, 3) := by decide +kernel
theorem dX1_turnRound_40 : decode cX1_turnRound 40 = .ok (.iload 4, 2) := by decide +kernel
theorem dX1_turnRound_42 : decode cX1_turnRound 42 = .ok (.iaload, 1) := by decide +kernel
theorem dX1_turnRound_43 : decode cX1_turnRound 43 = .ok (.iastore, 1) := by decide +kernel
theorem dX1_turnRound_44 : decode cX1_turnRound 44 = .ok (.aload_n 0, 1) := by decide +kernel
theorem dX1_turnRound_45 : decode cX1_turnRound 45 = .ok (.getfield 9, 3) := by decide +kernel
theorem dX1_turnRound_48 : decode cX1_turnRound 48 = .ok (.iload 4, 2) := by decide +kernel
theorem dX1_turnRound_50 : decode cX1_turnRound 50 = .ok (.iload 5, 2) := by decide +kernel
theorem dX1_turnRound_52 : decode cX1_turnRound 52 = .ok (.iastore, 1) := by decide +kernel
theorem dX1_turnRound_53 : decode cX1_turnRound 53 = .ok (.iinc 3 1, 3) := by decide +kernel
theorem dX1_turnRound_56 : decode cX1_turnRound 56 = .ok (.iinc 4 (-1), 3) := by decide +kernel
theorem dX1_turnRound_59 : decode cX1_turnRound 59 = .ok (.goto (-42), 3) := by decide +kernel
theorem dX1_turnRound_62 : decode cX1_turnRound 62 = .ok (.return_, 1) := by decide +kernel
theorem dX1_addToAll_0 : decode cX1_addToAll 0 = .ok (.aload_n 0, 1) := by decide +kernel
theorem dX1_addToAll_1 : decode cX1_addToAll 1 = .ok (.iload_n 1, 1) := by decide +kernel
theorem dX1_addToAll_2 : decode cX1_addToAll 2 = .ok (.iload_n 2, 1) := by decide +kernel
theorem dX1_addToAll_3 : decode cX1_addToAll 3 = .ok (.invokevirtual 25, 3) := by decide +kernel
theorem dX1_addToAll_6 : decode cX1_addToAll 6 = .ok (.ifCond .ne 4, 3) := by decide +kernel
theorem dX1_addToAll_9 : decode cX1_addToAll 9 = .ok (.return_, 1) := by decide +kernel
theorem dX1_addToAll_10 : decode cX1_addToAll 10 = .ok (.iload_n 1, 1) := by decide +kernel
theorem dX1_addToAll_11 : decode cX1_addToAll 11 = .ok (.istore 4, 2) := by decide +kernel
theorem dX1_addToAll_13 : decode cX1_addToAll 13 = .ok (.iload 4, 2) := by decide +kernel
theorem dX1_addToAll_15 : decode cX1_addToAll 15 = .ok (.iload_n 2, 1) := by decide +kernel
theorem dX1_addToAll_16 : decode cX1_addToAll 16 = .ok (.if_icmp .ge 20, 3) := by decide +kernel
theorem dX1_addToAll_19 : decode cX1_addToAll 19 = .ok (.aload_n 0, 1) := by decide +kernel
theorem dX1_addToAll_20 : decode cX1_addToAll 20 = .ok (.getfield 9, 3) := by decide +kernel
theorem dX1_addToAll_23 : decode cX1_addToAll 23 = .ok (.iload 4, 2) := by decide +kernel
theorem dX1_addToAll_25 : decode cX1_addToAll 25 = .ok (.dup2, 1) := by decide +kernel
theorem dX1_addToAll_26 : decode cX1_addToAll 26 = .ok (.iaload, 1) := by decide +kernel
theorem dX1_addToAll_27 : decode cX1_addToAll 27 = .ok (.iload_n 3, 1) := by decide +kernel
theorem dX1_addToAll_28 : decode cX1_addToAll 28 = .ok (.iadd, 1) := by decide +kernel
theorem dX1_addToAll_29 : decode cX1_addToAll 29 = .ok (.iastore, 1) := by decide +kernel
theorem dX1_addToAll_30 : decode cX1_addToAll 30 = .ok (.iinc 4 1, 3) := by decide +kernel
theorem dX1_addToAll_33 : decode cX1_addToAll 33 = .ok (.goto (-20), 3) := by decide +kernel
theorem dX1_addToAll_36 : decode cX1_addToAll 36 = .ok (.return_, 1) := by decide +kernel
theorem dX1_total_0 : decode cX1_total 0 = .ok (.aload_n 0, 1) := by decide +kernel
theorem dX1_total_1 : decode cX1_total 1 = .ok (.iload_n 1, 1) := by decide +kernel
theorem dX1_total_2 : decode cX1_total 2 = .ok (.iload_n 2, 1) := by decide +kernel
theorem dX1_total_3 : decode cX1_total 3 = .ok (.invokevirtual 25, 3) := by decide +kernel
theorem dX1_total_6 : decode cX1_total 6 = .ok (.ifCond .ne 5, 3) := by decide +kernel
theorem dX1_total_9 : decode cX1_total 9 = .ok (.iconst 0, 1) := by decide +kernel
theorem dX1_total_10 : decode cX1_total 10 = .ok (.ireturn, 1) := by decide +kernel
theorem dX1_total_11 : decode cX1_total 11 = .ok (.iconst 0, 1) := by decide +kernel
theorem dX1_total_12 : decode cX1_total 12 = .ok (.istore_n 3, 1) := by decide +kernel
theorem dX1_total_13 : decode cX1_total 13 = .ok (.iload_n 1, 1) := by decide +kernel
theorem dX1_total_14 : decode cX1_total 14 = .ok (.istore 4, 2) := by decide +kernel
theorem dX1_total_16 : decode cX1_total 16 = .ok (.iload 4, 2) := by decide +kernel
theorem dX1_total_18 : decode cX1_total 18 = .ok (.iload_n 2, 1) := by decide +kernel
theorem dX1_total_19 : decode cX1_total 19 = .ok (.if_icmp .ge 19, 3) := by decide +kernel
theorem dX1_total_22 : decode cX1_total 22 = .ok (.iload_n 3, 1) := by decide +kernel
theorem dX1_total_23 : decode cX1_total 23 = .ok (.aload_n 0, 1) := by decide +kernel
theorem dX1_total_24 : decode cX1_total 24 = .ok (.getfield 9, 3) := by decide +kernel
theorem dX1_total_27 : decode cX1_total 27 = .ok (.iload 4, 2) := by decide +kernel
theorem dX1_total_29 : decode cX1_total 29 = .ok (.iaload, 1) := by decide +kernel
theorem dX1_total_30 : decode cX1_total 30 = .ok (.iadd, 1) := by decide +kernel
theorem dX1_total_31 : decode cX1_total 31 = .ok (.istore_n 3, 1) := by decide +kernel
theorem dX1_total_32 : decode cX1_total 32 = .ok (.iinc 4 1, 3) := by decide +kernel
theorem dX1_total_35 : decode cX1_total 35 = .ok (.goto (-19), 3) := by decide +kernel
theorem dX1_total_38 : decode cX1_total 38 = .ok (.iload_n 3, 1) := by decide +kernel
theorem dX1_total_39 : decode cX1_total 39 = .ok (.ireturn, 1) := by decide +kernel
theorem dX1_moveOut_0 : decode cX1_moveOut 0 = .ok (.aload_n 0, 1) := by decide +kernel
theorem dX1_moveOut_1 : decode cX1_moveOut 1 = .ok (.iload_n 1, 1) := by decide +kernel
theorem dX1_moveOut_2 : decode cX1_moveOut 2 = .ok (.iload_n 2, 1) := by decide +kernel
theorem dX1_moveOut_3 : decode cX1_moveOut 3 = .ok (.invokevirtual 25, 3) := by decide +kernel
theorem dX1_moveOut_6 : decode cX1_moveOut 6 = .ok (.ifCond .ne 4, 3) := by decide +kernel
theorem dX1_moveOut_9 : decode cX1_moveOut 9 = .ok (.return_, 1) := by decide +kernel
theorem dX1_moveOut_10 : decode cX1_moveOut 10 = .ok (.aload_n 0, 1) := by decide +kernel
theorem dX1_moveOut_11 : decode cX1_moveOut 11 = .ok (.getfield 9, 3) := by decide +kernel
theorem dX1_moveOut_14 : decode cX1_moveOut 14 = .ok (.iload_n 1, 1) := by decide +kernel
theorem dX1_moveOut_15 : decode cX1_moveOut 15 = .ok (.aload_n 3, 1) := by decide +kernel
theorem dX1_moveOut_16 : decode cX1_moveOut 16 = .ok (.getfield 9, 3) := by decide +kernel
theorem dX1_moveOut_19 : decode cX1_moveOut 19 = .ok (.iconst 0, 1) := by decide +kernel
theorem dX1_moveOut_20 : decode cX1_moveOut 20 = .ok (.iload_n 2, 1) := by decide +kernel
theorem dX1_moveOut_21 : decode cX1_moveOut 21 = .ok (.iload_n 1, 1) := by decide +kernel
theorem dX1_moveOut_22 : decode cX1_moveOut 22 = .ok (.isub, 1) := by decide +kernel
theorem dX1_moveOut_23 : decode cX1_moveOut 23 = .ok (.invokestatic 19, 3) := by decide +kernel
theorem dX1_moveOut_26 : decode cX1_moveOut 26 = .ok (.aload_n 0, 1) := by decide +kernel
theorem dX1_moveOut_27 : decode cX1_moveOut 27 = .ok (.getfield 9, 3) := by decide +kernel
theorem dX1_moveOut_30 : decode cX1_moveOut 30 = .ok (.iload_n 2, 1) := by decide +kernel
theorem dX1_moveOut_31 : decode cX1_moveOut 31 = .ok (.aload_n 0, 1) := by decide +kernel
theorem dX1_moveOut_32 : decode cX1_moveOut 32 = .ok (.getfield 9, 3) := by decide +kernel
theorem dX1_moveOut_35 : decode cX1_moveOut 35 = .ok (.iload_n 1, 1) := by decide +kernel
theorem dX1_moveOut_36 : decode cX1_moveOut 36 = .ok (.aload_n 0, 1) := by decide +kernel
theorem dX1_moveOut_37 : decode cX1_moveOut 37 = .ok (.getfield 15, 3) := by decide +kernel
theorem dX1_moveOut_40 : decode cX1_moveOut 40 = .ok (.iload_n 2, 1) := by decide +kernel
theorem dX1_moveOut_41 : decode cX1_moveOut 41 = .ok (.isub, 1) := by decide +kernel
theorem dX1_moveOut_42 : decode cX1_moveOut 42 = .ok (.invokestatic 19, 3) := by decide +kernel
theorem dX1_moveOut_45 : decode cX1_moveOut 45 = .ok (.aload_n 3, 1) := by decide +kernel
theorem dX1_moveOut_46 : decode cX1_moveOut 46 = .ok (.iload_n 2, 1) := by decide +kernel
theorem dX1_moveOut_47 : decode cX1_moveOut 47 = .ok (.iload_n 1, 1) := by decide +kernel
theorem dX1_moveOut_48 : decode cX1_moveOut 48 = .ok (.isub, 1) := by decide +kernel
theorem dX1_moveOut_49 : decode cX1_moveOut 49 = .ok (.putfield 15, 3) := by decide +kernel
theorem dX1_moveOut_52 : decode cX1_moveOut 52 = .ok (.aload_n 0, 1) := by decide +kernel
theorem dX1_moveOut_53 : decode cX1_moveOut 53 = .ok (.dup, 1) := by decide +kernel
theorem dX1_moveOut_54 : decode cX1_moveOut 54 = .ok (.getfield 15, 3) := by decide +kernel
theorem dX1_moveOut_57 : decode cX1_moveOut 57 = .ok (.iload_n 2, 1) := by decide +kernel
theorem dX1_moveOut_58 : decode cX1_moveOut 58 = .ok (.iload_n 1, 1) := by decide +kernel
theorem dX1_moveOut_59 : decode cX1_moveOut 59 = .ok (.isub, 1) := by decide +kernel
theorem dX1_moveOut_60 : decode cX1_moveOut 60 = .ok (.isub, 1) := by decide +kernel
theorem dX1_moveOut_61 : decode cX1_moveOut 61 = .ok (.putfield 15, 3) := by decide +kernel
theorem dX1_moveOut_64 : decode cX1_moveOut 64 = .ok (.return_, 1) := by decide +kernel
theorem dX1_moveIn_0 : decode cX1_moveIn 0 = .ok (.iload_n 1, 1) := by decide +kernel
theorem dX1_moveIn_1 : decode cX1_moveIn 1 = .ok (.ifCond .lt 28, 3) := by decide +kernel
theorem dX1_moveIn_4 : decode cX1_moveIn 4 = .ok (.iload_n 1, 1) := by decide +kernel
theorem dX1_moveIn_5 : decode cX1_moveIn 5 = .ok (.aload_n 0, 1) := by decide +kernel
theorem dX1_moveIn_6 : decode cX1_moveIn 6 = .ok (.getfield 15, 3) := by decide +kernel
theorem dX1_moveIn_9 : decode cX1_moveIn 9 = .ok (.if_icmp .gt 20, 3) := by decide +kernel
theorem dX1_moveIn_12 : decode cX1_moveIn 12 = .ok (.aload_n 2, 1) := by decide +kernel
theorem dX1_moveIn_13 : decode cX1_moveIn 13 = .ok (.getfield 15, 3) := by decide +kernel
theorem dX1_moveIn_16 : decode cX1_moveIn 16 = .ok (.aload_n 0, 1) := by decide +kernel
theorem dX1_moveIn_17 : decode cX1_moveIn 17 = .ok (.getfield 9, 3) := by decide +kernel
theorem dX1_moveIn_20 : decode cX1_moveIn 20 = .ok (.arraylength, 1) := by decide +kernel
theorem dX1_moveIn_21 : decode cX1_moveIn 21 = .ok (.aload_n 0, 1) := by decide +kernel
theorem dX1_moveIn_22 : decode cX1_moveIn 22 = .ok (.getfield 15, 3) := by decide +kernel
theorem dX1_moveIn_25 : decode cX1_moveIn 25 = .ok (.isub, 1) := by decide +kernel
theorem dX1_moveIn_26 : decode cX1_moveIn 26 = .ok (.if_icmp .le 4, 3) := by decide +kernel
theorem dX1_moveIn_29 : decode cX1_moveIn 29 = .ok (.return_, 1) := by decide +kernel
theorem dX1_moveIn_30 : decode cX1_moveIn 30 = .ok (.aload_n 0, 1) := by decide +kernel
theorem dX1_moveIn_31 : decode cX1_moveIn 31 = .ok (.getfield 9, 3) := by decide +kernel
theorem dX1_moveIn_34 : decode cX1_moveIn 34 = .ok (.iload_n 1, 1) := by decide +kernel
theorem dX1_moveIn_35 : decode cX1_moveIn 35 = .ok (.aload_n 0, 1) := by decide +kernel
theorem dX1_moveIn_36 : decode cX1_moveIn 36 = .ok (.getfield 9, 3) := by decide +kernel
theorem dX1_moveIn_39 : decode cX1_moveIn 39 = .ok (.iload_n 1, 1) := by decide +kernel
theorem dX1_moveIn_40 : decode cX1_moveIn 40 = .ok (.aload_n 2, 1) := by decide +kernel
theorem dX1_moveIn_41 : decode cX1_moveIn 41 = .ok (.getfield 15, 3) := by decide +kernel
theorem dX1_moveIn_44 : decode cX1_moveIn 44 = .ok (.iadd, 1) := by decide +kernel
theorem dX1_moveIn_45 : decode cX1_moveIn 45 = .ok (.aload_n 0, 1) := by decide +kernel
theorem dX1_moveIn_46 : decode cX1_moveIn 46 = .ok (.getfield 15, 3) := by decide +kernel
theorem dX1_moveIn_49 : decode cX1_moveIn 49 = .ok (.iload_n 1, 1) := by decide +kernel
theorem dX1_moveIn_50 : decode cX1_moveIn 50 = .ok (.isub, 1) := by decide +kernel
theorem dX1_moveIn_51 : decode cX1_moveIn 51 = .ok (.invokestatic 19, 3) := by decide +kernel
theorem dX1_moveIn_54 : decode cX1_moveIn 54 = .ok (.aload_n 2, 1) := by decide +kernel
theorem dX1_moveIn_55 : decode cX1_moveIn 55 = .ok (.getfield 9, 3) := by decide +kernel
theorem dX1_moveIn_58 : decode cX1_moveIn 58 = .ok (.iconst 0, 1) := by decide +kernel
theorem dX1_moveIn_59 : decode cX1_moveIn 59 = .ok (.aload_n 0, 1) := by decide +kernel
theorem dX1_moveIn_60 : decode cX1_moveIn 60 = .ok (.getfield 9, 3) := by decide +kernel
theorem dX1_moveIn_63 : decode cX1_moveIn 63 = .ok (.iload_n 1, 1) := by decide +kernel
theorem dX1_moveIn_64 : decode cX1_moveIn 64 = .ok (.aload_n 2, 1) := by decide +kernel
theorem dX1_moveIn_65 : decode cX1_moveIn 65 = .ok (.getfield 15, 3) := by decide +kernel
theorem dX1_moveIn_68 : decode cX1_moveIn 68 = .ok (.invokestatic 19, 3) := by decide +kernel
theorem dX1_moveIn_71 : decode cX1_moveIn 71 = .ok (.aload_n 0, 1) := by decide +kernel
theorem dX1_moveIn_72 : decode cX1_moveIn 72 = .ok (.dup, 1) := by decide +kernel
theorem dX1_moveIn_73 : decode cX1_moveIn 73 = .ok (.getfield 15, 3) := by decide +kernel
theorem dX1_moveIn_76 : decode cX1_moveIn 76 = .ok (.aload_n 2, 1) := by decide +kernel
theorem dX1_moveIn_77 : decode cX1_moveIn 77 = .ok (.getfield 15, 3) := by decide +kernel
theorem dX1_moveIn_80 : decode cX1_moveIn 80 = .ok (.iadd, 1) := by decide +kernel
theorem dX1_moveIn_81 : decode cX1_moveIn 81 = .ok (.putfield 15, 3) := by decide +kernel
theorem dX1_moveIn_84 : decode cX1_moveIn 84 = .ok (.aload_n 2, 1) := by decide +kernel
theorem dX1_moveIn_85 : decode cX1_moveIn 85 = .ok (.iconst 0, 1) := by decide +kernel
theorem dX1_moveIn_86 : decode cX1_moveIn 86 = .ok (.putfield 15, 3) := by decide +kernel
theorem dX1_moveIn_89 : decode cX1_moveIn 89 = .ok (.return_, 1) := by decide +kernel
theorem dX1_hasRange_0 : decode cX1_hasRange 0 = .ok (.iload_n 1, 1) := by decide +kernel
theorem dX1_hasRange_1 : decode cX1_hasRange 1 = .ok (.ifCond .lt 20, 3) := by decide +kernel
theorem dX1_hasRange_4 : decode cX1_hasRange 4 = .ok (.iload_n 1, 1) := by decide +kernel
theorem dX1_hasRange_5 : decode cX1_hasRange 5 = .ok (.iload_n 2, 1) := by decide +kernel
theorem dX1_hasRange_6 : decode cX1_hasRange 6 = .ok (.if_icmp .gt 15, 3) := by decide +kernel
theorem dX1_hasRange_9 : decode cX1_hasRange 9 = .ok (.iload_n 2, 1) := by decide +kernel
theorem dX1_hasRange_10 : decode cX1_hasRange 10 = .ok (.aload_n 0, 1) := by decide +kernel
theorem dX1_hasRange_11 : decode cX1_hasRange 11 = .ok (.getfield 15, 3) := by decide +kernel
theorem dX1_hasRange_14 : decode cX1_hasRange 14 = .ok (.if_icmp .gt 7, 3) := by decide +kernel
theorem dX1_hasRange_17 : decode cX1_hasRange 17 = .ok (.iconst 1, 1) := by decide +kernel
theorem dX1_hasRange_18 : decode cX1_hasRange 18 = .ok (.goto 4, 3) := by decide +kernel
theorem dX1_hasRange_21 : decode cX1_hasRange 21 = .ok (.iconst 0, 1) := by decide +kernel
theorem dX1_hasRange_22 : decode cX1_hasRange 22 = .ok (.ireturn, 1) := by decide +kernel
theorem dX2_init_0 : decode cX2_init 0 = .ok (.aload_n 0, 1) := by decide +kernel
theorem dX2_init_1 : decode cX2_init 1 = .ok (.invokespecial 3, 3) := by decide +kernel
theorem dX2_init_4 : decode cX2_init 4 = .ok (.return_, 1) := by decide +kernel
theorem dX2_beginCall_0 : decode cX2_beginCall 0 = .ok (.aload_n 0, 1) := by decide +kernel
theorem dX2_beginCall_1 : decode cX2_beginCall 1 = .ok (.iconst 0, 1) := by decide +kernel
theorem dX2_beginCall_2 : decode cX2_beginCall 2 = .ok (.putfield 9, 3) := by decide +kernel
theorem dX2_beginCall_5 : decode cX2_beginCall 5 = .ok (.aload_n 0, 1) := by decide +kernel
theorem dX2_beginCall_6 : decode cX2_beginCall 6 = .ok (.iconst 0, 1) := by decide +kernel
theorem dX2_beginCall_7 : decode cX2_beginCall 7 = .ok (.putfield 15, 3) := by decide +kernel
theorem dX2_beginCall_10 : decode cX2_beginCall 10 = .ok (.return_, 1) := by decide +kernel
theorem dX2_splay_0 : decode cX2_splay 0 = .ok (.aload_n 0, 1) := by decide +kernel
theorem dX2_splay_1 : decode cX2_splay 1 = .ok (.dup, 1) := by decide +kernel
theorem dX2_splay_2 : decode cX2_splay 2 = .ok (.getfield 18, 3) := by decide +kernel
theorem dX2_splay_5 : decode cX2_splay 5 = .ok (.iconst 1, 1) := by decide +kernel
theorem dX2_splay_6 : decode cX2_splay 6 = .ok (.iadd, 1) := by decide +kernel
theorem dX2_splay_7 : decode cX2_splay 7 = .ok (.putfield 18, 3) := by decide +kernel
theorem dX2_splay_10 : decode cX2_splay 10 = .ok (.iconst 0, 1) := by decide +kernel
theorem dX2_splay_11 : decode cX2_splay 11 = .ok (.istore_n 3, 1) := by decide +kernel
theorem dX2_splay_12 : decode cX2_splay 12 = .ok (.iload_n 3, 1) := by decide +kernel
theorem dX2_splay_13 : decode cX2_splay 13 = .ok (.bipush 60, 2) := by decide +kernel
theorem dX2_splay_15 : decode cX2_splay 15 = .ok (.if_icmp .ge 89, 3) := by decide +kernel
theorem dX2_splay_18 : decode cX2_splay 18 = .ok (.aload_n 2, 1) := by decide +kernel
theorem dX2_splay_19 : decode cX2_splay 19 = .ok (.getfield 21, 3) := by decide +kernel
theorem dX2_splay_22 : decode cX2_splay 22 = .ok (.ifnull 82, 3) := by decide +kernel
theorem dX2_splay_25 : decode cX2_splay 25 = .ok (.aload_n 2, 1) := by decide +kernel
theorem dX2_splay_26 : decode cX2_splay 26 = .ok (.getfield 21, 3) := by decide +kernel
theorem dX2_splay_29 : decode cX2_splay 29 = .ok (.astore 4, 2) := by decide +kernel
theorem dX2_splay_31 : decode cX2_splay 31 = .ok (.aload 4, 2) := by decide +kernel
theorem dX2_splay_33 : decode cX2_splay 33 = .ok (.getfield 21, 3) := by decide +kernel
theorem dX2_splay_36 : decode cX2_splay 36 = .ok (.ifnull 37, 3) := by decide +kernel
theorem dX2_splay_39 : decode cX2_splay 39 = .ok (.aload_n 2, 1) := by decide +kernel
theorem dX2_splay_40 : decode cX2_splay 40 = .ok (.invokevirtual 27, 3) := by decide +kernel
theorem dX2_splay_43 : decode cX2_splay 43 = .ok (.aload 4, 2) := by decide +kernel
theorem dX2_splay_45 : decode cX2_splay 45 = .ok (.invokevirtual 27, 3) := by decide +kernel
theorem dX2_splay_48 : decode cX2_splay 48 = .ok (.if_icmp .ne 7, 3) := by decide +kernel
theorem dX2_splay_51 : decode cX2_splay 51 = .ok (.iconst 1, 1) := by decide +kernel
theorem dX2_splay_52 : decode cX2_splay 52 = .ok (.goto 4, 3) := by decide +kernel
theorem dX2_splay_55 : decode cX2_splay 55 = .ok (.iconst 0, 1) := by decide +kernel
theorem dX2_splay_56 : decode cX2_splay 56 = .ok (.istore 5, 2) := by decide +kernel
theorem dX2_splay_58 : decode cX2_splay 58 = .ok (.aload_n 0, 1) := by decide +kernel
theorem dX2_splay_59 : decode cX2_splay 59 = .ok (.iload 5, 2) := by decide +kernel
theorem dX2_splay_61 : decode cX2_splay 61 = .ok (.ifCond .eq 8, 3) := by decide +kernel
theorem dX2_splay_64 : decode cX2_splay 64 = .ok (.aload 4, 2) := by decide +kernel
theorem dX2_splay_66 : decode cX2_splay 66 = .ok (.goto 4, 3) := by decide +kernel
theorem dX2_splay_69 : decode cX2_splay 69 = .ok (.aload_n 2, 1) := by decide +kernel
theorem dX2_splay_70 : decode cX2_splay 70 = .ok (.invokevirtual 31, 3) := by decide +kernel
theorem dX2_splay_73 : decode cX2_splay 73 = .ok (.aload_n 0, 1) := by decide +kernel
theorem dX2_splay_74 : decode cX2_splay 74 = .ok (.aload_n 2, 1) := by decide +kernel
theorem dX2_splay_75 : decode cX2_splay 75 = .ok (.invokevirtual 31, 3) := by decide +kernel
theorem dX2_splay_78 : decode cX2_splay 78 = .ok (.aload_n 0, 1) := by decide +kernel
theorem dX2_splay_79 : decode cX2_splay 79 = .ok (.dup, 1) := by decide +kernel
theorem dX2_splay_80 : decode cX2_splay 80 = .ok (.getfield 9, 3) := by decide +kernel
theorem dX2_splay_83 : decode cX2_splay 83 = .ok (.iconst 1, 1) := by decide +kernel
theorem dX2_splay_84 : decode cX2_splay 84 = .ok (.iadd, 1) := by decide +kernel
theorem dX2_splay_85 : decode cX2_splay 85 = .ok (.putfield 9, 3) := by decide +kernel
theorem dX2_splay_88 : decode cX2_splay 88 = .ok (.aload_n 0, 1) := by decide +kernel
theorem dX2_splay_89 : decode cX2_splay 89 = .ok (.dup, 1) := by decide +kernel
theorem dX2_splay_90 : decode cX2_splay 90 = .ok (.getfield 35, 3) := by decide +kernel
theorem dX2_splay_93 : decode cX2_splay 93 = .ok (.iconst 1, 1) := by decide +kernel
theorem dX2_splay_94 : decode cX2_splay 94 = .ok (.iadd, 1) := by decide +kernel
theorem dX2_splay_95 : decode cX2_splay 95 = .ok (.putfield 35, 3) := by decide +kernel
theorem dX2_splay_98 : decode cX2_splay 98 = .ok (.iinc 3 1, 3) := by decide +kernel
theorem dX2_splay_101 : decode cX2_splay 101 = .ok (.goto (-89), 3) := by decide +kernel
theorem dX2_splay_104 : decode cX2_splay 104 = .ok (.aload_n 1, 1) := by decide +kernel
theorem dX2_splay_105 : decode cX2_splay 105 = .ok (.aload_n 2, 1) := by decide +kernel
theorem dX2_splay_106 : decode cX2_splay 106 = .ok (.putfield 38, 3) := by decide +kernel
theorem dX2_splay_109 : decode cX2_splay 109 = .ok (.return_, 1) := by decide +kernel
theorem dX2_rotate_0 : decode cX2_rotate 0 = .ok (.aload_n 1, 1) := by decide +kernel
theorem dX2_rotate_1 : decode cX2_rotate 1 = .ok (.getfield 21, 3) := by decide +kernel
theorem dX2_rotate_4 : decode cX2_rotate 4 = .ok (.astore_n 2, 1) := by decide +kernel
theorem dX2_rotate_5 : decode cX2_rotate 5 = .ok (.aload_n 2, 1) := by decide +kernel
theorem dX2_rotate_6 : decode cX2_rotate 6 = .ok (.ifnonnull 4, 3) := by decide +kernel
theorem dX2_rotate_9 : decode cX2_rotate 9 = .ok (.return_, 1) := by decide +kernel
theorem dX2_rotate_10 : decode cX2_rotate 10 = .ok (.aload_n 2, 1) := by decide +kernel
theorem dX2_rotate_11 : decode cX2_rotate 11 = .ok (.getfield 21, 3) := by decide +kernel
theorem dX2_rotate_14 : decode cX2_rotate 14 = .ok (.astore_n 3, 1) := by decide +kernel
theorem dX2_rotate_15 : decode cX2_rotate 15 = .ok (.aload_n 2, 1) := by decide +kernel
theorem dX2_rotate_16 : decode cX2_rotate 16 = .ok (.invokevirtual 27, 3) := by decide +kernel
theorem dX2_rotate_19 : decode cX2_rotate 19 = .ok (.istore 4, 2) := by decide +kernel
theorem dX2_rotate_21 : decode cX2_rotate 21 = .ok (.aload_n 1, 1) := by decide +kernel
theorem dX2_rotate_22 : decode cX2_rotate 22 = .ok (.invokevirtual 27, 3) := by decide +kernel
theorem dX2_rotate_25 : decode cX2_rotate 25 = .ok (.ifCond .eq 19, 3) := by decide +kernel
theorem dX2_rotate_28 : decode cX2_rotate 28 = .ok (.aload_n 2, 1) := by decide +kernel
theorem dX2_rotate_29 : decode cX2_rotate 29 = .ok (.aload_n 1, 1) := by decide +kernel
theorem dX2_rotate_30 : decode cX2_rotate 30 = .ok (.getfield 43, 3) := by decide +kernel
theorem dX2_rotate_33 : decode cX2_rotate 33 = .ok (.invokevirtual 46, 3) := by decide +kernel
theorem dX2_rotate_36 : decode cX2_rotate 36 = .ok (.aload_n 1, 1) := by decide +kernel
theorem dX2_rotate_37 : decode cX2_rotate 37 = .ok (.aload_n 2, 1) := by decide +kernel
theorem dX2_rotate_38 : decode cX2_rotate 38 = .ok (.invokevirtual 49, 3) := by decide +kernel
theorem dX2_rotate_41 : decode cX2_rotate 41 = .ok (.goto 16, 3) := by decide +kernel
theorem dX2_rotate_44 : decode cX2_rotate 44 = .ok (.aload_n 2, 1) := by decide +kernel
theorem dX2_rotate_45 : decode cX2_rotate 45 = .ok (.aload_n 1, 1) := by decide +kernel
theorem dX2_rotate_46 : decode cX2_rotate 46 = .ok (.getfield 52, 3) := by decide +kernel
theorem dX2_rotate_49 : decode cX2_rotate 49 = .ok (.invokevirtual 49, 3) := by decide +kernel
theorem dX2_rotate_52 : decode cX2_rotate 52 = .ok (.aload_n 1, 1) := by decide +kernel
theorem dX2_rotate_53 : decode cX2_rotate 53 = .ok (.aload_n 2, 1) := by decide +kernel
theorem dX2_rotate_54 : decode cX2_rotate 54 = .ok (.invokevirtual 46, 3) := by decide +kernel
theorem dX2_rotate_57 : decode cX2_rotate 57 = .ok (.aload_n 1, 1) := by decide +kernel
theorem dX2_rotate_58 : decode cX2_rotate 58 = .ok (.aload_n 3, 1) := by decide +kernel
theorem dX2_rotate_59 : decode cX2_rotate 59 = .ok (.putfield 21, 3) := by decide +kernel
theorem dX2_rotate_62 : decode cX2_rotate 62 = .ok (.aload_n 3, 1) := by decide +kernel
theorem dX2_rotate_63 : decode cX2_rotate 63 = .ok (.ifnull 21, 3) := by decide +kernel
theorem dX2_rotate_66 : decode cX2_rotate 66 = .ok (.iload 4, 2) := by decide +kernel
theorem dX2_rotate_68 : decode cX2_rotate 68 = .ok (.ifCond .eq 11, 3) := by decide +kernel
theorem dX2_rotate_71 : decode cX2_rotate 71 = .ok (.aload_n 3, 1) := by decide +kernel
theorem dX2_rotate_72 : decode cX2_rotate 72 = .ok (.aload_n 1, 1) := by decide +kernel
theorem dX2_rotate_73 : decode cX2_rotate 73 = .ok (.putfield 52, 3) := by decide +kernel
theorem dX2_rotate_76 : decode cX2_rotate 76 = .ok (.goto 8, 3) := by decide +kernel
theorem dX2_rotate_79 : decode cX2_rotate 79 = .ok (.aload_n 3, 1) := by decide +kernel
theorem dX2_rotate_80 : decode cX2_rotate 80 = .ok (.aload_n 1, 1) := by decide +kernel
theorem dX2_rotate_81 : decode cX2_rotate 81 = .ok (.putfield 43, 3) := by decide +kernel
theorem dX2_rotate_84 : decode cX2_rotate 84 = .ok (.aload_n 0, 1) := by decide +kernel
theorem dX2_rotate_85 : decode cX2_rotate 85 = .ok (.dup, 1) := by decide +kernel
theorem dX2_rotate_86 : decode cX2_rotate 86 = .ok (.getfield 15, 3) := by decide +kernel
theorem dX2_rotate_89 : decode cX2_rotate 89 = .ok (.iconst 1, 1) := by decide +kernel
theorem dX2_rotate_90 : decode cX2_rotate 90 = .ok (.iadd, 1) := by decide +kernel
theorem dX2_rotate_91 : decode cX2_rotate 91 = .ok (.putfield 15, 3) := by decide +kernel
theorem dX2_rotate_94 : decode cX2_rotate 94 = .ok (.return_, 1) := by decide +kernel
theorem dX2_split_0 : decode cX2_split 0 = .ok (.aload_n 1, 1) := by decide +kernel
theorem dX2_split_1 : decode cX2_split 1 = .ok (.iload_n 2, 1) := by decide +kernel
theorem dX2_split_2 : decode cX2_split 2 = .ok (.invokevirtual 55, 3) := by decide +kernel
theorem dX2_split_5 : decode cX2_split 5 = .ok (.astore 4, 2) := by decide +kernel
theorem dX2_split_7 : decode cX2_split 7 = .ok (.aload 4, 2) := by decide +kernel
theorem dX2_split_9 : decode cX2_split 9 = .ok (.ifnonnull 11, 3) := by decide +kernel
theorem dX2_split_12 : decode cX2_split 12 = .ok (.aload_n 3, 1) := by decide +kernel
theorem dX2_split_13 : decode cX2_split 13 = .ok (.aconst_null, 1) := by decide +kernel
theorem dX2_split_14 : decode cX2_split 14 = .ok (.putfield 38, 3) := by decide +kernel
theorem dX2_split_17 : decode cX2_split 17 = .ok (.goto 40, 3) := by decide +kernel
theorem dX2_split_20 : decode cX2_split 20 = .ok (.iload_n 2, 1) := by decide +kernel
theorem dX2_split_21 : decode cX2_split 21 = .ok (.ifCond .ne 14, 3) := by decide +kernel
theorem dX2_split_24 : decode cX2_split 24 = .ok (.aload_n 3, 1) := by decide +kernel
theorem dX2_split_25 : decode cX2_split 25 = .ok (.aload_n 1, 1) := by decide +kernel
theorem dX2_split_26 : decode cX2_split 26 = .ok (.invokevirtual 59, 3) := by decide +kernel
theorem dX2_split_29 : decode cX2_split 29 = .ok (.putfield 38, 3) := by decide +kernel
theorem dX2_split_32 : decode cX2_split 32 = .ok (.goto 25, 3) := by decide +kernel
theorem dX2_split_35 : decode cX2_split 35 = .ok (.aload_n 0, 1) := by decide +kernel
theorem dX2_split_36 : decode cX2_split 36 = .ok (.aload_n 1, 1) := by decide +kernel
theorem dX2_split_37 : decode cX2_split 37 = .ok (.aload 4, 2) := by decide +kernel
theorem dX2_split_39 : decode cX2_split 39 = .ok (.invokevirtual 63, 3) := by decide +kernel
theorem dX2_split_42 : decode cX2_split 42 = .ok (.aload_n 3, 1) := by decide +kernel
theorem dX2_split_43 : decode cX2_split 43 = .ok (.aload 4, 2) := by decide +kernel
theorem dX2_split_45 : decode cX2_split 45 = .ok (.putfield 38, 3) := by decide +kernel
theorem dX2_split_48 : decode cX2_split 48 = .ok (.aload_n 1, 1) := by decide +kernel
theorem dX2_split_49 : decode cX2_split 49 = .ok (.aload 4, 2) := by decide +kernel
theorem dX2_split_51 : decode cX2_split 51 = .ok (.invokevirtual 67, 3) := by decide +kernel
theorem dX2_split_54 : decode cX2_split 54 = .ok (.putfield 38, 3) := by decide +kernel
theorem dX2_split_57 : decode cX2_split 57 = .ok (.return_, 1) := by decide +kernel
theorem dX2_join_0 : decode cX2_join 0 = .ok (.aload_n 1, 1) := by decide +kernel
theorem dX2_join_1 : decode cX2_join 1 = .ok (.invokevirtual 70, 3) := by decide +kernel
theorem dX2_join_4 : decode cX2_join 4 = .ok (.astore_n 3, 1) := by decide +kernel
theorem dX2_join_5 : decode cX2_join 5 = .ok (.aload_n 2, 1) := by decide +kernel
theorem dX2_join_6 : decode cX2_join 6 = .ok (.invokevirtual 59, 3) := by decide +kernel
theorem dX2_join_9 : decode cX2_join 9 = .ok (.astore 4, 2) := by decide +kernel
theorem dX2_join_11 : decode cX2_join 11 = .ok (.aload_n 3, 1) := by decide +kernel
theorem dX2_join_12 : decode cX2_join 12 = .ok (.ifnonnull 12, 3) := by decide +kernel
theorem dX2_join_15 : decode cX2_join 15 = .ok (.aload_n 1, 1) := by decide +kernel
theorem dX2_join_16 : decode cX2_join 16 = .ok (.aload 4, 2) := by decide +kernel
theorem dX2_join_18 : decode cX2_join 18 = .ok (.putfield 38, 3) := by decide +kernel
theorem dX2_join_21 : decode cX2_join 21 = .ok (.goto 20, 3) := by decide +kernel
theorem dX2_join_24 : decode cX2_join 24 = .ok (.aload 4, 2) := by decide +kernel
theorem dX2_join_26 : decode cX2_join 26 = .ok (.ifnull 15, 3) := by decide +kernel
theorem dX2_join_29 : decode cX2_join 29 = .ok (.aload_n 0, 1) := by decide +kernel
theorem dX2_join_30 : decode cX2_join 30 = .ok (.aload_n 1, 1) := by decide +kernel
theorem dX2_join_31 : decode cX2_join 31 = .ok (.aload_n 3, 1) := by decide +kernel
theorem dX2_join_32 : decode cX2_join 32 = .ok (.invokevirtual 63, 3) := by decide +kernel
theorem dX2_join_35 : decode cX2_join 35 = .ok (.aload_n 3, 1) := by decide +kernel
theorem dX2_join_36 : decode cX2_join 36 = .ok (.aload 4, 2) := by decide +kernel
theorem dX2_join_38 : decode cX2_join 38 = .ok (.invokevirtual 49, 3) := by decide +kernel
theorem dX2_join_41 : decode cX2_join 41 = .ok (.return_, 1) := by decide +kernel
theorem dX3_init_0 : decode cX3_init 0 = .ok (.aload_n 0, 1) := by decide +kernel
theorem dX3_init_1 : decode cX3_init 1 = .ok (.invokespecial 1, 3) := by decide +kernel
theorem dX3_init_4 : decode cX3_init 4 = .ok (.return_, 1) := by decide +kernel
theorem dX3_count_0 : decode cX3_count 0 = .ok (.aload_n 0, 1) := by decide +kernel
theorem dX3_count_1 : decode cX3_count 1 = .ok (.getfield 7, 3) := by decide +kernel
theorem dX3_count_4 : decode cX3_count 4 = .ok (.invokestatic 13, 3) := by decide +kernel
theorem dX3_count_7 : decode cX3_count 7 = .ok (.ireturn, 1) := by decide +kernel
theorem dX3_find_0 : decode cX3_find 0 = .ok (.iload_n 1, 1) := by decide +kernel
theorem dX3_find_1 : decode cX3_find 1 = .ok (.istore_n 2, 1) := by decide +kernel
theorem dX3_find_2 : decode cX3_find 2 = .ok (.aload_n 0, 1) := by decide +kernel
theorem dX3_find_3 : decode cX3_find 3 = .ok (.getfield 7, 3) := by decide +kernel
theorem dX3_find_6 : decode cX3_find 6 = .ok (.astore_n 3, 1) := by decide +kernel
theorem dX3_find_7 : decode cX3_find 7 = .ok (.aload_n 3, 1) := by decide +kernel
theorem dX3_find_8 : decode cX3_find 8 = .ok (.ifnull 49, 3) := by decide +kernel
theorem dX3_find_11 : decode cX3_find 11 = .ok (.aload_n 3, 1) := by decide +kernel
theorem dX3_find_12 : decode cX3_find 12 = .ok (.getfield 19, 3) := by decide +kernel
theorem dX3_find_15 : decode cX3_find 15 = .ok (.invokestatic 13, 3) := by decide +kernel
theorem dX3_find_18 : decode cX3_find 18 = .ok (.istore 4, 2) := by decide +kernel
theorem dX3_find_20 : decode cX3_find 20 = .ok (.iload_n 2, 1) := by decide +kernel
theorem dX3_find_21 : decode cX3_find 21 = .ok (.iload 4, 2) := by decide +kernel
theorem dX3_find_23 : decode cX3_find 23 = .ok (.if_icmp .ne 5, 3) := by decide +kernel
theorem dX3_find_26 : decode cX3_find 26 = .ok (.aload_n 3, 1) := by decide +kernel
theorem dX3_find_27 : decode cX3_find 27 = .ok (.areturn, 1) := by decide +kernel
theorem dX3_find_28 : decode cX3_find 28 = .ok (.iload_n 2, 1) := by decide +kernel
theorem dX3_find_29 : decode cX3_find 29 = .ok (.iload 4, 2) := by decide +kernel
theorem dX3_find_31 : decode cX3_find 31 = .ok (.if_icmp .ge 11, 3) := by decide +kernel
theorem dX3_find_34 : decode cX3_find 34 = .ok (.aload_n 3, 1) := by decide +kernel
theorem dX3_find_35 : decode cX3_find 35 = .ok (.getfield 19, 3) := by decide +kernel
theorem dX3_find_38 : decode cX3_find 38 = .ok (.astore_n 3, 1) := by decide +kernel
theorem dX3_find_39 : decode cX3_find 39 = .ok (.goto 15, 3) := by decide +kernel
theorem dX3_find_42 : decode cX3_find 42 = .ok (.iload_n 2, 1) := by decide +kernel
theorem dX3_find_43 : decode cX3_find 43 = .ok (.iload 4, 2) := by decide +kernel
theorem dX3_find_45 : decode cX3_find 45 = .ok (.iconst 1, 1) := by decide +kernel
theorem dX3_find_46 : decode cX3_find 46 = .ok (.iadd, 1) := by decide +kernel
theorem dX3_find_47 : decode cX3_find 47 = .ok (.isub, 1) := by decide +kernel
theorem dX3_find_48 : decode cX3_find 48 = .ok (.istore_n 2, 1) := by decide +kernel
theorem dX3_find_49 : decode cX3_find 49 = .ok (.aload_n 3, 1) := by decide +kernel
theorem dX3_find_50 : decode cX3_find 50 = .ok (.getfield 22, 3) := by decide +kernel
theorem dX3_find_53 : decode cX3_find 53 = .ok (.astore_n 3, 1) := by decide +kernel
theorem dX3_find_54 : decode cX3_find 54 = .ok (.goto (-47), 3) := by decide +kernel
theorem dX3_find_57 : decode cX3_find 57 = .ok (.aconst_null, 1) := by decide +kernel
theorem dX3_find_58 : decode cX3_find 58 = .ok (.areturn, 1) := by decide +kernel
theorem dX3_last_0 : decode cX3_last 0 = .ok (.aload_n 0, 1) := by decide +kernel
theorem dX3_last_1 : decode cX3_last 1 = .ok (.getfield 7, 3) := by decide +kernel
theorem dX3_last_4 : decode cX3_last 4 = .ok (.astore_n 1, 1) := by decide +kernel
theorem dX3_last_5 : decode cX3_last 5 = .ok (.aload_n 1, 1) := by decide +kernel
theorem dX3_last_6 : decode cX3_last 6 = .ok (.ifnull 18, 3) := by decide +kernel
theorem dX3_last_9 : decode cX3_last 9 = .ok (.aload_n 1, 1) := by decide +kernel
theorem dX3_last_10 : decode cX3_last 10 = .ok (.getfield 22, 3) := by decide +kernel
theorem dX3_last_13 : decode cX3_last 13 = .ok (.ifnull 11, 3) := by decide +kernel
theorem dX3_last_16 : decode cX3_last 16 = .ok (.aload_n 1, 1) := by decide +kernel
theorem dX3_last_17 : decode cX3_last 17 = .ok (.getfield 22, 3) := by decide +kernel
theorem dX3_last_20 : decode cX3_last 20 = .ok (.astore_n 1, 1) := by decide +kernel
theorem dX3_last_21 : decode cX3_last 21 = .ok (.goto (-16), 3) := by decide +kernel
theorem dX3_last_24 : decode cX3_last 24 = .ok (.aload_n 1, 1) := by decide +kernel
theorem dX3_last_25 : decode cX3_last 25 = .ok (.areturn, 1) := by decide +kernel
theorem dX3_holds_0 : decode cX3_holds 0 = .ok (.aload_n 1, 1) := by decide +kernel
theorem dX3_holds_1 : decode cX3_holds 1 = .ok (.invokevirtual 25, 3) := by decide +kernel
theorem dX3_holds_4 : decode cX3_holds 4 = .ok (.aload_n 0, 1) := by decide +kernel
theorem dX3_holds_5 : decode cX3_holds 5 = .ok (.getfield 7, 3) := by decide +kernel
theorem dX3_holds_8 : decode cX3_holds 8 = .ok (.if_acmp .ne 7, 3) := by decide +kernel
theorem dX3_holds_11 : decode cX3_holds 11 = .ok (.iconst 1, 1) := by decide +kernel
theorem dX3_holds_12 : decode cX3_holds 12 = .ok (.goto 4, 3) := by decide +kernel
theorem dX3_holds_15 : decode cX3_holds 15 = .ok (.iconst 0, 1) := by decide +kernel
theorem dX3_holds_16 : decode cX3_holds 16 = .ok (.ireturn, 1) := by decide +kernel
theorem dX3_takeAll_0 : decode cX3_takeAll 0 = .ok (.aload_n 0, 1) := by decide +kernel
theorem dX3_takeAll_1 : decode cX3_takeAll 1 = .ok (.getfield 7, 3) := by decide +kernel
theorem dX3_takeAll_4 : decode cX3_takeAll 4 = .ok (.astore_n 1, 1) := by decide +kernel
theorem dX3_takeAll_5 : decode cX3_takeAll 5 = .ok (.aload_n 0, 1) := by decide +kernel
theorem dX3_takeAll_6 : decode cX3_takeAll 6 = .ok (.aconst_null, 1) := by decide +kernel
theorem dX3_takeAll_7 : decode cX3_takeAll 7 = .ok (.putfield 7, 3) := by decide +kernel
theorem dX3_takeAll_10 : decode cX3_takeAll 10 = .ok (.aload_n 1, 1) := by decide +kernel
theorem dX3_takeAll_11 : decode cX3_takeAll 11 = .ok (.areturn, 1) := by decide +kernel
theorem dX3_turnRound_0 : decode cX3_turnRound 0 = .ok (.aload_n 0, 1) := by decide +kernel
theorem dX3_turnRound_1 : decode cX3_turnRound 1 = .ok (.getfield 7, 3) := by decide +kernel
theorem dX3_turnRound_4 : decode cX3_turnRound 4 = .ok (.astore_n 1, 1) := by decide +kernel
theorem dX3_turnRound_5 : decode cX3_turnRound 5 = .ok (.aload_n 0, 1) := by decide +kernel
theorem dX3_turnRound_6 : decode cX3_turnRound 6 = .ok (.invokevirtual 29, 3) := by decide +kernel
theorem dX3_turnRound_9 : decode cX3_turnRound 9 = .ok (.istore_n 2, 1) := by decide +kernel
theorem dX3_turnRound_10 : decode cX3_turnRound 10 = .ok (.iload_n 2, 1) := by decide +kernel
theorem dX3_turnRound_11 : decode cX3_turnRound 11 = .ok (.ifCond .le 22, 3) := by decide +kernel
theorem dX3_turnRound_14 : decode cX3_turnRound 14 = .ok (.aload_n 1, 1) := by decide +kernel
theorem dX3_turnRound_15 : decode cX3_turnRound 15 = .ok (.ifnull 18, 3) := by decide +kernel
theorem dX3_turnRound_18 : decode cX3_turnRound 18 = .ok (.aload_n 1, 1) := by decide +kernel
theorem dX3_turnRound_19 : decode cX3_turnRound 19 = .ok (.invokevirtual 33, 3) := by decide +kernel
theorem dX3_turnRound_22 : decode cX3_turnRound 22 = .ok (.aload_n 1, 1) := by decide +kernel
theorem dX3_turnRound_23 : decode cX3_turnRound 23 = .ok (.invokevirtual 36, 3) := by decide +kernel
theorem dX3_turnRound_26 : decode cX3_turnRound 26 = .ok (.astore_n 1, 1) := by decide +kernel
theorem dX3_turnRound_27 : decode cX3_turnRound 27 = .ok (.iinc 2 (-1), 3) := by decide +kernel
theorem dX3_turnRound_30 : decode cX3_turnRound 30 = .ok (.goto (-20), 3) := by decide +kernel
theorem dX3_turnRound_33 : decode cX3_turnRound 33 = .ok (.return_, 1) := by decide +kernel
theorem dX3_addToAll_0 : decode cX3_addToAll 0 = .ok (.aload_n 0, 1) := by decide +kernel
theorem dX3_addToAll_1 : decode cX3_addToAll 1 = .ok (.getfield 7, 3) := by decide +kernel
theorem dX3_addToAll_4 : decode cX3_addToAll 4 = .ok (.astore_n 2, 1) := by decide +kernel
theorem dX3_addToAll_5 : decode cX3_addToAll 5 = .ok (.aload_n 0, 1) := by decide +kernel
theorem dX3_addToAll_6 : decode cX3_addToAll 6 = .ok (.invokevirtual 29, 3) := by decide +kernel
theorem dX3_addToAll_9 : decode cX3_addToAll 9 = .ok (.istore_n 3, 1) := by decide +kernel
theorem dX3_addToAll_10 : decode cX3_addToAll 10 = .ok (.iload_n 3, 1) := by decide +kernel
theorem dX3_addToAll_11 : decode cX3_addToAll 11 = .ok (.ifCond .le 28, 3) := by decide +kernel
theorem dX3_addToAll_14 : decode cX3_addToAll 14 = .ok (.aload_n 2, 1) := by decide +kernel
theorem dX3_addToAll_15 : decode cX3_addToAll 15 = .ok (.ifnull 24, 3) := by decide +kernel
theorem dX3_addToAll_18 : decode cX3_addToAll 18 = .ok (.aload_n 2, 1) := by decide +kernel
theorem dX3_addToAll_19 : decode cX3_addToAll 19 = .ok (.dup, 1) := by decide +kernel
theorem dX3_addToAll_20 : decode cX3_addToAll 20 = .ok (.getfield 39, 3) := by decide +kernel
theorem dX3_addToAll_23 : decode cX3_addToAll 23 = .ok (.iload_n 1, 1) := by decide +kernel
theorem dX3_addToAll_24 : decode cX3_addToAll 24 = .ok (.iadd, 1) := by decide +kernel
theorem dX3_addToAll_25 : decode cX3_addToAll 25 = .ok (.putfield 39, 3) := by decide +kernel
theorem dX3_addToAll_28 : decode cX3_addToAll 28 = .ok (.aload_n 2, 1) := by decide +kernel
theorem dX3_addToAll_29 : decode cX3_addToAll 29 = .ok (.invokevirtual 36, 3) := by decide +kernel
theorem dX3_addToAll_32 : decode cX3_addToAll 32 = .ok (.astore_n 2, 1) := by decide +kernel
theorem dX3_addToAll_33 : decode cX3_addToAll 33 = .ok (.iinc 3 (-1), 3) := by decide +kernel
theorem dX3_addToAll_36 : decode cX3_addToAll 36 = .ok (.goto (-26), 3) := by decide +kernel
theorem dX3_addToAll_39 : decode cX3_addToAll 39 = .ok (.return_, 1) := by decide +kernel
theorem dX3_total_0 : decode cX3_total 0 = .ok (.iconst 0, 1) := by decide +kernel
theorem dX3_total_1 : decode cX3_total 1 = .ok (.istore_n 1, 1) := by decide +kernel
theorem dX3_total_2 : decode cX3_total 2 = .ok (.aload_n 0, 1) := by decide +kernel
theorem dX3_total_3 : decode cX3_total 3 = .ok (.getfield 7, 3) := by decide +kernel
theorem dX3_total_6 : decode cX3_total 6 = .ok (.astore_n 2, 1) := by decide +kernel
theorem dX3_total_7 : decode cX3_total 7 = .ok (.aload_n 0, 1) := by decide +kernel
theorem dX3_total_8 : decode cX3_total 8 = .ok (.invokevirtual 29, 3) := by decide +kernel
theorem dX3_total_11 : decode cX3_total 11 = .ok (.istore_n 3, 1) := by decide +kernel
theorem dX3_total_12 : decode cX3_total 12 = .ok (.iload_n 3, 1) := by decide +kernel
theorem dX3_total_13 : decode cX3_total 13 = .ok (.ifCond .le 25, 3) := by decide +kernel
theorem dX3_total_16 : decode cX3_total 16 = .ok (.aload_n 2, 1) := by decide +kernel
theorem dX3_total_17 : decode cX3_total 17 = .ok (.ifnull 21, 3) := by decide +kernel
theorem dX3_total_20 : decode cX3_total 20 = .ok (.iload_n 1, 1) := by decide +kernel
theorem dX3_total_21 : decode cX3_total 21 = .ok (.aload_n 2, 1) := by decide +kernel
theorem dX3_total_22 : decode cX3_total 22 = .ok (.getfield 39, 3) := by decide +kernel
theorem dX3_total_25 : decode cX3_total 25 = .ok (.iadd, 1) := by decide +kernel
theorem dX3_total_26 : decode cX3_total 26 = .ok (.istore_n 1, 1) := by decide +kernel
theorem dX3_total_27 : decode cX3_total 27 = .ok (.aload_n 2, 1) := by decide +kernel
theorem dX3_total_28 : decode cX3_total 28 = .ok (.invokevirtual 36, 3) := by decide +kernel
theorem dX3_total_31 : decode cX3_total 31 = .ok (.astore_n 2, 1) := by decide +kernel
theorem dX3_total_32 : decode cX3_total 32 = .ok (.iinc 3 (-1), 3) := by decide +kernel
theorem dX3_total_35 : decode cX3_total 35 = .ok (.goto (-23), 3) := by decide +kernel
theorem dX3_total_38 : decode cX3_total 38 = .ok (.iload_n 1, 1) := by decide +kernel
theorem dX3_total_39 : decode cX3_total 39 = .ok (.ireturn, 1) := by decide +kernel
theorem dX3_lowest_0 : decode cX3_lowest 0 = .ok (.aload_n 0, 1) := by decide +kernel
theorem dX3_lowest_1 : decode cX3_lowest 1 = .ok (.getfield 7, 3) := by decide +kernel
theorem dX3_lowest_4 : decode cX3_lowest 4 = .ok (.ifnonnull 7, 3) := by decide +kernel
theorem dX3_lowest_7 : decode cX3_lowest 7 = .ok (.iconst 0, 1) := by decide +kernel
theorem dX3_lowest_8 : decode cX3_lowest 8 = .ok (.goto 10, 3) := by decide +kernel
theorem dX3_lowest_11 : decode cX3_lowest 11 = .ok (.aload_n 0, 1) := by decide +kernel
theorem dX3_lowest_12 : decode cX3_lowest 12 = .ok (.getfield 7, 3) := by decide +kernel
theorem dX3_lowest_15 : decode cX3_lowest 15 = .ok (.getfield 39, 3) := by decide +kernel
theorem dX3_lowest_18 : decode cX3_lowest 18 = .ok (.istore_n 1, 1) := by decide +kernel
theorem dX3_lowest_19 : decode cX3_lowest 19 = .ok (.aload_n 0, 1) := by decide +kernel
theorem dX3_lowest_20 : decode cX3_lowest 20 = .ok (.getfield 7, 3) := by decide +kernel
theorem dX3_lowest_23 : decode cX3_lowest 23 = .ok (.astore_n 2, 1) := by decide +kernel
theorem dX3_lowest_24 : decode cX3_lowest 24 = .ok (.aload_n 0, 1) := by decide +kernel
theorem dX3_lowest_25 : decode cX3_lowest 25 = .ok (.invokevirtual 29, 3) := by decide +kernel
theorem dX3_lowest_28 : decode cX3_lowest 28 = .ok (.istore_n 3, 1) := by decide +kernel
theorem dX3_lowest_29 : decode cX3_lowest 29 = .ok (.iload_n 3, 1) := by decide +kernel
theorem dX3_lowest_30 : decode cX3_lowest 30 = .ok (.ifCond .le 27, 3) := by decide +kernel
theorem dX3_lowest_33 : decode cX3_lowest 33 = .ok (.aload_n 2, 1) := by decide +kernel
theorem dX3_lowest_34 : decode cX3_lowest 34 = .ok (.ifnull 23, 3) := by decide +kernel
theorem dX3_lowest_37 : decode cX3_lowest 37 = .ok (.iload_n 1, 1) := by decide +kernel
theorem dX3_lowest_38 : decode cX3_lowest 38 = .ok (.aload_n 2, 1) := by decide +kernel
theorem dX3_lowest_39 : decode cX3_lowest 39 = .ok (.getfield 39, 3) := by decide +kernel
theorem dX3_lowest_42 : decode cX3_lowest 42 = .ok (.invokestatic 43, 3) := by decide +kernel
theorem dX3_lowest_45 : decode cX3_lowest 45 = .ok (.istore_n 1, 1) := by decide +kernel
theorem dX3_lowest_46 : decode cX3_lowest 46 = .ok (.aload_n 2, 1) := by decide +kernel
theorem dX3_lowest_47 : decode cX3_lowest 47 = .ok (.invokevirtual 36, 3) := by decide +kernel
theorem dX3_lowest_50 : decode cX3_lowest 50 = .ok (.astore_n 2, 1) := by decide +kernel
theorem dX3_lowest_51 : decode cX3_lowest 51 = .ok (.iinc 3 (-1), 3) := by decide +kernel
theorem dX3_lowest_54 : decode cX3_lowest 54 = .ok (.goto (-25), 3) := by decide +kernel
theorem dX3_lowest_57 : decode cX3_lowest 57 = .ok (.iload_n 1, 1) := by decide +kernel
theorem dX3_lowest_58 : decode cX3_lowest 58 = .ok (.ireturn, 1) := by decide +kernel
theorem dX3_sumOfRanks_0 : decode cX3_sumOfRanks 0 = .ok (.iconst 0, 1) := by decide +kernel
theorem dX3_sumOfRanks_1 : decode cX3_sumOfRanks 1 = .ok (.istore_n 1, 1) := by decide +kernel
theorem dX3_sumOfRanks_2 : decode cX3_sumOfRanks 2 = .ok (.aload_n 0, 1) := by decide +kernel
theorem dX3_sumOfRanks_3 : decode cX3_sumOfRanks 3 = .ok (.getfield 7, 3) := by decide +kernel
theorem dX3_sumOfRanks_6 : decode cX3_sumOfRanks 6 = .ok (.astore_n 2, 1) := by decide +kernel
theorem dX3_sumOfRanks_7 : decode cX3_sumOfRanks 7 = .ok (.aload_n 0, 1) := by decide +kernel
theorem dX3_sumOfRanks_8 : decode cX3_sumOfRanks 8 = .ok (.invokevirtual 29, 3) := by decide +kernel
theorem dX3_sumOfRanks_11 : decode cX3_sumOfRanks 11 = .ok (.istore_n 3, 1) := by decide +kernel
theorem dX3_sumOfRanks_12 : decode cX3_sumOfRanks 12 = .ok (.iload_n 3, 1) := by decide +kernel
theorem dX3_sumOfRanks_13 : decode cX3_sumOfRanks 13 = .ok (.ifCond .le 28, 3) := by decide +kernel
theorem dX3_sumOfRanks_16 : decode cX3_sumOfRanks 16 = .ok (.aload_n 2, 1) := by decide +kernel
theorem dX3_sumOfRanks_17 : decode cX3_sumOfRanks 17 = .ok (.ifnull 24, 3) := by decide +kernel
theorem dX3_sumOfRanks_20 : decode cX3_sumOfRanks 20 = .ok (.iload_n 1, 1) := by decide +kernel
theorem dX3_sumOfRanks_21 : decode cX3_sumOfRanks 21 = .ok (.aload_n 2, 1) := by decide +kernel
theorem dX3_sumOfRanks_22 : decode cX3_sumOfRanks 22 = .ok (.getfield 49, 3) := by decide +kernel
theorem dX3_sumOfRanks_25 : decode cX3_sumOfRanks 25 = .ok (.invokestatic 51, 3) := by decide +kernel
theorem dX3_sumOfRanks_28 : decode cX3_sumOfRanks 28 = .ok (.iadd, 1) := by decide +kernel
theorem dX3_sumOfRanks_29 : decode cX3_sumOfRanks 29 = .ok (.istore_n 1, 1) := by decide +kernel
theorem dX3_sumOfRanks_30 : decode cX3_sumOfRanks 30 = .ok (.aload_n 2, 1) := by decide +kernel
theorem dX3_sumOfRanks_31 : decode cX3_sumOfRanks 31 = .ok (.invokevirtual 36, 3) := by decide +kernel
theorem dX3_sumOfRanks_34 : decode cX3_sumOfRanks 34 = .ok (.astore_n 2, 1) := by decide +kernel
theorem dX3_sumOfRanks_35 : decode cX3_sumOfRanks 35 = .ok (.iinc 3 (-1), 3) := by decide +kernel
theorem dX3_sumOfRanks_38 : decode cX3_sumOfRanks 38 = .ok (.goto (-26), 3) := by decide +kernel
theorem dX3_sumOfRanks_41 : decode cX3_sumOfRanks 41 = .ok (.iload_n 1, 1) := by decide +kernel
theorem dX3_sumOfRanks_42 : decode cX3_sumOfRanks 42 = .ok (.ireturn, 1) := by decide +kernel
theorem dX3_levels_0 : decode cX3_levels 0 = .ok (.iconst 0, 1) := by decide +kernel
theorem dX3_levels_1 : decode cX3_levels 1 = .ok (.istore_n 1, 1) := by decide +kernel
theorem dX3_levels_2 : decode cX3_levels 2 = .ok (.aload_n 0, 1) := by decide +kernel
theorem dX3_levels_3 : decode cX3_levels 3 = .ok (.getfield 7, 3) := by decide +kernel
theorem dX3_levels_6 : decode cX3_levels 6 = .ok (.astore_n 2, 1) := by decide +kernel
theorem dX3_levels_7 : decode cX3_levels 7 = .ok (.aload_n 0, 1) := by decide +kernel
theorem dX3_levels_8 : decode cX3_levels 8 = .ok (.invokevirtual 29, 3) := by decide +kernel
theorem dX3_levels_11 : decode cX3_levels 11 = .ok (.istore_n 3, 1) := by decide +kernel
theorem dX3_levels_12 : decode cX3_levels 12 = .ok (.iload_n 3, 1) := by decide +kernel
theorem dX3_levels_13 : decode cX3_levels 13 = .ok (.ifCond .le 29, 3) := by decide +kernel
theorem dX3_levels_16 : decode cX3_levels 16 = .ok (.aload_n 2, 1) := by decide +kernel
theorem dX3_levels_17 : decode cX3_levels 17 = .ok (.ifnull 25, 3) := by decide +kernel
theorem dX3_levels_20 : decode cX3_levels 20 = .ok (.iload_n 1, 1) := by decide +kernel
theorem dX3_levels_21 : decode cX3_levels 21 = .ok (.aload_n 2, 1) := by decide +kernel
theorem dX3_levels_22 : decode cX3_levels 22 = .ok (.invokevirtual 55, 3) := by decide +kernel
theorem dX3_levels_25 : decode cX3_levels 25 = .ok (.iconst 1, 1) := by decide +kernel
theorem dX3_levels_26 : decode cX3_levels 26 = .ok (.iadd, 1) := by decide +kernel
theorem dX3_levels_27 : decode cX3_levels 27 = .ok (.invokestatic 58, 3) := by decide +kernel
theorem dX3_levels_30 : decode cX3_levels 30 = .ok (.istore_n 1, 1) := by decide +kernel
theorem dX3_levels_31 : decode cX3_levels 31 = .ok (.aload_n 2, 1) := by decide +kernel
theorem dX3_levels_32 : decode cX3_levels 32 = .ok (.invokevirtual 36, 3) := by decide +kernel
theorem dX3_levels_35 : decode cX3_levels 35 = .ok (.astore_n 2, 1) := by decide +kernel
theorem dX3_levels_36 : decode cX3_levels 36 = .ok (.iinc 3 (-1), 3) := by decide +kernel
theorem dX3_levels_39 : decode cX3_levels 39 = .ok (.goto (-27), 3) := by decide +kernel
theorem dX3_levels_42 : decode cX3_levels 42 = .ok (.iload_n 1, 1) := by decide +kernel
theorem dX3_levels_43 : decode cX3_levels 43 = .ok (.ireturn, 1) := by decide +kernel
theorem dX3_rankOf_0 : decode cX3_rankOf 0 = .ok (.iconst 0, 1) := by decide +kernel
theorem dX3_rankOf_1 : decode cX3_rankOf 1 = .ok (.istore_n 1, 1) := by decide +kernel
theorem dX3_rankOf_2 : decode cX3_rankOf 2 = .ok (.iload_n 0, 1) := by decide +kernel
theorem dX3_rankOf_3 : decode cX3_rankOf 3 = .ok (.istore_n 2, 1) := by decide +kernel
theorem dX3_rankOf_4 : decode cX3_rankOf 4 = .ok (.iload_n 2, 1) := by decide +kernel
theorem dX3_rankOf_5 : decode cX3_rankOf 5 = .ok (.iconst 1, 1) := by decide +kernel
theorem dX3_rankOf_6 : decode cX3_rankOf 6 = .ok (.if_icmp .le 13, 3) := by decide +kernel
theorem dX3_rankOf_9 : decode cX3_rankOf 9 = .ok (.iinc 1 1, 3) := by decide +kernel
theorem dX3_rankOf_12 : decode cX3_rankOf 12 = .ok (.iload_n 2, 1) := by decide +kernel
theorem dX3_rankOf_13 : decode cX3_rankOf 13 = .ok (.iconst 1, 1) := by decide +kernel
theorem dX3_rankOf_14 : decode cX3_rankOf 14 = .ok (.ishr, 1) := by decide +kernel
theorem dX3_rankOf_15 : decode cX3_rankOf 15 = .ok (.istore_n 2, 1) := by decide +kernel
theorem dX3_rankOf_16 : decode cX3_rankOf 16 = .ok (.goto (-12), 3) := by decide +kernel
theorem dX3_rankOf_19 : decode cX3_rankOf 19 = .ok (.iload_n 1, 1) := by decide +kernel
theorem dX3_rankOf_20 : decode cX3_rankOf 20 = .ok (.ireturn, 1) := by decide +kernel
theorem dX4_init_0 : decode cX4_init 0 = .ok (.aload_n 0, 1) := by decide +kernel
theorem dX4_init_1 : decode cX4_init 1 = .ok (.invokespecial 1, 3) := by decide +kernel
theorem dX4_init_4 : decode cX4_init 4 = .ok (.aload_n 0, 1) := by decide +kernel
theorem dX4_init_5 : decode cX4_init 5 = .ok (.new 7, 3) := by decide +kernel
theorem dX4_init_8 : decode cX4_init 8 = .ok (.dup, 1) := by decide +kernel
theorem dX4_init_9 : decode cX4_init 9 = .ok (.invokespecial 9, 3) := by decide +kernel
theorem dX4_init_12 : decode cX4_init 12 = .ok (.putfield 10, 3) := by decide +kernel
theorem dX4_init_15 : decode cX4_init 15 = .ok (.aload_n 0, 1) := by decide +kernel
theorem dX4_init_16 : decode cX4_init 16 = .ok (.new 7, 3) := by decide +kernel
theorem dX4_init_19 : decode cX4_init 19 = .ok (.dup, 1) := by decide +kernel
theorem dX4_init_20 : decode cX4_init 20 = .ok (.invokespecial 9, 3) := by decide +kernel
theorem dX4_init_23 : decode cX4_init 23 = .ok (.putfield 16, 3) := by decide +kernel
theorem dX4_init_26 : decode cX4_init 26 = .ok (.aload_n 0, 1) := by decide +kernel
theorem dX4_init_27 : decode cX4_init 27 = .ok (.new 7, 3) := by decide +kernel
theorem dX4_init_30 : decode cX4_init 30 = .ok (.dup, 1) := by decide +kernel
theorem dX4_init_31 : decode cX4_init 31 = .ok (.invokespecial 9, 3) := by decide +kernel
theorem dX4_init_34 : decode cX4_init 34 = .ok (.putfield 19, 3) := by decide +kernel
theorem dX4_init_37 : decode cX4_init 37 = .ok (.aload_n 0, 1) := by decide +kernel
theorem dX4_init_38 : decode cX4_init 38 = .ok (.new 7, 3) := by decide +kernel
theorem dX4_init_41 : decode cX4_init 41 = .ok (.dup, 1) := by decide +kernel
theorem dX4_init_42 : decode cX4_init 42 = .ok (.invokespecial 9, 3) := by decide +kernel
theorem dX4_init_45 : decode cX4_init 45 = .ok (.putfield 22, 3) := by decide +kernel
theorem dX4_init_48 : decode cX4_init 48 = .ok (.aload_n 0, 1) := by decide +kernel
theorem dX4_init_49 : decode cX4_init 49 = .ok (.new 25, 3) := by decide +kernel
theorem dX4_init_52 : decode cX4_init 52 = .ok (.dup, 1) := by decide +kernel
theorem dX4_init_53 : decode cX4_init 53 = .ok (.invokespecial 27, 3) := by decide +kernel
theorem dX4_init_56 : decode cX4_init 56 = .ok (.putfield 28, 3) := by decide +kernel
theorem dX4_init_59 : decode cX4_init 59 = .ok (.aload_n 0, 1) := by decide +kernel
theorem dX4_init_60 : decode cX4_init 60 = .ok (.iconst 4, 1) := by decide +kernel
theorem dX4_init_61 : decode cX4_init 61 = .ok (.anewarray 32, 3) := by decide +kernel
theorem dX4_init_64 : decode cX4_init 64 = .ok (.putfield 34, 3) := by decide +kernel
theorem dX4_init_67 : decode cX4_init 67 = .ok (.aload_n 0, 1) := by decide +kernel
theorem dX4_init_68 : decode cX4_init 68 = .ok (.new 38, 3) := by decide +kernel
theorem dX4_init_71 : decode cX4_init 71 = .ok (.dup, 1) := by decide +kernel
theorem dX4_init_72 : decode cX4_init 72 = .ok (.invokespecial 40, 3) := by decide +kernel
theorem dX4_init_75 : decode cX4_init 75 = .ok (.putfield 41, 3) := by decide +kernel
theorem dX4_init_78 : decode cX4_init 78 = .ok (.aload_n 0, 1) := by decide +kernel
theorem dX4_init_79 : decode cX4_init 79 = .ok (.new 38, 3) := by decide +kernel
theorem dX4_init_82 : decode cX4_init 82 = .ok (.dup, 1) := by decide +kernel
theorem dX4_init_83 : decode cX4_init 83 = .ok (.invokespecial 40, 3) := by decide +kernel
theorem dX4_init_86 : decode cX4_init 86 = .ok (.putfield 45, 3) := by decide +kernel
theorem dX4_init_89 : decode cX4_init 89 = .ok (.return_, 1) := by decide +kernel
theorem dX4_insert_0 : decode cX4_insert 0 = .ok (.aload_n 0, 1) := by decide +kernel
theorem dX4_insert_1 : decode cX4_insert 1 = .ok (.iload_n 1, 1) := by decide +kernel
theorem dX4_insert_2 : decode cX4_insert 2 = .ok (.invokevirtual 48, 3) := by decide +kernel
theorem dX4_insert_5 : decode cX4_insert 5 = .ok (.iload_n 2, 1) := by decide +kernel
theorem dX4_insert_6 : decode cX4_insert 6 = .ok (.invokestatic 52, 3) := by decide +kernel
theorem dX4_insert_9 : decode cX4_insert 9 = .ok (.aload_n 0, 1) := by decide +kernel
theorem dX4_insert_10 : decode cX4_insert 10 = .ok (.getfield 10, 3) := by decide +kernel
theorem dX4_insert_13 : decode cX4_insert 13 = .ok (.invokevirtual 55, 3) := by decide +kernel
theorem dX4_insert_16 : decode cX4_insert 16 = .ok (.aload_n 0, 1) := by decide +kernel
theorem dX4_insert_17 : decode cX4_insert 17 = .ok (.getfield 16, 3) := by decide +kernel
theorem dX4_insert_20 : decode cX4_insert 20 = .ok (.invokevirtual 55, 3) := by decide +kernel
theorem dX4_insert_23 : decode cX4_insert 23 = .ok (.iadd, 1) := by decide +kernel
theorem dX4_insert_24 : decode cX4_insert 24 = .ok (.bipush 60, 2) := by decide +kernel
theorem dX4_insert_26 : decode cX4_insert 26 = .ok (.if_icmp .lt 13, 3) := by decide +kernel
theorem dX4_insert_29 : decode cX4_insert 29 = .ok (.new 59, 3) := by decide +kernel
theorem dX4_insert_32 : decode cX4_insert 32 = .ok (.dup, 1) := by decide +kernel
theorem dX4_insert_33 : decode cX4_insert 33 = .ok (.ldc 61, 2) := by decide +kernel
theorem dX4_insert_35 : decode cX4_insert 35 = .ok (.invokespecial 63, 3) := by decide +kernel
theorem dX4_insert_38 : decode cX4_insert 38 = .ok (.athrow, 1) := by decide +kernel
theorem dX4_insert_39 : decode cX4_insert 39 = .ok (.aload_n 0, 1) := by decide +kernel
theorem dX4_insert_40 : decode cX4_insert 40 = .ok (.getfield 28, 3) := by decide +kernel
theorem dX4_insert_43 : decode cX4_insert 43 = .ok (.invokevirtual 66, 3) := by decide +kernel
theorem dX4_insert_46 : decode cX4_insert 46 = .ok (.aload_n 0, 1) := by decide +kernel
theorem dX4_insert_47 : decode cX4_insert 47 = .ok (.getfield 28, 3) := by decide +kernel
theorem dX4_insert_50 : decode cX4_insert 50 = .ok (.aload_n 0, 1) := by decide +kernel
theorem dX4_insert_51 : decode cX4_insert 51 = .ok (.getfield 10, 3) := by decide +kernel
theorem dX4_insert_54 : decode cX4_insert 54 = .ok (.iload_n 1, 1) := by decide +kernel
theorem dX4_insert_55 : decode cX4_insert 55 = .ok (.aload_n 0, 1) := by decide +kernel
theorem dX4_insert_56 : decode cX4_insert 56 = .ok (.getfield 22, 3) := by decide +kernel
theorem dX4_insert_59 : decode cX4_insert 59 = .ok (.invokevirtual 69, 3) := by decide +kernel
theorem dX4_insert_62 : decode cX4_insert 62 = .ok (.new 32, 3) := by decide +kernel
theorem dX4_insert_65 : decode cX4_insert 65 = .ok (.dup, 1) := by decide +kernel
theorem dX4_insert_66 : decode cX4_insert 66 = .ok (.iload_n 2, 1) := by decide +kernel
theorem dX4_insert_67 : decode cX4_insert 67 = .ok (.invokespecial 73, 3) := by decide +kernel
theorem dX4_insert_70 : decode cX4_insert 70 = .ok (.astore_n 3, 1) := by decide +kernel
theorem dX4_insert_71 : decode cX4_insert 71 = .ok (.aload_n 3, 1) := by decide +kernel
theorem dX4_insert_72 : decode cX4_insert 72 = .ok (.aload_n 0, 1) := by decide +kernel
theorem dX4_insert_73 : decode cX4_insert 73 = .ok (.getfield 10, 3) := by decide +kernel
theorem dX4_insert_76 : decode cX4_insert 76 = .ok (.invokevirtual 75, 3) := by decide +kernel
theorem dX4_insert_79 : decode cX4_insert 79 = .ok (.invokevirtual 79, 3) := by decide +kernel
theorem dX4_insert_82 : decode cX4_insert 82 = .ok (.aload_n 3, 1) := by decide +kernel
theorem dX4_insert_83 : decode cX4_insert 83 = .ok (.aload_n 0, 1) := by decide +kernel
theorem dX4_insert_84 : decode cX4_insert 84 = .ok (.getfield 22, 3) := by decide +kernel
theorem dX4_insert_87 : decode cX4_insert 87 = .ok (.invokevirtual 75, 3) := by decide +kernel
theorem dX4_insert_90 : decode cX4_insert 90 = .ok (.invokevirtual 83, 3) := by decide +kernel
theorem dX4_insert_93 : decode cX4_insert 93 = .ok (.aload_n 0, 1) := by decide +kernel
theorem dX4_insert_94 : decode cX4_insert 94 = .ok (.getfield 10, 3) := by decide +kernel
theorem dX4_insert_97 : decode cX4_insert 97 = .ok (.aload_n 3, 1) := by decide +kernel
theorem dX4_insert_98 : decode cX4_insert 98 = .ok (.putfield 86, 3) := by decide +kernel
theorem dX4_insert_101 : decode cX4_insert 101 = .ok (.aload_n 0, 1) := by decide +kernel
theorem dX4_insert_102 : decode cX4_insert 102 = .ok (.getfield 41, 3) := by decide +kernel
theorem dX4_insert_105 : decode cX4_insert 105 = .ok (.iload_n 1, 1) := by decide +kernel
theorem dX4_insert_106 : decode cX4_insert 106 = .ok (.iload_n 2, 1) := by decide +kernel
theorem dX4_insert_107 : decode cX4_insert 107 = .ok (.invokevirtual 90, 3) := by decide +kernel
theorem dX4_insert_110 : decode cX4_insert 110 = .ok (.aload_n 0, 1) := by decide +kernel
theorem dX4_insert_111 : decode cX4_insert 111 = .ok (.getfield 10, 3) := by decide +kernel
theorem dX4_insert_114 : decode cX4_insert 114 = .ok (.invokevirtual 55, 3) := by decide +kernel
theorem dX4_insert_117 : decode cX4_insert 117 = .ok (.ireturn, 1) := by decide +kernel
theorem dX4_remove_0 : decode cX4_remove 0 = .ok (.aload_n 0, 1) := by decide +kernel
theorem dX4_remove_1 : decode cX4_remove 1 = .ok (.iload_n 1, 1) := by decide +kernel
theorem dX4_remove_2 : decode cX4_remove 2 = .ok (.invokevirtual 94, 3) := by decide +kernel
theorem dX4_remove_5 : decode cX4_remove 5 = .ok (.astore_n 2, 1) := by decide +kernel
theorem dX4_remove_6 : decode cX4_remove 6 = .ok (.aload_n 0, 1) := by decide +kernel
theorem dX4_remove_7 : decode cX4_remove 7 = .ok (.getfield 28, 3) := by decide +kernel
theorem dX4_remove_10 : decode cX4_remove 10 = .ok (.invokevirtual 66, 3) := by decide +kernel
theorem dX4_remove_13 : decode cX4_remove 13 = .ok (.aload_n 0, 1) := by decide +kernel
theorem dX4_remove_14 : decode cX4_remove 14 = .ok (.getfield 28, 3) := by decide +kernel
theorem dX4_remove_17 : decode cX4_remove 17 = .ok (.aload_n 0, 1) := by decide +kernel
theorem dX4_remove_18 : decode cX4_remove 18 = .ok (.getfield 10, 3) := by decide +kernel
theorem dX4_remove_21 : decode cX4_remove 21 = .ok (.aload_n 2, 1) := by decide +kernel
theorem dX4_remove_22 : decode cX4_remove 22 = .ok (.invokevirtual 98, 3) := by decide +kernel
theorem dX4_remove_25 : decode cX4_remove 25 = .ok (.aload_n 0, 1) := by decide +kernel
theorem dX4_remove_26 : decode cX4_remove 26 = .ok (.getfield 10, 3) := by decide +kernel
theorem dX4_remove_29 : decode cX4_remove 29 = .ok (.aload_n 2, 1) := by decide +kernel
theorem dX4_remove_30 : decode cX4_remove 30 = .ok (.invokevirtual 102, 3) := by decide +kernel
theorem dX4_remove_33 : decode cX4_remove 33 = .ok (.putfield 86, 3) := by decide +kernel
theorem dX4_remove_36 : decode cX4_remove 36 = .ok (.aload_n 0, 1) := by decide +kernel
theorem dX4_remove_37 : decode cX4_remove 37 = .ok (.getfield 22, 3) := by decide +kernel
theorem dX4_remove_40 : decode cX4_remove 40 = .ok (.aload_n 2, 1) := by decide +kernel
theorem dX4_remove_41 : decode cX4_remove 41 = .ok (.invokevirtual 105, 3) := by decide +kernel
theorem dX4_remove_44 : decode cX4_remove 44 = .ok (.putfield 86, 3) := by decide +kernel
theorem dX4_remove_47 : decode cX4_remove 47 = .ok (.aload_n 0, 1) := by decide +kernel
theorem dX4_remove_48 : decode cX4_remove 48 = .ok (.getfield 28, 3) := by decide +kernel
theorem dX4_remove_51 : decode cX4_remove 51 = .ok (.aload_n 0, 1) := by decide +kernel
theorem dX4_remove_52 : decode cX4_remove 52 = .ok (.getfield 10, 3) := by decide +kernel
theorem dX4_remove_55 : decode cX4_remove 55 = .ok (.aload_n 0, 1) := by decide +kernel
theorem dX4_remove_56 : decode cX4_remove 56 = .ok (.getfield 22, 3) := by decide +kernel
theorem dX4_remove_59 : decode cX4_remove 59 = .ok (.invokevirtual 108, 3) := by decide +kernel
theorem dX4_remove_62 : decode cX4_remove 62 = .ok (.aload_n 0, 1) := by decide +kernel
theorem dX4_remove_63 : decode cX4_remove 63 = .ok (.aload_n 2, 1) := by decide +kernel
theorem dX4_remove_64 : decode cX4_remove 64 = .ok (.invokevirtual 112, 3) := by decide +kernel
theorem dX4_remove_67 : decode cX4_remove 67 = .ok (.aload_n 0, 1) := by decide +kernel
theorem dX4_remove_68 : decode cX4_remove 68 = .ok (.getfield 41, 3) := by decide +kernel
theorem dX4_remove_71 : decode cX4_remove 71 = .ok (.iload_n 1, 1) := by decide +kernel
theorem dX4_remove_72 : decode cX4_remove 72 = .ok (.invokevirtual 115, 3) := by decide +kernel
theorem dX4_remove_75 : decode cX4_remove 75 = .ok (.aload_n 2, 1) := by decide +kernel
theorem dX4_remove_76 : decode cX4_remove 76 = .ok (.getfield 118, 3) := by decide +kernel
theorem dX4_remove_79 : decode cX4_remove 79 = .ok (.ireturn, 1) := by decide +kernel
theorem dX4_get_0 : decode cX4_get 0 = .ok (.aload_n 0, 1) := by decide +kernel
theorem dX4_get_1 : decode cX4_get 1 = .ok (.iload_n 1, 1) := by decide +kernel
theorem dX4_get_2 : decode cX4_get 2 = .ok (.invokevirtual 94, 3) := by decide +kernel
theorem dX4_get_5 : decode cX4_get 5 = .ok (.astore_n 2, 1) := by decide +kernel
theorem dX4_get_6 : decode cX4_get 6 = .ok (.aload_n 0, 1) := by decide +kernel
theorem dX4_get_7 : decode cX4_get 7 = .ok (.getfield 28, 3) := by decide +kernel
theorem dX4_get_10 : decode cX4_get 10 = .ok (.invokevirtual 66, 3) := by decide +kernel
theorem dX4_get_13 : decode cX4_get 13 = .ok (.aload_n 0, 1) := by decide +kernel
theorem dX4_get_14 : decode cX4_get 14 = .ok (.getfield 28, 3) := by decide +kernel
theorem dX4_get_17 : decode cX4_get 17 = .ok (.aload_n 0, 1) := by decide +kernel
theorem dX4_get_18 : decode cX4_get 18 = .ok (.getfield 10, 3) := by decide +kernel
theorem dX4_get_21 : decode cX4_get 21 = .ok (.aload_n 2, 1) := by decide +kernel
theorem dX4_get_22 : decode cX4_get 22 = .ok (.invokevirtual 98, 3) := by decide +kernel
theorem dX4_get_25 : decode cX4_get 25 = .ok (.aload_n 2, 1) := by decide +kernel
theorem dX4_get_26 : decode cX4_get 26 = .ok (.getfield 118, 3) := by decide +kernel
theorem dX4_get_29 : decode cX4_get 29 = .ok (.ireturn, 1) := by decide +kernel
theorem dX4_set_0 : decode cX4_set 0 = .ok (.aload_n 0, 1) := by decide +kernel
theorem dX4_set_1 : decode cX4_set 1 = .ok (.iload_n 1, 1) := by decide +kernel
theorem dX4_set_2 : decode cX4_set 2 = .ok (.invokevirtual 94, 3) := by decide +kernel
theorem dX4_set_5 : decode cX4_set 5 = .ok (.astore_n 3, 1) := by decide +kernel
theorem dX4_set_6 : decode cX4_set 6 = .ok (.iload_n 2, 1) := by decide +kernel
theorem dX4_set_7 : decode cX4_set 7 = .ok (.invokestatic 52, 3) := by decide +kernel
theorem dX4_set_10 : decode cX4_set 10 = .ok (.aload_n 0, 1) := by decide +kernel
theorem dX4_set_11 : decode cX4_set 11 = .ok (.getfield 28, 3) := by decide +kernel
theorem dX4_set_14 : decode cX4_set 14 = .ok (.invokevirtual 66, 3) := by decide +kernel
theorem dX4_set_17 : decode cX4_set 17 = .ok (.aload_n 0, 1) := by decide +kernel
theorem dX4_set_18 : decode cX4_set 18 = .ok (.getfield 28, 3) := by decide +kernel
theorem dX4_set_21 : decode cX4_set 21 = .ok (.aload_n 0, 1) := by decide +kernel
theorem dX4_set_22 : decode cX4_set 22 = .ok (.getfield 10, 3) := by decide +kernel
theorem dX4_set_25 : decode cX4_set 25 = .ok (.aload_n 3, 1) := by decide +kernel
theorem dX4_set_26 : decode cX4_set 26 = .ok (.invokevirtual 98, 3) := by decide +kernel
theorem dX4_set_29 : decode cX4_set 29 = .ok (.aload_n 3, 1) := by decide +kernel
theorem dX4_set_30 : decode cX4_set 30 = .ok (.getfield 118, 3) := by decide +kernel
theorem dX4_set_33 : decode cX4_set 33 = .ok (.istore 4, 2) := by decide +kernel
theorem dX4_set_35 : decode cX4_set 35 = .ok (.aload_n 3, 1) := by decide +kernel
theorem dX4_set_36 : decode cX4_set 36 = .ok (.iload_n 2, 1) := by decide +kernel
theorem dX4_set_37 : decode cX4_set 37 = .ok (.putfield 118, 3) := by decide +kernel
theorem dX4_set_40 : decode cX4_set 40 = .ok (.aload_n 0, 1) := by decide +kernel
theorem dX4_set_41 : decode cX4_set 41 = .ok (.getfield 41, 3) := by decide +kernel
theorem dX4_set_44 : decode cX4_set 44 = .ok (.iload_n 1, 1) := by decide +kernel
theorem dX4_set_45 : decode cX4_set 45 = .ok (.iload_n 2, 1) := by decide +kernel
theorem dX4_set_46 : decode cX4_set 46 = .ok (.invokevirtual 122, 3) := by decide +kernel
theorem dX4_set_49 : decode cX4_set 49 = .ok (.iload 4, 2) := by decide +kernel
theorem dX4_set_51 : decode cX4_set 51 = .ok (.ireturn, 1) := by decide +kernel
theorem dX4_reverse_0 : decode cX4_reverse 0 = .ok (.aload_n 0, 1) := by decide +kernel
theorem dX4_reverse_1 : decode cX4_reverse 1 = .ok (.iload_n 1, 1) := by decide +kernel
theorem dX4_reverse_2 : decode cX4_reverse 2 = .ok (.iload_n 2, 1) := by decide +kernel
theorem dX4_reverse_3 : decode cX4_reverse 3 = .ok (.invokevirtual 125, 3) := by decide +kernel
theorem dX4_reverse_6 : decode cX4_reverse 6 = .ok (.aload_n 0, 1) := by decide +kernel
theorem dX4_reverse_7 : decode cX4_reverse 7 = .ok (.getfield 28, 3) := by decide +kernel
theorem dX4_reverse_10 : decode cX4_reverse 10 = .ok (.invokevirtual 66, 3) := by decide +kernel
theorem dX4_reverse_13 : decode cX4_reverse 13 = .ok (.aload_n 0, 1) := by decide +kernel
theorem dX4_reverse_14 : decode cX4_reverse 14 = .ok (.iload_n 1, 1) := by decide +kernel
theorem dX4_reverse_15 : decode cX4_reverse 15 = .ok (.iload_n 2, 1) := by decide +kernel
theorem dX4_reverse_16 : decode cX4_reverse 16 = .ok (.invokevirtual 128, 3) := by decide +kernel
theorem dX4_reverse_19 : decode cX4_reverse 19 = .ok (.aload_n 0, 1) := by decide +kernel
theorem dX4_reverse_20 : decode cX4_reverse 20 = .ok (.getfield 19, 3) := by decide +kernel
theorem dX4_reverse_23 : decode cX4_reverse 23 = .ok (.invokevirtual 131, 3) := by decide +kernel
theorem dX4_reverse_26 : decode cX4_reverse 26 = .ok (.aload_n 0, 1) := by decide +kernel
theorem dX4_reverse_27 : decode cX4_reverse 27 = .ok (.invokevirtual 134, 3) := by decide +kernel
theorem dX4_reverse_30 : decode cX4_reverse 30 = .ok (.aload_n 0, 1) := by decide +kernel
theorem dX4_reverse_31 : decode cX4_reverse 31 = .ok (.getfield 41, 3) := by decide +kernel
theorem dX4_reverse_34 : decode cX4_reverse 34 = .ok (.iload_n 1, 1) := by decide +kernel
theorem dX4_reverse_35 : decode cX4_reverse 35 = .ok (.iload_n 2, 1) := by decide +kernel
theorem dX4_reverse_36 : decode cX4_reverse 36 = .ok (.invokevirtual 137, 3) := by decide +kernel
theorem dX4_reverse_39 : decode cX4_reverse 39 = .ok (.iload_n 2, 1) := by decide +kernel
theorem dX4_reverse_40 : decode cX4_reverse 40 = .ok (.iload_n 1, 1) := by decide +kernel
theorem dX4_reverse_41 : decode cX4_reverse 41 = .ok (.isub, 1) := by decide +kernel
theorem dX4_reverse_42 : decode cX4_reverse 42 = .ok (.ireturn, 1) := by decide +kernel
theorem dX4_raise_0 : decode cX4_raise 0 = .ok (.aload_n 0, 1) := by decide +kernel
theorem dX4_raise_1 : decode cX4_raise 1 = .ok (.iload_n 1, 1) := by decide +kernel
theorem dX4_raise_2 : decode cX4_raise 2 = .ok (.iload_n 2, 1) := by decide +kernel
theorem dX4_raise_3 : decode cX4_raise 3 = .ok (.invokevirtual 125, 3) := by decide +kernel
theorem dX4_raise_6 : decode cX4_raise 6 = .ok (.iload_n 3, 1) := by decide +kernel
theorem dX4_raise_7 : decode cX4_raise 7 = .ok (.invokestatic 52, 3) := by decide +kernel
theorem dX4_raise_10 : decode cX4_raise 10 = .ok (.aload_n 0, 1) := by decide +kernel
theorem dX4_raise_11 : decode cX4_raise 11 = .ok (.getfield 28, 3) := by decide +kernel
theorem dX4_raise_14 : decode cX4_raise 14 = .ok (.invokevirtual 66, 3) := by decide +kernel
theorem dX4_raise_17 : decode cX4_raise 17 = .ok (.aload_n 0, 1) := by decide +kernel
theorem dX4_raise_18 : decode cX4_raise 18 = .ok (.iload_n 1, 1) := by decide +kernel
theorem dX4_raise_19 : decode cX4_raise 19 = .ok (.iload_n 2, 1) := by decide +kernel
theorem dX4_raise_20 : decode cX4_raise 20 = .ok (.invokevirtual 128, 3) := by decide +kernel
theorem dX4_raise_23 : decode cX4_raise 23 = .ok (.aload_n 0, 1) := by decide +kernel
theorem dX4_raise_24 : decode cX4_raise 24 = .ok (.getfield 19, 3) := by decide +kernel
theorem dX4_raise_27 : decode cX4_raise 27 = .ok (.iload_n 3, 1) := by decide +kernel
theorem dX4_raise_28 : decode cX4_raise 28 = .ok (.invokevirtual 139, 3) := by decide +kernel
theorem dX4_raise_31 : decode cX4_raise 31 = .ok (.aload_n 0, 1) := by decide +kernel
theorem dX4_raise_32 : decode cX4_raise 32 = .ok (.invokevirtual 134, 3) := by decide +kernel
theorem dX4_raise_35 : decode cX4_raise 35 = .ok (.aload_n 0, 1) := by decide +kernel
theorem dX4_raise_36 : decode cX4_raise 36 = .ok (.getfield 41, 3) := by decide +kernel
theorem dX4_raise_39 : decode cX4_raise 39 = .ok (.iload_n 1, 1) := by decide +kernel
theorem dX4_raise_40 : decode cX4_raise 40 = .ok (.iload_n 2, 1) := by decide +kernel
theorem dX4_raise_41 : decode cX4_raise 41 = .ok (.iload_n 3, 1) := by decide +kernel
theorem dX4_raise_42 : decode cX4_raise 42 = .ok (.invokevirtual 142, 3) := by decide +kernel
theorem dX4_raise_45 : decode cX4_raise 45 = .ok (.iload_n 2, 1) := by decide +kernel
theorem dX4_raise_46 : decode cX4_raise 46 = .ok (.iload_n 1, 1) := by decide +kernel
theorem dX4_raise_47 : decode cX4_raise 47 = .ok (.isub, 1) := by decide +kernel
theorem dX4_raise_48 : decode cX4_raise 48 = .ok (.ireturn, 1) := by decide +kernel
theorem dX4_sum_0 : decode cX4_sum 0 = .ok (.aload_n 0, 1) := by decide +kernel
theorem dX4_sum_1 : decode cX4_sum 1 = .ok (.iload_n 1, 1) := by decide +kernel
theorem dX4_sum_2 : decode cX4_sum 2 = .ok (.iload_n 2, 1) := by decide +kernel
theorem dX4_sum_3 : decode cX4_sum 3 = .ok (.invokevirtual 125, 3) := by decide +kernel
theorem dX4_sum_6 : decode cX4_sum 6 = .ok (.aload_n 0, 1) := by decide +kernel
theorem dX4_sum_7 : decode cX4_sum 7 = .ok (.getfield 28, 3) := by decide +kernel
theorem dX4_sum_10 : decode cX4_sum 10 = .ok (.invokevirtual 66, 3) := by decide +kernel
theorem dX4_sum_13 : decode cX4_sum 13 = .ok (.aload_n 0, 1) := by decide +kernel
theorem dX4_sum_14 : decode cX4_sum 14 = .ok (.iload_n 1, 1) := by decide +kernel
theorem dX4_sum_15 : decode cX4_sum 15 = .ok (.iload_n 2, 1) := by decide +kernel
theorem dX4_sum_16 : decode cX4_sum 16 = .ok (.invokevirtual 128, 3) := by decide +kernel
theorem dX4_sum_19 : decode cX4_sum 19 = .ok (.aload_n 0, 1) := by decide +kernel
theorem dX4_sum_20 : decode cX4_sum 20 = .ok (.getfield 19, 3) := by decide +kernel
theorem dX4_sum_23 : decode cX4_sum 23 = .ok (.invokevirtual 145, 3) := by decide +kernel
theorem dX4_sum_26 : decode cX4_sum 26 = .ok (.istore_n 3, 1) := by decide +kernel
theorem dX4_sum_27 : decode cX4_sum 27 = .ok (.aload_n 0, 1) := by decide +kernel
theorem dX4_sum_28 : decode cX4_sum 28 = .ok (.invokevirtual 134, 3) := by decide +kernel
theorem dX4_sum_31 : decode cX4_sum 31 = .ok (.iload_n 3, 1) := by decide +kernel
theorem dX4_sum_32 : decode cX4_sum 32 = .ok (.ireturn, 1) := by decide +kernel
theorem dX4_least_0 : decode cX4_least 0 = .ok (.aload_n 0, 1) := by decide +kernel
theorem dX4_least_1 : decode cX4_least 1 = .ok (.iload_n 1, 1) := by decide +kernel
theorem dX4_least_2 : decode cX4_least 2 = .ok (.iload_n 2, 1) := by decide +kernel
theorem dX4_least_3 : decode cX4_least 3 = .ok (.invokevirtual 125, 3) := by decide +kernel
theorem dX4_least_6 : decode cX4_least 6 = .ok (.iload_n 1, 1) := by decide +kernel
theorem dX4_least_7 : decode cX4_least 7 = .ok (.iload_n 2, 1) := by decide +kernel
theorem dX4_least_8 : decode cX4_least 8 = .ok (.if_icmp .ne 13, 3) := by decide +kernel
theorem dX4_least_11 : decode cX4_least 11 = .ok (.new 148, 3) := by decide +kernel
theorem dX4_least_14 : decode cX4_least 14 = .ok (.dup, 1) := by decide +kernel
theorem dX4_least_15 : decode cX4_least 15 = .ok (.ldc 150, 2) := by decide +kernel
theorem dX4_least_17 : decode cX4_least 17 = .ok (.invokespecial 152, 3) := by decide +kernel
theorem dX4_least_20 : decode cX4_least 20 = .ok (.athrow, 1) := by decide +kernel
theorem dX4_least_21 : decode cX4_least 21 = .ok (.aload_n 0, 1) := by decide +kernel
theorem dX4_least_22 : decode cX4_least 22 = .ok (.getfield 28, 3) := by decide +kernel
theorem dX4_least_25 : decode cX4_least 25 = .ok (.invokevirtual 66, 3) := by decide +kernel
theorem dX4_least_28 : decode cX4_least 28 = .ok (.aload_n 0, 1) := by decide +kernel
theorem dX4_least_29 : decode cX4_least 29 = .ok (.iload_n 1, 1) := by decide +kernel
theorem dX4_least_30 : decode cX4_least 30 = .ok (.iload_n 2, 1) := by decide +kernel
theorem dX4_least_31 : decode cX4_least 31 = .ok (.invokevirtual 128, 3) := by decide +kernel
theorem dX4_least_34 : decode cX4_least 34 = .ok (.aload_n 0, 1) := by decide +kernel
theorem dX4_least_35 : decode cX4_least 35 = .ok (.getfield 19, 3) := by decide +kernel
theorem dX4_least_38 : decode cX4_least 38 = .ok (.invokevirtual 153, 3) := by decide +kernel
theorem dX4_least_41 : decode cX4_least 41 = .ok (.istore_n 3, 1) := by decide +kernel
theorem dX4_least_42 : decode cX4_least 42 = .ok (.aload_n 0, 1) := by decide +kernel
theorem dX4_least_43 : decode cX4_least 43 = .ok (.invokevirtual 134, 3) := by decide +kernel
theorem dX4_least_46 : decode cX4_least 46 = .ok (.iload_n 3, 1) := by decide +kernel
theorem dX4_least_47 : decode cX4_least 47 = .ok (.ireturn, 1) := by decide +kernel
theorem dX4_cut_0 : decode cX4_cut 0 = .ok (.aload_n 0, 1) := by decide +kernel
theorem dX4_cut_1 : decode cX4_cut 1 = .ok (.iload_n 1, 1) := by decide +kernel
theorem dX4_cut_2 : decode cX4_cut 2 = .ok (.iload_n 2, 1) := by decide +kernel
theorem dX4_cut_3 : decode cX4_cut 3 = .ok (.invokevirtual 125, 3) := by decide +kernel
theorem dX4_cut_6 : decode cX4_cut 6 = .ok (.aload_n 0, 1) := by decide +kernel
theorem dX4_cut_7 : decode cX4_cut 7 = .ok (.getfield 16, 3) := by decide +kernel
theorem dX4_cut_10 : decode cX4_cut 10 = .ok (.invokevirtual 55, 3) := by decide +kernel
theorem dX4_cut_13 : decode cX4_cut 13 = .ok (.ifCond .le 13, 3) := by decide +kernel
theorem dX4_cut_16 : decode cX4_cut 16 = .ok (.new 59, 3) := by decide +kernel
theorem dX4_cut_19 : decode cX4_cut 19 = .ok (.dup, 1) := by decide +kernel
theorem dX4_cut_20 : decode cX4_cut 20 = .ok (.ldc 156, 2) := by decide +kernel
theorem dX4_cut_22 : decode cX4_cut 22 = .ok (.invokespecial 63, 3) := by decide +kernel
theorem dX4_cut_25 : decode cX4_cut 25 = .ok (.athrow, 1) := by decide +kernel
theorem dX4_cut_26 : decode cX4_cut 26 = .ok (.aload_n 0, 1) := by decide +kernel
theorem dX4_cut_27 : decode cX4_cut 27 = .ok (.getfield 28, 3) := by decide +kernel
theorem dX4_cut_30 : decode cX4_cut 30 = .ok (.invokevirtual 66, 3) := by decide +kernel
theorem dX4_cut_33 : decode cX4_cut 33 = .ok (.aload_n 0, 1) := by decide +kernel
theorem dX4_cut_34 : decode cX4_cut 34 = .ok (.iload_n 1, 1) := by decide +kernel
theorem dX4_cut_35 : decode cX4_cut 35 = .ok (.iload_n 2, 1) := by decide +kernel
theorem dX4_cut_36 : decode cX4_cut 36 = .ok (.invokevirtual 128, 3) := by decide +kernel
theorem dX4_cut_39 : decode cX4_cut 39 = .ok (.aload_n 0, 1) := by decide +kernel
theorem dX4_cut_40 : decode cX4_cut 40 = .ok (.getfield 16, 3) := by decide +kernel
theorem dX4_cut_43 : decode cX4_cut 43 = .ok (.aload_n 0, 1) := by decide +kernel
theorem dX4_cut_44 : decode cX4_cut 44 = .ok (.getfield 19, 3) := by decide +kernel
theorem dX4_cut_47 : decode cX4_cut 47 = .ok (.invokevirtual 75, 3) := by decide +kernel
theorem dX4_cut_50 : decode cX4_cut 50 = .ok (.putfield 86, 3) := by decide +kernel
theorem dX4_cut_53 : decode cX4_cut 53 = .ok (.aload_n 0, 1) := by decide +kernel
theorem dX4_cut_54 : decode cX4_cut 54 = .ok (.getfield 28, 3) := by decide +kernel
theorem dX4_cut_57 : decode cX4_cut 57 = .ok (.aload_n 0, 1) := by decide +kernel
theorem dX4_cut_58 : decode cX4_cut 58 = .ok (.getfield 10, 3) := by decide +kernel
theorem dX4_cut_61 : decode cX4_cut 61 = .ok (.aload_n 0, 1) := by decide +kernel
theorem dX4_cut_62 : decode cX4_cut 62 = .ok (.getfield 22, 3) := by decide +kernel
theorem dX4_cut_65 : decode cX4_cut 65 = .ok (.invokevirtual 108, 3) := by decide +kernel
theorem dX4_cut_68 : decode cX4_cut 68 = .ok (.aload_n 0, 1) := by decide +kernel
theorem dX4_cut_69 : decode cX4_cut 69 = .ok (.getfield 41, 3) := by decide +kernel
theorem dX4_cut_72 : decode cX4_cut 72 = .ok (.iload_n 1, 1) := by decide +kernel
theorem dX4_cut_73 : decode cX4_cut 73 = .ok (.iload_n 2, 1) := by decide +kernel
theorem dX4_cut_74 : decode cX4_cut 74 = .ok (.aload_n 0, 1) := by decide +kernel
theorem dX4_cut_75 : decode cX4_cut 75 = .ok (.getfield 45, 3) := by decide +kernel
theorem dX4_cut_78 : decode cX4_cut 78 = .ok (.invokevirtual 158, 3) := by decide +kernel
theorem dX4_cut_81 : decode cX4_cut 81 = .ok (.iload_n 2, 1) := by decide +kernel
theorem dX4_cut_82 : decode cX4_cut 82 = .ok (.iload_n 1, 1) := by decide +kernel
theorem dX4_cut_83 : decode cX4_cut 83 = .ok (.isub, 1) := by decide +kernel
theorem dX4_cut_84 : decode cX4_cut 84 = .ok (.ireturn, 1) := by decide +kernel
theorem dX4_paste_0 : decode cX4_paste 0 = .ok (.aload_n 0, 1) := by decide +kernel
theorem dX4_paste_1 : decode cX4_paste 1 = .ok (.iload_n 1, 1) := by decide +kernel
theorem dX4_paste_2 : decode cX4_paste 2 = .ok (.invokevirtual 48, 3) := by decide +kernel
theorem dX4_paste_5 : decode cX4_paste 5 = .ok (.aload_n 0, 1) := by decide +kernel
theorem dX4_paste_6 : decode cX4_paste 6 = .ok (.getfield 28, 3) := by decide +kernel
theorem dX4_paste_9 : decode cX4_paste 9 = .ok (.invokevirtual 66, 3) := by decide +kernel
theorem dX4_paste_12 : decode cX4_paste 12 = .ok (.aload_n 0, 1) := by decide +kernel
theorem dX4_paste_13 : decode cX4_paste 13 = .ok (.getfield 16, 3) := by decide +kernel
theorem dX4_paste_16 : decode cX4_paste 16 = .ok (.invokevirtual 55, 3) := by decide +kernel
theorem dX4_paste_19 : decode cX4_paste 19 = .ok (.istore_n 2, 1) := by decide +kernel
theorem dX4_paste_20 : decode cX4_paste 20 = .ok (.iload_n 2, 1) := by decide +kernel
theorem dX4_paste_21 : decode cX4_paste 21 = .ok (.ifCond .le 61, 3) := by decide +kernel
theorem dX4_paste_24 : decode cX4_paste 24 = .ok (.aload_n 0, 1) := by decide +kernel
theorem dX4_paste_25 : decode cX4_paste 25 = .ok (.getfield 28, 3) := by decide +kernel
theorem dX4_paste_28 : decode cX4_paste 28 = .ok (.aload_n 0, 1) := by decide +kernel
theorem dX4_paste_29 : decode cX4_paste 29 = .ok (.getfield 10, 3) := by decide +kernel
theorem dX4_paste_32 : decode cX4_paste 32 = .ok (.iload_n 1, 1) := by decide +kernel
theorem dX4_paste_33 : decode cX4_paste 33 = .ok (.aload_n 0, 1) := by decide +kernel
theorem dX4_paste_34 : decode cX4_paste 34 = .ok (.getfield 22, 3) := by decide +kernel
theorem dX4_paste_37 : decode cX4_paste 37 = .ok (.invokevirtual 69, 3) := by decide +kernel
theorem dX4_paste_40 : decode cX4_paste 40 = .ok (.aload_n 0, 1) := by decide +kernel
theorem dX4_paste_41 : decode cX4_paste 41 = .ok (.getfield 28, 3) := by decide +kernel
theorem dX4_paste_44 : decode cX4_paste 44 = .ok (.aload_n 0, 1) := by decide +kernel
theorem dX4_paste_45 : decode cX4_paste 45 = .ok (.getfield 10, 3) := by decide +kernel
theorem dX4_paste_48 : decode cX4_paste 48 = .ok (.aload_n 0, 1) := by decide +kernel
theorem dX4_paste_49 : decode cX4_paste 49 = .ok (.getfield 16, 3) := by decide +kernel
theorem dX4_paste_52 : decode cX4_paste 52 = .ok (.invokevirtual 108, 3) := by decide +kernel
theorem dX4_paste_55 : decode cX4_paste 55 = .ok (.aload_n 0, 1) := by decide +kernel
theorem dX4_paste_56 : decode cX4_paste 56 = .ok (.getfield 28, 3) := by decide +kernel
theorem dX4_paste_59 : decode cX4_paste 59 = .ok (.aload_n 0, 1) := by decide +kernel
theorem dX4_paste_60 : decode cX4_paste 60 = .ok (.getfield 10, 3) := by decide +kernel
theorem dX4_paste_63 : decode cX4_paste 63 = .ok (.aload_n 0, 1) := by decide +kernel
theorem dX4_paste_64 : decode cX4_paste 64 = .ok (.getfield 22, 3) := by decide +kernel
theorem dX4_paste_67 : decode cX4_paste 67 = .ok (.invokevirtual 108, 3) := by decide +kernel
theorem dX4_paste_70 : decode cX4_paste 70 = .ok (.aload_n 0, 1) := by decide +kernel
theorem dX4_paste_71 : decode cX4_paste 71 = .ok (.getfield 41, 3) := by decide +kernel
theorem dX4_paste_74 : decode cX4_paste 74 = .ok (.iload_n 1, 1) := by decide +kernel
theorem dX4_paste_75 : decode cX4_paste 75 = .ok (.aload_n 0, 1) := by decide +kernel
theorem dX4_paste_76 : decode cX4_paste 76 = .ok (.getfield 45, 3) := by decide +kernel
theorem dX4_paste_79 : decode cX4_paste 79 = .ok (.invokevirtual 162, 3) := by decide +kernel
theorem dX4_paste_82 : decode cX4_paste 82 = .ok (.iload_n 2, 1) := by decide +kernel
theorem dX4_paste_83 : decode cX4_paste 83 = .ok (.ireturn, 1) := by decide +kernel
theorem dX4_point_0 : decode cX4_point 0 = .ok (.aload_n 0, 1) := by decide +kernel
theorem dX4_point_1 : decode cX4_point 1 = .ok (.iload_n 1, 1) := by decide +kernel
theorem dX4_point_2 : decode cX4_point 2 = .ok (.invokevirtual 166, 3) := by decide +kernel
theorem dX4_point_5 : decode cX4_point 5 = .ok (.aload_n 0, 1) := by decide +kernel
theorem dX4_point_6 : decode cX4_point 6 = .ok (.iload_n 2, 1) := by decide +kernel
theorem dX4_point_7 : decode cX4_point 7 = .ok (.invokevirtual 94, 3) := by decide +kernel
theorem dX4_point_10 : decode cX4_point 10 = .ok (.astore_n 3, 1) := by decide +kernel
theorem dX4_point_11 : decode cX4_point 11 = .ok (.aload_n 0, 1) := by decide +kernel
theorem dX4_point_12 : decode cX4_point 12 = .ok (.getfield 28, 3) := by decide +kernel
theorem dX4_point_15 : decode cX4_point 15 = .ok (.invokevirtual 66, 3) := by decide +kernel
theorem dX4_point_18 : decode cX4_point 18 = .ok (.aload_n 0, 1) := by decide +kernel
theorem dX4_point_19 : decode cX4_point 19 = .ok (.getfield 28, 3) := by decide +kernel
theorem dX4_point_22 : decode cX4_point 22 = .ok (.aload_n 0, 1) := by decide +kernel
theorem dX4_point_23 : decode cX4_point 23 = .ok (.getfield 10, 3) := by decide +kernel
theorem dX4_point_26 : decode cX4_point 26 = .ok (.aload_n 3, 1) := by decide +kernel
theorem dX4_point_27 : decode cX4_point 27 = .ok (.invokevirtual 98, 3) := by decide +kernel
theorem dX4_point_30 : decode cX4_point 30 = .ok (.aload_n 0, 1) := by decide +kernel
theorem dX4_point_31 : decode cX4_point 31 = .ok (.getfield 34, 3) := by decide +kernel
theorem dX4_point_34 : decode cX4_point 34 = .ok (.iload_n 1, 1) := by decide +kernel
theorem dX4_point_35 : decode cX4_point 35 = .ok (.aload_n 3, 1) := by decide +kernel
theorem dX4_point_36 : decode cX4_point 36 = .ok (.aastore, 1) := by decide +kernel
theorem dX4_point_37 : decode cX4_point 37 = .ok (.aload_n 3, 1) := by decide +kernel
theorem dX4_point_38 : decode cX4_point 38 = .ok (.getfield 118, 3) := by decide +kernel
theorem dX4_point_41 : decode cX4_point 41 = .ok (.ireturn, 1) := by decide +kernel
theorem dX4_follow_0 : decode cX4_follow 0 = .ok (.aload_n 0, 1) := by decide +kernel
theorem dX4_follow_1 : decode cX4_follow 1 = .ok (.iload_n 1, 1) := by decide +kernel
theorem dX4_follow_2 : decode cX4_follow 2 = .ok (.invokevirtual 166, 3) := by decide +kernel
theorem dX4_follow_5 : decode cX4_follow 5 = .ok (.aload_n 0, 1) := by decide +kernel
theorem dX4_follow_6 : decode cX4_follow 6 = .ok (.getfield 34, 3) := by decide +kernel
theorem dX4_follow_9 : decode cX4_follow 9 = .ok (.iload_n 1, 1) := by decide +kernel
theorem dX4_follow_10 : decode cX4_follow 10 = .ok (.aaload, 1) := by decide +kernel
theorem dX4_follow_11 : decode cX4_follow 11 = .ok (.astore_n 2, 1) := by decide +kernel
theorem dX4_follow_12 : decode cX4_follow 12 = .ok (.aload_n 0, 1) := by decide +kernel
theorem dX4_follow_13 : decode cX4_follow 13 = .ok (.getfield 28, 3) := by decide +kernel
theorem dX4_follow_16 : decode cX4_follow 16 = .ok (.invokevirtual 66, 3) := by decide +kernel
theorem dX4_follow_19 : decode cX4_follow 19 = .ok (.aload_n 2, 1) := by decide +kernel
theorem dX4_follow_20 : decode cX4_follow 20 = .ok (.ifnull 14, 3) := by decide +kernel
theorem dX4_follow_23 : decode cX4_follow 23 = .ok (.aload_n 0, 1) := by decide +kernel
theorem dX4_follow_24 : decode cX4_follow 24 = .ok (.getfield 10, 3) := by decide +kernel
theorem dX4_follow_27 : decode cX4_follow 27 = .ok (.aload_n 2, 1) := by decide +kernel
theorem dX4_follow_28 : decode cX4_follow 28 = .ok (.invokevirtual 169, 3) := by decide +kernel
theorem dX4_follow_31 : decode cX4_follow 31 = .ok (.ifCond .ne 5, 3) := by decide +kernel
theorem dX4_follow_34 : decode cX4_follow 34 = .ok (.iconst (-1), 1) := by decide +kernel
theorem dX4_follow_35 : decode cX4_follow 35 = .ok (.ireturn, 1) := by decide +kernel
theorem dX4_follow_36 : decode cX4_follow 36 = .ok (.aload_n 0, 1) := by decide +kernel
theorem dX4_follow_37 : decode cX4_follow 37 = .ok (.getfield 28, 3) := by decide +kernel
theorem dX4_follow_40 : decode cX4_follow 40 = .ok (.aload_n 0, 1) := by decide +kernel
theorem dX4_follow_41 : decode cX4_follow 41 = .ok (.getfield 10, 3) := by decide +kernel
theorem dX4_follow_44 : decode cX4_follow 44 = .ok (.aload_n 2, 1) := by decide +kernel
theorem dX4_follow_45 : decode cX4_follow 45 = .ok (.invokevirtual 98, 3) := by decide +kernel
theorem dX4_follow_48 : decode cX4_follow 48 = .ok (.aload_n 2, 1) := by decide +kernel
theorem dX4_follow_49 : decode cX4_follow 49 = .ok (.invokevirtual 173, 3) := by decide +kernel
theorem dX4_follow_52 : decode cX4_follow 52 = .ok (.ireturn, 1) := by decide +kernel
theorem dX4_move_0 : decode cX4_move 0 = .ok (.aload_n 0, 1) := by decide +kernel
theorem dX4_move_1 : decode cX4_move 1 = .ok (.iload_n 1, 1) := by decide +kernel
theorem dX4_move_2 : decode cX4_move 2 = .ok (.invokevirtual 166, 3) := by decide +kernel
theorem dX4_move_5 : decode cX4_move 5 = .ok (.aload_n 0, 1) := by decide +kernel
theorem dX4_move_6 : decode cX4_move 6 = .ok (.getfield 34, 3) := by decide +kernel
theorem dX4_move_9 : decode cX4_move 9 = .ok (.iload_n 1, 1) := by decide +kernel
theorem dX4_move_10 : decode cX4_move 10 = .ok (.aaload, 1) := by decide +kernel
theorem dX4_move_11 : decode cX4_move 11 = .ok (.astore_n 3, 1) := by decide +kernel
theorem dX4_move_12 : decode cX4_move 12 = .ok (.aload_n 3, 1) := by decide +kernel
theorem dX4_move_13 : decode cX4_move 13 = .ok (.ifnull 14, 3) := by decide +kernel
theorem dX4_move_16 : decode cX4_move 16 = .ok (.aload_n 0, 1) := by decide +kernel
theorem dX4_move_17 : decode cX4_move 17 = .ok (.getfield 10, 3) := by decide +kernel
theorem dX4_move_20 : decode cX4_move 20 = .ok (.aload_n 3, 1) := by decide +kernel
theorem dX4_move_21 : decode cX4_move 21 = .ok (.invokevirtual 169, 3) := by decide +kernel
theorem dX4_move_24 : decode cX4_move 24 = .ok (.ifCond .ne 13, 3) := by decide +kernel
theorem dX4_move_27 : decode cX4_move 27 = .ok (.new 59, 3) := by decide +kernel
theorem dX4_move_30 : decode cX4_move 30 = .ok (.dup, 1) := by decide +kernel
theorem dX4_move_31 : decode cX4_move 31 = .ok (.ldc 176, 2) := by decide +kernel
theorem dX4_move_33 : decode cX4_move 33 = .ok (.invokespecial 63, 3) := by decide +kernel
theorem dX4_move_36 : decode cX4_move 36 = .ok (.athrow, 1) := by decide +kernel
theorem dX4_move_37 : decode cX4_move 37 = .ok (.aload_n 3, 1) := by decide +kernel
theorem dX4_move_38 : decode cX4_move 38 = .ok (.invokevirtual 173, 3) := by decide +kernel
theorem dX4_move_41 : decode cX4_move 41 = .ok (.istore 4, 2) := by decide +kernel
theorem dX4_move_43 : decode cX4_move 43 = .ok (.iload_n 2, 1) := by decide +kernel
theorem dX4_move_44 : decode cX4_move 44 = .ok (.iload 4, 2) := by decide +kernel
theorem dX4_move_46 : decode cX4_move 46 = .ok (.ineg, 1) := by decide +kernel
theorem dX4_move_47 : decode cX4_move 47 = .ok (.if_icmp .lt 17, 3) := by decide +kernel
theorem dX4_move_50 : decode cX4_move 50 = .ok (.iload_n 2, 1) := by decide +kernel
theorem dX4_move_51 : decode cX4_move 51 = .ok (.aload_n 0, 1) := by decide +kernel
theorem dX4_move_52 : decode cX4_move 52 = .ok (.getfield 10, 3) := by decide +kernel
theorem dX4_move_55 : decode cX4_move 55 = .ok (.invokevirtual 55, 3) := by decide +kernel
theorem dX4_move_58 : decode cX4_move 58 = .ok (.iload 4, 2) := by decide +kernel
theorem dX4_move_60 : decode cX4_move 60 = .ok (.isub, 1) := by decide +kernel
theorem dX4_move_61 : decode cX4_move 61 = .ok (.if_icmp .lt 13, 3) := by decide +kernel
theorem dX4_move_64 : decode cX4_move 64 = .ok (.new 59, 3) := by decide +kernel
theorem dX4_move_67 : decode cX4_move 67 = .ok (.dup, 1) := by decide +kernel
theorem dX4_move_68 : decode cX4_move 68 = .ok (.ldc 178, 2) := by decide +kernel
theorem dX4_move_70 : decode cX4_move 70 = .ok (.invokespecial 63, 3) := by decide +kernel
theorem dX4_move_73 : decode cX4_move 73 = .ok (.athrow, 1) := by decide +kernel
theorem dX4_move_74 : decode cX4_move 74 = .ok (.iload 4, 2) := by decide +kernel
theorem dX4_move_76 : decode cX4_move 76 = .ok (.iload_n 2, 1) := by decide +kernel
theorem dX4_move_77 : decode cX4_move 77 = .ok (.iadd, 1) := by decide +kernel
theorem dX4_move_78 : decode cX4_move 78 = .ok (.istore 5, 2) := by decide +kernel
theorem dX4_move_80 : decode cX4_move 80 = .ok (.aload_n 0, 1) := by decide +kernel
theorem dX4_move_81 : decode cX4_move 81 = .ok (.iload 5, 2) := by decide +kernel
theorem dX4_move_83 : decode cX4_move 83 = .ok (.invokevirtual 94, 3) := by decide +kernel
theorem dX4_move_86 : decode cX4_move 86 = .ok (.astore 6, 2) := by decide +kernel
theorem dX4_move_88 : decode cX4_move 88 = .ok (.aload_n 0, 1) := by decide +kernel
theorem dX4_move_89 : decode cX4_move 89 = .ok (.getfield 28, 3) := by decide +kernel
theorem dX4_move_92 : decode cX4_move 92 = .ok (.invokevirtual 66, 3) := by decide +kernel
theorem dX4_move_95 : decode cX4_move 95 = .ok (.aload_n 0, 1) := by decide +kernel
theorem dX4_move_96 : decode cX4_move 96 = .ok (.getfield 28, 3) := by decide +kernel
theorem dX4_move_99 : decode cX4_move 99 = .ok (.aload_n 0, 1) := by decide +kernel
theorem dX4_move_100 : decode cX4_move 100 = .ok (.getfield 10, 3) := by decide +kernel
theorem dX4_move_103 : decode cX4_move 103 = .ok (.aload_n 3, 1) := by decide +kernel
theorem dX4_move_104 : decode cX4_move 104 = .ok (.invokevirtual 98, 3) := by decide +kernel
theorem dX4_move_107 : decode cX4_move 107 = .ok (.aload_n 0, 1) := by decide +kernel
theorem dX4_move_108 : decode cX4_move 108 = .ok (.getfield 28, 3) := by decide +kernel
theorem dX4_move_111 : decode cX4_move 111 = .ok (.aload_n 0, 1) := by decide +kernel
theorem dX4_move_112 : decode cX4_move 112 = .ok (.getfield 10, 3) := by decide +kernel
theorem dX4_move_115 : decode cX4_move 115 = .ok (.aload 6, 2) := by decide +kernel
theorem dX4_move_117 : decode cX4_move 117 = .ok (.invokevirtual 98, 3) := by decide +kernel
theorem dX4_move_120 : decode cX4_move 120 = .ok (.aload_n 0, 1) := by decide +kernel
theorem dX4_move_121 : decode cX4_move 121 = .ok (.getfield 34, 3) := by decide +kernel
theorem dX4_move_124 : decode cX4_move 124 = .ok (.iload_n 1, 1) := by decide +kernel
theorem dX4_move_125 : decode cX4_move 125 = .ok (.aload 6, 2) := by decide +kernel
theorem dX4_move_127 : decode cX4_move 127 = .ok (.aastore, 1) := by decide +kernel
theorem dX4_move_128 : decode cX4_move 128 = .ok (.iload 5, 2) := by decide +kernel
theorem dX4_move_130 : decode cX4_move 130 = .ok (.ireturn, 1) := by decide +kernel
theorem dX4_lastSteps_0 : decode cX4_lastSteps 0 = .ok (.aload_n 0, 1) := by decide +kernel
theorem dX4_lastSteps_1 : decode cX4_lastSteps 1 = .ok (.getfield 28, 3) := by decide +kernel
theorem dX4_lastSteps_4 : decode cX4_lastSteps 4 = .ok (.getfield 180, 3) := by decide +kernel
theorem dX4_lastSteps_7 : decode cX4_lastSteps 7 = .ok (.ireturn, 1) := by decide +kernel
theorem dX4_lastRotations_0 : decode cX4_lastRotations 0 = .ok (.aload_n 0, 1) := by decide +kernel
theorem dX4_lastRotations_1 : decode cX4_lastRotations 1 = .ok (.getfield 28, 3) := by decide +kernel
theorem dX4_lastRotations_4 : decode cX4_lastRotations 4 = .ok (.getfield 183, 3) := by decide +kernel
theorem dX4_lastRotations_7 : decode cX4_lastRotations 7 = .ok (.ireturn, 1) := by decide +kernel
theorem dX4_steps_0 : decode cX4_steps 0 = .ok (.aload_n 0, 1) := by decide +kernel
theorem dX4_steps_1 : decode cX4_steps 1 = .ok (.getfield 28, 3) := by decide +kernel
theorem dX4_steps_4 : decode cX4_steps 4 = .ok (.getfield 186, 3) := by decide +kernel
theorem dX4_steps_7 : decode cX4_steps 7 = .ok (.ireturn, 1) := by decide +kernel
theorem dX4_splays_0 : decode cX4_splays 0 = .ok (.aload_n 0, 1) := by decide +kernel
theorem dX4_splays_1 : decode cX4_splays 1 = .ok (.getfield 28, 3) := by decide +kernel
theorem dX4_splays_4 : decode cX4_splays 4 = .ok (.getfield 189, 3) := by decide +kernel
theorem dX4_splays_7 : decode cX4_splays 7 = .ok (.ireturn, 1) := by decide +kernel
theorem dX4_potential_0 : decode cX4_potential 0 = .ok (.aload_n 0, 1) := by decide +kernel
theorem dX4_potential_1 : decode cX4_potential 1 = .ok (.getfield 10, 3) := by decide +kernel
theorem dX4_potential_4 : decode cX4_potential 4 = .ok (.invokevirtual 192, 3) := by decide +kernel
theorem dX4_potential_7 : decode cX4_potential 7 = .ok (.aload_n 0, 1) := by decide +kernel
theorem dX4_potential_8 : decode cX4_potential 8 = .ok (.getfield 16, 3) := by decide +kernel
theorem dX4_potential_11 : decode cX4_potential 11 = .ok (.invokevirtual 192, 3) := by decide +kernel
theorem dX4_potential_14 : decode cX4_potential 14 = .ok (.iadd, 1) := by decide +kernel
theorem dX4_potential_15 : decode cX4_potential 15 = .ok (.ireturn, 1) := by decide +kernel
theorem dX4_size_0 : decode cX4_size 0 = .ok (.aload_n 0, 1) := by decide +kernel
theorem dX4_size_1 : decode cX4_size 1 = .ok (.getfield 10, 3) := by decide +kernel
theorem dX4_size_4 : decode cX4_size 4 = .ok (.invokevirtual 55, 3) := by decide +kernel
theorem dX4_size_7 : decode cX4_size 7 = .ok (.ireturn, 1) := by decide +kernel
theorem dX4_clipped_0 : decode cX4_clipped 0 = .ok (.aload_n 0, 1) := by decide +kernel
theorem dX4_clipped_1 : decode cX4_clipped 1 = .ok (.getfield 16, 3) := by decide +kernel
theorem dX4_clipped_4 : decode cX4_clipped 4 = .ok (.invokevirtual 55, 3) := by decide +kernel
theorem dX4_clipped_7 : decode cX4_clipped 7 = .ok (.ireturn, 1) := by decide +kernel
theorem dX4_root_0 : decode cX4_root 0 = .ok (.aload_n 0, 1) := by decide +kernel
theorem dX4_root_1 : decode cX4_root 1 = .ok (.getfield 10, 3) := by decide +kernel
theorem dX4_root_4 : decode cX4_root 4 = .ok (.getfield 86, 3) := by decide +kernel
theorem dX4_root_7 : decode cX4_root 7 = .ok (.invokestatic 195, 3) := by decide +kernel
theorem dX4_root_10 : decode cX4_root 10 = .ok (.ireturn, 1) := by decide +kernel
theorem dX4_height_0 : decode cX4_height 0 = .ok (.aload_n 0, 1) := by decide +kernel
theorem dX4_height_1 : decode cX4_height 1 = .ok (.getfield 10, 3) := by decide +kernel
theorem dX4_height_4 : decode cX4_height 4 = .ok (.invokevirtual 199, 3) := by decide +kernel
theorem dX4_height_7 : decode cX4_height 7 = .ok (.ireturn, 1) := by decide +kernel
theorem dX4_depth_0 : decode cX4_depth 0 = .ok (.aload_n 0, 1) := by decide +kernel
theorem dX4_depth_1 : decode cX4_depth 1 = .ok (.iload_n 1, 1) := by decide +kernel
theorem dX4_depth_2 : decode cX4_depth 2 = .ok (.invokevirtual 94, 3) := by decide +kernel
theorem dX4_depth_5 : decode cX4_depth 5 = .ok (.invokevirtual 202, 3) := by decide +kernel
theorem dX4_depth_8 : decode cX4_depth 8 = .ok (.ireturn, 1) := by decide +kernel
theorem dX4_subtree_0 : decode cX4_subtree 0 = .ok (.aload_n 0, 1) := by decide +kernel
theorem dX4_subtree_1 : decode cX4_subtree 1 = .ok (.iload_n 1, 1) := by decide +kernel
theorem dX4_subtree_2 : decode cX4_subtree 2 = .ok (.invokevirtual 94, 3) := by decide +kernel
theorem dX4_subtree_5 : decode cX4_subtree 5 = .ok (.getfield 205, 3) := by decide +kernel
theorem dX4_subtree_8 : decode cX4_subtree 8 = .ok (.ireturn, 1) := by decide +kernel
theorem dX4_child_0 : decode cX4_child 0 = .ok (.aload_n 0, 1) := by decide +kernel
theorem dX4_child_1 : decode cX4_child 1 = .ok (.iload_n 1, 1) := by decide +kernel
theorem dX4_child_2 : decode cX4_child 2 = .ok (.invokevirtual 94, 3) := by decide +kernel
theorem dX4_child_5 : decode cX4_child 5 = .ok (.astore_n 3, 1) := by decide +kernel
theorem dX4_child_6 : decode cX4_child 6 = .ok (.iload_n 2, 1) := by decide +kernel
theorem dX4_child_7 : decode cX4_child 7 = .ok (.ifCond .eq 10, 3) := by decide +kernel
theorem dX4_child_10 : decode cX4_child 10 = .ok (.aload_n 3, 1) := by decide +kernel
theorem dX4_child_11 : decode cX4_child 11 = .ok (.getfield 207, 3) := by decide +kernel
theorem dX4_child_14 : decode cX4_child 14 = .ok (.goto 7, 3) := by decide +kernel
theorem dX4_child_17 : decode cX4_child 17 = .ok (.aload_n 3, 1) := by decide +kernel
theorem dX4_child_18 : decode cX4_child 18 = .ok (.getfield 210, 3) := by decide +kernel
theorem dX4_child_21 : decode cX4_child 21 = .ok (.invokestatic 195, 3) := by decide +kernel
theorem dX4_child_24 : decode cX4_child 24 = .ok (.ireturn, 1) := by decide +kernel
theorem dX4_whereIs_0 : decode cX4_whereIs 0 = .ok (.aload_n 0, 1) := by decide +kernel
theorem dX4_whereIs_1 : decode cX4_whereIs 1 = .ok (.iload_n 1, 1) := by decide +kernel
theorem dX4_whereIs_2 : decode cX4_whereIs 2 = .ok (.invokevirtual 166, 3) := by decide +kernel
theorem dX4_whereIs_5 : decode cX4_whereIs 5 = .ok (.aload_n 0, 1) := by decide +kernel
theorem dX4_whereIs_6 : decode cX4_whereIs 6 = .ok (.getfield 34, 3) := by decide +kernel
theorem dX4_whereIs_9 : decode cX4_whereIs 9 = .ok (.iload_n 1, 1) := by decide +kernel
theorem dX4_whereIs_10 : decode cX4_whereIs 10 = .ok (.aaload, 1) := by decide +kernel
theorem dX4_whereIs_11 : decode cX4_whereIs 11 = .ok (.astore_n 2, 1) := by decide +kernel
theorem dX4_whereIs_12 : decode cX4_whereIs 12 = .ok (.aload_n 2, 1) := by decide +kernel
theorem dX4_whereIs_13 : decode cX4_whereIs 13 = .ok (.ifnonnull 5, 3) := by decide +kernel
theorem dX4_whereIs_16 : decode cX4_whereIs 16 = .ok (.iconst 0, 1) := by decide +kernel
theorem dX4_whereIs_17 : decode cX4_whereIs 17 = .ok (.ireturn, 1) := by decide +kernel
theorem dX4_whereIs_18 : decode cX4_whereIs 18 = .ok (.aload_n 0, 1) := by decide +kernel
theorem dX4_whereIs_19 : decode cX4_whereIs 19 = .ok (.getfield 10, 3) := by decide +kernel
theorem dX4_whereIs_22 : decode cX4_whereIs 22 = .ok (.aload_n 2, 1) := by decide +kernel
theorem dX4_whereIs_23 : decode cX4_whereIs 23 = .ok (.invokevirtual 169, 3) := by decide +kernel
theorem dX4_whereIs_26 : decode cX4_whereIs 26 = .ok (.ifCond .eq 7, 3) := by decide +kernel
theorem dX4_whereIs_29 : decode cX4_whereIs 29 = .ok (.iconst 1, 1) := by decide +kernel
theorem dX4_whereIs_30 : decode cX4_whereIs 30 = .ok (.goto 4, 3) := by decide +kernel
theorem dX4_whereIs_33 : decode cX4_whereIs 33 = .ok (.iconst 2, 1) := by decide +kernel
theorem dX4_whereIs_34 : decode cX4_whereIs 34 = .ok (.ireturn, 1) := by decide +kernel
theorem dX4_plain_0 : decode cX4_plain 0 = .ok (.aload_n 0, 1) := by decide +kernel
theorem dX4_plain_1 : decode cX4_plain 1 = .ok (.iload_n 1, 1) := by decide +kernel
theorem dX4_plain_2 : decode cX4_plain 2 = .ok (.invokevirtual 94, 3) := by decide +kernel
theorem dX4_plain_5 : decode cX4_plain 5 = .ok (.pop, 1) := by decide +kernel
theorem dX4_plain_6 : decode cX4_plain 6 = .ok (.aload_n 0, 1) := by decide +kernel
theorem dX4_plain_7 : decode cX4_plain 7 = .ok (.getfield 41, 3) := by decide +kernel
theorem dX4_plain_10 : decode cX4_plain 10 = .ok (.iload_n 1, 1) := by decide +kernel
theorem dX4_plain_11 : decode cX4_plain 11 = .ok (.invokevirtual 213, 3) := by decide +kernel
theorem dX4_plain_14 : decode cX4_plain 14 = .ok (.ireturn, 1) := by decide +kernel
theorem dX4_plainSum_0 : decode cX4_plainSum 0 = .ok (.aload_n 0, 1) := by decide +kernel
theorem dX4_plainSum_1 : decode cX4_plainSum 1 = .ok (.iload_n 1, 1) := by decide +kernel
theorem dX4_plainSum_2 : decode cX4_plainSum 2 = .ok (.iload_n 2, 1) := by decide +kernel
theorem dX4_plainSum_3 : decode cX4_plainSum 3 = .ok (.invokevirtual 125, 3) := by decide +kernel
theorem dX4_plainSum_6 : decode cX4_plainSum 6 = .ok (.aload_n 0, 1) := by decide +kernel
theorem dX4_plainSum_7 : decode cX4_plainSum 7 = .ok (.getfield 41, 3) := by decide +kernel
theorem dX4_plainSum_10 : decode cX4_plainSum 10 = .ok (.iload_n 1, 1) := by decide +kernel
theorem dX4_plainSum_11 : decode cX4_plainSum 11 = .ok (.iload_n 2, 1) := by decide +kernel
theorem dX4_plainSum_12 : decode cX4_plainSum 12 = .ok (.invokevirtual 217, 3) := by decide +kernel
theorem dX4_plainSum_15 : decode cX4_plainSum 15 = .ok (.ireturn, 1) := by decide +kernel
theorem dX4_nodeAt_0 : decode cX4_nodeAt 0 = .ok (.aload_n 0, 1) := by decide +kernel
theorem dX4_nodeAt_1 : decode cX4_nodeAt 1 = .ok (.getfield 10, 3) := by decide +kernel
theorem dX4_nodeAt_4 : decode cX4_nodeAt 4 = .ok (.iload_n 1, 1) := by decide +kernel
theorem dX4_nodeAt_5 : decode cX4_nodeAt 5 = .ok (.invokevirtual 220, 3) := by decide +kernel
theorem dX4_nodeAt_8 : decode cX4_nodeAt 8 = .ok (.astore_n 2, 1) := by decide +kernel
theorem dX4_nodeAt_9 : decode cX4_nodeAt 9 = .ok (.aload_n 2, 1) := by decide +kernel
theorem dX4_nodeAt_10 : decode cX4_nodeAt 10 = .ok (.ifnonnull 13, 3) := by decide +kernel
theorem dX4_nodeAt_13 : decode cX4_nodeAt 13 = .ok (.new 223, 3) := by decide +kernel
theorem dX4_nodeAt_16 : decode cX4_nodeAt 16 = .ok (.dup, 1) := by decide +kernel
theorem dX4_nodeAt_17 : decode cX4_nodeAt 17 = .ok (.ldc 225, 2) := by decide +kernel
theorem dX4_nodeAt_19 : decode cX4_nodeAt 19 = .ok (.invokespecial 227, 3) := by decide +kernel
theorem dX4_nodeAt_22 : decode cX4_nodeAt 22 = .ok (.athrow, 1) := by decide +kernel
theorem dX4_nodeAt_23 : decode cX4_nodeAt 23 = .ok (.aload_n 2, 1) := by decide +kernel
theorem dX4_nodeAt_24 : decode cX4_nodeAt 24 = .ok (.areturn, 1) := by decide +kernel
theorem dX4_checkGap_0 : decode cX4_checkGap 0 = .ok (.iload_n 1, 1) := by decide +kernel
theorem dX4_checkGap_1 : decode cX4_checkGap 1 = .ok (.ifCond .lt 14, 3) := by decide +kernel
theorem dX4_checkGap_4 : decode cX4_checkGap 4 = .ok (.iload_n 1, 1) := by decide +kernel
theorem dX4_checkGap_5 : decode cX4_checkGap 5 = .ok (.aload_n 0, 1) := by decide +kernel
theorem dX4_checkGap_6 : decode cX4_checkGap 6 = .ok (.getfield 10, 3) := by decide +kernel
theorem dX4_checkGap_9 : decode cX4_checkGap 9 = .ok (.invokevirtual 55, 3) := by decide +kernel
theorem dX4_checkGap_12 : decode cX4_checkGap 12 = .ok (.if_icmp .le 13, 3) := by decide +kernel
theorem dX4_checkGap_15 : decode cX4_checkGap 15 = .ok (.new 223, 3) := by decide +kernel
theorem dX4_checkGap_18 : decode cX4_checkGap 18 = .ok (.dup, 1) := by decide +kernel
theorem dX4_checkGap_19 : decode cX4_checkGap 19 = .ok (.ldc 225, 2) := by decide +kernel
theorem dX4_checkGap_21 : decode cX4_checkGap 21 = .ok (.invokespecial 227, 3) := by decide +kernel
theorem dX4_checkGap_24 : decode cX4_checkGap 24 = .ok (.athrow, 1) := by decide +kernel
theorem dX4_checkGap_25 : decode cX4_checkGap 25 = .ok (.return_, 1) := by decide +kernel
theorem dX4_checkRange_0 : decode cX4_checkRange 0 = .ok (.iload_n 1, 1) := by decide +kernel
theorem dX4_checkRange_1 : decode cX4_checkRange 1 = .ok (.ifCond .lt 19, 3) := by decide +kernel
theorem dX4_checkRange_4 : decode cX4_checkRange 4 = .ok (.iload_n 1, 1) := by decide +kernel
theorem dX4_checkRange_5 : decode cX4_checkRange 5 = .ok (.iload_n 2, 1) := by decide +kernel
theorem dX4_checkRange_6 : decode cX4_checkRange 6 = .ok (.if_icmp .gt 14, 3) := by decide +kernel
theorem dX4_checkRange_9 : decode cX4_checkRange 9 = .ok (.iload_n 2, 1) := by decide +kernel
theorem dX4_checkRange_10 : decode cX4_checkRange 10 = .ok (.aload_n 0, 1) := by decide +kernel
theorem dX4_checkRange_11 : decode cX4_checkRange 11 = .ok (.getfield 10, 3) := by decide +kernel
theorem dX4_checkRange_14 : decode cX4_checkRange 14 = .ok (.invokevirtual 55, 3) := by decide +kernel
theorem dX4_checkRange_17 : decode cX4_checkRange 17 = .ok (.if_icmp .le 13, 3) := by decide +kernel
theorem dX4_checkRange_20 : decode cX4_checkRange 20 = .ok (.new 223, 3) := by decide +kernel
theorem dX4_checkRange_23 : decode cX4_checkRange 23 = .ok (.dup, 1) := by decide +kernel
theorem dX4_checkRange_24 : decode cX4_checkRange 24 = .ok (.ldc 228, 2) := by decide +kernel
theorem dX4_checkRange_26 : decode cX4_checkRange 26 = .ok (.invokespecial 227, 3) := by decide +kernel
theorem dX4_checkRange_29 : decode cX4_checkRange 29 = .ok (.athrow, 1) := by decide +kernel
theorem dX4_checkRange_30 : decode cX4_checkRange 30 = .ok (.return_, 1) := by decide +kernel
theorem dX4_checkFinger_0 : decode cX4_checkFinger 0 = .ok (.iload_n 1, 1) := by decide +kernel
theorem dX4_checkFinger_1 : decode cX4_checkFinger 1 = .ok (.ifCond .lt 12, 3) := by decide +kernel
theorem dX4_checkFinger_4 : decode cX4_checkFinger 4 = .ok (.iload_n 1, 1) := by decide +kernel
theorem dX4_checkFinger_5 : decode cX4_checkFinger 5 = .ok (.aload_n 0, 1) := by decide +kernel
theorem dX4_checkFinger_6 : decode cX4_checkFinger 6 = .ok (.getfield 34, 3) := by decide +kernel
theorem dX4_checkFinger_9 : decode cX4_checkFinger 9 = .ok (.arraylength, 1) := by decide +kernel
theorem dX4_checkFinger_10 : decode cX4_checkFinger 10 = .ok (.if_icmp .lt 13, 3) := by decide +kernel
theorem dX4_checkFinger_13 : decode cX4_checkFinger 13 = .ok (.new 223, 3) := by decide +kernel
theorem dX4_checkFinger_16 : decode cX4_checkFinger 16 = .ok (.dup, 1) := by decide +kernel
theorem dX4_checkFinger_17 : decode cX4_checkFinger 17 = .ok (.ldc 230, 2) := by decide +kernel
theorem dX4_checkFinger_19 : decode cX4_checkFinger 19 = .ok (.invokespecial 227, 3) := by decide +kernel
theorem dX4_checkFinger_22 : decode cX4_checkFinger 22 = .ok (.athrow, 1) := by decide +kernel
theorem dX4_checkFinger_23 : decode cX4_checkFinger 23 = .ok (.return_, 1) := by decide +kernel
theorem dX4_checkAmount_0 : decode cX4_checkAmount 0 = .ok (.iload_n 0, 1) := by decide +kernel
theorem dX4_checkAmount_1 : decode cX4_checkAmount 1 = .ok (.sipush (-1000), 3) := by decide +kernel
theorem dX4_checkAmount_4 : decode cX4_checkAmount 4 = .ok (.if_icmp .lt 10, 3) := by decide +kernel
theorem dX4_checkAmount_7 : decode cX4_checkAmount 7 = .ok (.iload_n 0, 1) := by decide +kernel
theorem dX4_checkAmount_8 : decode cX4_checkAmount 8 = .ok (.sipush 1000, 3) := by decide +kernel
theorem dX4_checkAmount_11 : decode cX4_checkAmount 11 = .ok (.if_icmp .le 13, 3) := by decide +kernel
theorem dX4_checkAmount_14 : decode cX4_checkAmount 14 = .ok (.new 148, 3) := by decide +kernel
theorem dX4_checkAmount_17 : decode cX4_checkAmount 17 = .ok (.dup, 1) := by decide +kernel
theorem dX4_checkAmount_18 : decode cX4_checkAmount 18 = .ok (.ldc 232, 2) := by decide +kernel
theorem dX4_checkAmount_20 : decode cX4_checkAmount 20 = .ok (.invokespecial 152, 3) := by decide +kernel
theorem dX4_checkAmount_23 : decode cX4_checkAmount 23 = .ok (.athrow, 1) := by decide +kernel
theorem dX4_checkAmount_24 : decode cX4_checkAmount 24 = .ok (.return_, 1) := by decide +kernel
theorem dX4_positionOrNone_0 : decode cX4_positionOrNone 0 = .ok (.aload_n 0, 1) := by decide +kernel
theorem dX4_positionOrNone_1 : decode cX4_positionOrNone 1 = .ok (.ifnonnull 7, 3) := by decide +kernel
theorem dX4_positionOrNone_4 : decode cX4_positionOrNone 4 = .ok (.iconst (-1), 1) := by decide +kernel
theorem dX4_positionOrNone_5 : decode cX4_positionOrNone 5 = .ok (.goto 7, 3) := by decide +kernel
theorem dX4_positionOrNone_8 : decode cX4_positionOrNone 8 = .ok (.aload_n 0, 1) := by decide +kernel
theorem dX4_positionOrNone_9 : decode cX4_positionOrNone 9 = .ok (.invokevirtual 173, 3) := by decide +kernel
theorem dX4_positionOrNone_12 : decode cX4_positionOrNone 12 = .ok (.ireturn, 1) := by decide +kernel
theorem dX4_liftFingersFrom_0 : decode cX4_liftFingersFrom 0 = .ok (.iconst 0, 1) := by decide +kernel
theorem dX4_liftFingersFrom_1 : decode cX4_liftFingersFrom 1 = .ok (.istore_n 2, 1) := by decide +kernel
theorem dX4_liftFingersFrom_2 : decode cX4_liftFingersFrom 2 = .ok (.iload_n 2, 1) := by decide +kernel
theorem dX4_liftFingersFrom_3 : decode cX4_liftFingersFrom 3 = .ok (.aload_n 0, 1) := by decide +kernel
theorem dX4_liftFingersFrom_4 : decode cX4_liftFingersFrom 4 = .ok (.getfield 34, 3) := by decide +kernel
theorem dX4_liftFingersFrom_7 : decode cX4_liftFingersFrom 7 = .ok (.arraylength, 1) := by decide +kernel
theorem dX4_liftFingersFrom_8 : decode cX4_liftFingersFrom 8 = .ok (.if_icmp .ge 26, 3) := by decide +kernel
theorem dX4_liftFingersFrom_11 : decode cX4_liftFingersFrom 11 = .ok (.aload_n 0, 1) := by decide +kernel
theorem dX4_liftFingersFrom_12 : decode cX4_liftFingersFrom 12 = .ok (.getfield 34, 3) := by decide +kernel
theorem dX4_liftFingersFrom_15 : decode cX4_liftFingersFrom 15 = .ok (.iload_n 2, 1) := by decide +kernel
theorem dX4_liftFingersFrom_16 : decode cX4_liftFingersFrom 16 = .ok (.aaload, 1) := by decide +kernel
theorem dX4_liftFingersFrom_17 : decode cX4_liftFingersFrom 17 = .ok (.aload_n 1, 1) := by decide +kernel
theorem dX4_liftFingersFrom_18 : decode cX4_liftFingersFrom 18 = .ok (.if_acmp .ne 10, 3) := by decide +kernel
theorem dX4_liftFingersFrom_21 : decode cX4_liftFingersFrom 21 = .ok (.aload_n 0, 1) := by decide +kernel
theorem dX4_liftFingersFrom_22 : decode cX4_liftFingersFrom 22 = .ok (.getfield 34, 3) := by decide +kernel
theorem dX4_liftFingersFrom_25 : decode cX4_liftFingersFrom 25 = .ok (.iload_n 2, 1) := by decide +kernel
theorem dX4_liftFingersFrom_26 : decode cX4_liftFingersFrom 26 = .ok (.aconst_null, 1) := by decide +kernel
theorem dX4_liftFingersFrom_27 : decode cX4_liftFingersFrom 27 = .ok (.aastore, 1) := by decide +kernel
theorem dX4_liftFingersFrom_28 : decode cX4_liftFingersFrom 28 = .ok (.iinc 2 1, 3) := by decide +kernel
theorem dX4_liftFingersFrom_31 : decode cX4_liftFingersFrom 31 = .ok (.goto (-29), 3) := by decide +kernel
theorem dX4_liftFingersFrom_34 : decode cX4_liftFingersFrom 34 = .ok (.return_, 1) := by decide +kernel
theorem dX4_takeRange_0 : decode cX4_takeRange 0 = .ok (.iload_n 1, 1) := by decide +kernel
theorem dX4_takeRange_1 : decode cX4_takeRange 1 = .ok (.iload_n 2, 1) := by decide +kernel
theorem dX4_takeRange_2 : decode cX4_takeRange 2 = .ok (.if_icmp .ge 35, 3) := by decide +kernel
theorem dX4_takeRange_5 : decode cX4_takeRange 5 = .ok (.aload_n 0, 1) := by decide +kernel
theorem dX4_takeRange_6 : decode cX4_takeRange 6 = .ok (.getfield 28, 3) := by decide +kernel
theorem dX4_takeRange_9 : decode cX4_takeRange 9 = .ok (.aload_n 0, 1) := by decide +kernel
theorem dX4_takeRange_10 : decode cX4_takeRange 10 = .ok (.getfield 10, 3) := by decide +kernel
theorem dX4_takeRange_13 : decode cX4_takeRange 13 = .ok (.iload_n 2, 1) := by decide +kernel
theorem dX4_takeRange_14 : decode cX4_takeRange 14 = .ok (.aload_n 0, 1) := by decide +kernel
theorem dX4_takeRange_15 : decode cX4_takeRange 15 = .ok (.getfield 22, 3) := by decide +kernel
theorem dX4_takeRange_18 : decode cX4_takeRange 18 = .ok (.invokevirtual 69, 3) := by decide +kernel
theorem dX4_takeRange_21 : decode cX4_takeRange 21 = .ok (.aload_n 0, 1) := by decide +kernel
theorem dX4_takeRange_22 : decode cX4_takeRange 22 = .ok (.getfield 28, 3) := by decide +kernel
theorem dX4_takeRange_25 : decode cX4_takeRange 25 = .ok (.aload_n 0, 1) := by decide +kernel
theorem dX4_takeRange_26 : decode cX4_takeRange 26 = .ok (.getfield 10, 3) := by decide +kernel
theorem dX4_takeRange_29 : decode cX4_takeRange 29 = .ok (.iload_n 1, 1) := by decide +kernel
theorem dX4_takeRange_30 : decode cX4_takeRange 30 = .ok (.aload_n 0, 1) := by decide +kernel
theorem dX4_takeRange_31 : decode cX4_takeRange 31 = .ok (.getfield 19, 3) := by decide +kernel
theorem dX4_takeRange_34 : decode cX4_takeRange 34 = .ok (.invokevirtual 69, 3) := by decide +kernel
theorem dX4_takeRange_37 : decode cX4_takeRange 37 = .ok (.return_, 1) := by decide +kernel
theorem dX4_putRangeBack_0 : decode cX4_putRangeBack 0 = .ok (.aload_n 0, 1) := by decide +kernel
theorem dX4_putRangeBack_1 : decode cX4_putRangeBack 1 = .ok (.getfield 28, 3) := by decide +kernel
theorem dX4_putRangeBack_4 : decode cX4_putRangeBack 4 = .ok (.aload_n 0, 1) := by decide +kernel
theorem dX4_putRangeBack_5 : decode cX4_putRangeBack 5 = .ok (.getfield 10, 3) := by decide +kernel
theorem dX4_putRangeBack_8 : decode cX4_putRangeBack 8 = .ok (.aload_n 0, 1) := by decide +kernel
theorem dX4_putRangeBack_9 : decode cX4_putRangeBack 9 = .ok (.getfield 19, 3) := by decide +kernel
theorem dX4_putRangeBack_12 : decode cX4_putRangeBack 12 = .ok (.invokevirtual 108, 3) := by decide +kernel
theorem dX4_putRangeBack_15 : decode cX4_putRangeBack 15 = .ok (.aload_n 0, 1) := by decide +kernel
theorem dX4_putRangeBack_16 : decode cX4_putRangeBack 16 = .ok (.getfield 28, 3) := by decide +kernel
theorem dX4_putRangeBack_19 : decode cX4_putRangeBack 19 = .ok (.aload_n 0, 1) := by decide +kernel
theorem dX4_putRangeBack_20 : decode cX4_putRangeBack 20 = .ok (.getfield 10, 3) := by decide +kernel
theorem dX4_putRangeBack_23 : decode cX4_putRangeBack 23 = .ok (.aload_n 0, 1) := by decide +kernel
theorem dX4_putRangeBack_24 : decode cX4_putRangeBack 24 = .ok (.getfield 22, 3) := by decide +kernel
theorem dX4_putRangeBack_27 : decode cX4_putRangeBack 27 = .ok (.invokevirtual 108, 3) := by decide +kernel
theorem dX4_putRangeBack_30 : decode cX4_putRangeBack 30 = .ok (.return_, 1) := by decide +kernel
theorem dJ9_max_7cf53_0 : decode cJ9_max_7cf53 0 = .ok (.iload_n 0, 1) := by decide +kernel
theorem dJ9_max_7cf53_1 : decode cJ9_max_7cf53 1 = .ok (.iload_n 1, 1) := by decide +kernel
theorem dJ9_max_7cf53_2 : decode cJ9_max_7cf53 2 = .ok (.if_icmp .lt 7, 3) := by decide +kernel
theorem dJ9_max_7cf53_5 : decode cJ9_max_7cf53 5 = .ok (.iload_n 0, 1) := by decide +kernel
theorem dJ9_max_7cf53_6 : decode cJ9_max_7cf53 6 = .ok (.goto 4, 3) := by decide +kernel
theorem dJ9_max_7cf53_9 : decode cJ9_max_7cf53 9 = .ok (.iload_n 1, 1) := by decide +kernel
theorem dJ9_max_7cf53_10 : decode cJ9_max_7cf53 10 = .ok (.ireturn, 1) := by decide +kernel
theorem dJ9_min_7cf53_0 : decode cJ9_min_7cf53 0 = .ok (.iload_n 0, 1) := by decide +kernel
theorem dJ9_min_7cf53_1 : decode cJ9_min_7cf53 1 = .ok (.iload_n 1, 1) := by decide +kernel
theorem dJ9_min_7cf53_2 : decode cJ9_min_7cf53 2 = .ok (.if_icmp .gt 7, 3) := by decide +kernel
theorem dJ9_min_7cf53_5 : decode cJ9_min_7cf53 5 = .ok (.iload_n 0, 1) := by decide +kernel
theorem dJ9_min_7cf53_6 : decode cJ9_min_7cf53 6 = .ok (.goto 4, 3) := by decide +kernel
theorem dJ9_min_7cf53_9 : decode cJ9_min_7cf53 9 = .ok (.iload_n 1, 1) := by decide +kernel
theorem dJ9_min_7cf53_10 : decode cJ9_min_7cf53 10 = .ok (.ireturn, 1) := by decide +kernel
