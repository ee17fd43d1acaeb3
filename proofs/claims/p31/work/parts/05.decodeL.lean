theorem dL_cell_0 : decode cL_cell 0 = .ok (.iload_n 1, 1) := by decide +kernel
theorem dL_cell_1 : decode cL_cell 1 = .ok (.aload_n 0, 1) := by decide +kernel
theorem dL_cell_2 : decode cL_cell 2 = .ok (.arraylength, 1) := by decide +kernel
theorem dL_cell_3 : decode cL_cell 3 = .ok (.if_icmp .ge 9, 3) := by decide +kernel
theorem dL_cell_6 : decode cL_cell 6 = .ok (.aload_n 0, 1) := by decide +kernel
theorem dL_cell_7 : decode cL_cell 7 = .ok (.iload_n 1, 1) := by decide +kernel
theorem dL_cell_8 : decode cL_cell 8 = .ok (.iaload, 1) := by decide +kernel
theorem dL_cell_9 : decode cL_cell 9 = .ok (.goto 17, 3) := by decide +kernel
theorem dL_cell_12 : decode cL_cell 12 = .ok (.sipush 7919, 3) := by decide +kernel
theorem dL_cell_15 : decode cL_cell 15 = .ok (.iload_n 1, 1) := by decide +kernel
theorem dL_cell_16 : decode cL_cell 16 = .ok (.bipush 31, 2) := by decide +kernel
theorem dL_cell_18 : decode cL_cell 18 = .ok (.iadd, 1) := by decide +kernel
theorem dL_cell_19 : decode cL_cell 19 = .ok (.imul, 1) := by decide +kernel
theorem dL_cell_20 : decode cL_cell 20 = .ok (.iload_n 1, 1) := by decide +kernel
theorem dL_cell_21 : decode cL_cell 21 = .ok (.sipush 1999, 3) := by decide +kernel
theorem dL_cell_24 : decode cL_cell 24 = .ok (.iadd, 1) := by decide +kernel
theorem dL_cell_25 : decode cL_cell 25 = .ok (.imul, 1) := by decide +kernel
theorem dL_cell_26 : decode cL_cell 26 = .ok (.ireturn, 1) := by decide +kernel
theorem dL_low_0 : decode cL_low 0 = .ok (.iload_n 0, 1) := by decide +kernel
theorem dL_low_1 : decode cL_low 1 = .ok (.ldc 7, 2) := by decide +kernel
theorem dL_low_3 : decode cL_low 3 = .ok (.iand, 1) := by decide +kernel
theorem dL_low_4 : decode cL_low 4 = .ok (.iload_n 1, 1) := by decide +kernel
theorem dL_low_5 : decode cL_low 5 = .ok (.irem, 1) := by decide +kernel
theorem dL_low_6 : decode cL_low 6 = .ok (.ireturn, 1) := by decide +kernel
theorem dL_insert_0 : decode cL_insert 0 = .ok (.aload_n 0, 1) := by decide +kernel
theorem dL_insert_1 : decode cL_insert 1 = .ok (.iload_n 1, 1) := by decide +kernel
theorem dL_insert_2 : decode cL_insert 2 = .ok (.iload_n 2, 1) := by decide +kernel
theorem dL_insert_3 : decode cL_insert 3 = .ok (.invokevirtual 8, 3) := by decide +kernel
theorem dL_insert_6 : decode cL_insert 6 = .ok (.ireturn, 1) := by decide +kernel
theorem dL_insert_7 : decode cL_insert 7 = .ok (.astore_n 3, 1) := by decide +kernel
theorem dL_insert_8 : decode cL_insert 8 = .ok (.ldc 16, 2) := by decide +kernel
theorem dL_insert_10 : decode cL_insert 10 = .ok (.ireturn, 1) := by decide +kernel
theorem dL_insert_11 : decode cL_insert 11 = .ok (.astore_n 3, 1) := by decide +kernel
theorem dL_insert_12 : decode cL_insert 12 = .ok (.ldc 16, 2) := by decide +kernel
theorem dL_insert_14 : decode cL_insert 14 = .ok (.ireturn, 1) := by decide +kernel
theorem dL_insert_15 : decode cL_insert 15 = .ok (.astore_n 3, 1) := by decide +kernel
theorem dL_insert_16 : decode cL_insert 16 = .ok (.ldc 16, 2) := by decide +kernel
theorem dL_insert_18 : decode cL_insert 18 = .ok (.ireturn, 1) := by decide +kernel
theorem dL_remove_0 : decode cL_remove 0 = .ok (.aload_n 0, 1) := by decide +kernel
theorem dL_remove_1 : decode cL_remove 1 = .ok (.iload_n 1, 1) := by decide +kernel
theorem dL_remove_2 : decode cL_remove 2 = .ok (.invokevirtual 21, 3) := by decide +kernel
theorem dL_remove_5 : decode cL_remove 5 = .ok (.ireturn, 1) := by decide +kernel
theorem dL_remove_6 : decode cL_remove 6 = .ok (.astore_n 2, 1) := by decide +kernel
theorem dL_remove_7 : decode cL_remove 7 = .ok (.ldc 16, 2) := by decide +kernel
theorem dL_remove_9 : decode cL_remove 9 = .ok (.ireturn, 1) := by decide +kernel
theorem dL_get_0 : decode cL_get 0 = .ok (.aload_n 0, 1) := by decide +kernel
theorem dL_get_1 : decode cL_get 1 = .ok (.iload_n 1, 1) := by decide +kernel
theorem dL_get_2 : decode cL_get 2 = .ok (.invokevirtual 25, 3) := by decide +kernel
theorem dL_get_5 : decode cL_get 5 = .ok (.ireturn, 1) := by decide +kernel
theorem dL_get_6 : decode cL_get 6 = .ok (.astore_n 2, 1) := by decide +kernel
theorem dL_get_7 : decode cL_get 7 = .ok (.ldc 16, 2) := by decide +kernel
theorem dL_get_9 : decode cL_get 9 = .ok (.ireturn, 1) := by decide +kernel
theorem dL_set_0 : decode cL_set 0 = .ok (.aload_n 0, 1) := by decide +kernel
theorem dL_set_1 : decode cL_set 1 = .ok (.iload_n 1, 1) := by decide +kernel
theorem dL_set_2 : decode cL_set 2 = .ok (.iload_n 2, 1) := by decide +kernel
theorem dL_set_3 : decode cL_set 3 = .ok (.invokevirtual 28, 3) := by decide +kernel
theorem dL_set_6 : decode cL_set 6 = .ok (.ireturn, 1) := by decide +kernel
theorem dL_set_7 : decode cL_set 7 = .ok (.astore_n 3, 1) := by decide +kernel
theorem dL_set_8 : decode cL_set 8 = .ok (.ldc 16, 2) := by decide +kernel
theorem dL_set_10 : decode cL_set 10 = .ok (.ireturn, 1) := by decide +kernel
theorem dL_set_11 : decode cL_set 11 = .ok (.astore_n 3, 1) := by decide +kernel
theorem dL_set_12 : decode cL_set 12 = .ok (.ldc 16, 2) := by decide +kernel
theorem dL_set_14 : decode cL_set 14 = .ok (.ireturn, 1) := by decide +kernel
theorem dL_reverse_0 : decode cL_reverse 0 = .ok (.aload_n 0, 1) := by decide +kernel
theorem dL_reverse_1 : decode cL_reverse 1 = .ok (.iload_n 1, 1) := by decide +kernel
theorem dL_reverse_2 : decode cL_reverse 2 = .ok (.iload_n 2, 1) := by decide +kernel
theorem dL_reverse_3 : decode cL_reverse 3 = .ok (.invokevirtual 31, 3) := by decide +kernel
theorem dL_reverse_6 : decode cL_reverse 6 = .ok (.ireturn, 1) := by decide +kernel
theorem dL_reverse_7 : decode cL_reverse 7 = .ok (.astore_n 3, 1) := by decide +kernel
theorem dL_reverse_8 : decode cL_reverse 8 = .ok (.ldc 16, 2) := by decide +kernel
theorem dL_reverse_10 : decode cL_reverse 10 = .ok (.ireturn, 1) := by decide +kernel
theorem dL_raise_0 : decode cL_raise 0 = .ok (.aload_n 0, 1) := by decide +kernel
theorem dL_raise_1 : decode cL_raise 1 = .ok (.iload_n 1, 1) := by decide +kernel
theorem dL_raise_2 : decode cL_raise 2 = .ok (.iload_n 2, 1) := by decide +kernel
theorem dL_raise_3 : decode cL_raise 3 = .ok (.iload_n 3, 1) := by decide +kernel
theorem dL_raise_4 : decode cL_raise 4 = .ok (.invokevirtual 34, 3) := by decide +kernel
theorem dL_raise_7 : decode cL_raise 7 = .ok (.ireturn, 1) := by decide +kernel
theorem dL_raise_8 : decode cL_raise 8 = .ok (.astore 4, 2) := by decide +kernel
theorem dL_raise_10 : decode cL_raise 10 = .ok (.ldc 16, 2) := by decide +kernel
theorem dL_raise_12 : decode cL_raise 12 = .ok (.ireturn, 1) := by decide +kernel
theorem dL_raise_13 : decode cL_raise 13 = .ok (.astore 4, 2) := by decide +kernel
theorem dL_raise_15 : decode cL_raise 15 = .ok (.ldc 16, 2) := by decide +kernel
theorem dL_raise_17 : decode cL_raise 17 = .ok (.ireturn, 1) := by decide +kernel
theorem dL_sum_0 : decode cL_sum 0 = .ok (.aload_n 0, 1) := by decide +kernel
theorem dL_sum_1 : decode cL_sum 1 = .ok (.iload_n 1, 1) := by decide +kernel
theorem dL_sum_2 : decode cL_sum 2 = .ok (.iload_n 2, 1) := by decide +kernel
theorem dL_sum_3 : decode cL_sum 3 = .ok (.invokevirtual 38, 3) := by decide +kernel
theorem dL_sum_6 : decode cL_sum 6 = .ok (.ireturn, 1) := by decide +kernel
theorem dL_sum_7 : decode cL_sum 7 = .ok (.astore_n 3, 1) := by decide +kernel
theorem dL_sum_8 : decode cL_sum 8 = .ok (.ldc 16, 2) := by decide +kernel
theorem dL_sum_10 : decode cL_sum 10 = .ok (.ireturn, 1) := by decide +kernel
theorem dL_least_0 : decode cL_least 0 = .ok (.aload_n 0, 1) := by decide +kernel
theorem dL_least_1 : decode cL_least 1 = .ok (.iload_n 1, 1) := by decide +kernel
theorem dL_least_2 : decode cL_least 2 = .ok (.iload_n 2, 1) := by decide +kernel
theorem dL_least_3 : decode cL_least 3 = .ok (.invokevirtual 41, 3) := by decide +kernel
theorem dL_least_6 : decode cL_least 6 = .ok (.ireturn, 1) := by decide +kernel
theorem dL_least_7 : decode cL_least 7 = .ok (.astore_n 3, 1) := by decide +kernel
theorem dL_least_8 : decode cL_least 8 = .ok (.ldc 16, 2) := by decide +kernel
theorem dL_least_10 : decode cL_least 10 = .ok (.ireturn, 1) := by decide +kernel
theorem dL_least_11 : decode cL_least 11 = .ok (.astore_n 3, 1) := by decide +kernel
theorem dL_least_12 : decode cL_least 12 = .ok (.ldc 16, 2) := by decide +kernel
theorem dL_least_14 : decode cL_least 14 = .ok (.ireturn, 1) := by decide +kernel
theorem dL_cut_0 : decode cL_cut 0 = .ok (.aload_n 0, 1) := by decide +kernel
theorem dL_cut_1 : decode cL_cut 1 = .ok (.iload_n 1, 1) := by decide +kernel
theorem dL_cut_2 : decode cL_cut 2 = .ok (.iload_n 2, 1) := by decide +kernel
theorem dL_cut_3 : decode cL_cut 3 = .ok (.invokevirtual 44, 3) := by decide +kernel
theorem dL_cut_6 : decode cL_cut 6 = .ok (.ireturn, 1) := by decide +kernel
theorem dL_cut_7 : decode cL_cut 7 = .ok (.astore_n 3, 1) := by decide +kernel
theorem dL_cut_8 : decode cL_cut 8 = .ok (.ldc 16, 2) := by decide +kernel
theorem dL_cut_10 : decode cL_cut 10 = .ok (.ireturn, 1) := by decide +kernel
theorem dL_cut_11 : decode cL_cut 11 = .ok (.astore_n 3, 1) := by decide +kernel
theorem dL_cut_12 : decode cL_cut 12 = .ok (.ldc 16, 2) := by decide +kernel
theorem dL_cut_14 : decode cL_cut 14 = .ok (.ireturn, 1) := by decide +kernel
theorem dL_paste_0 : decode cL_paste 0 = .ok (.aload_n 0, 1) := by decide +kernel
theorem dL_paste_1 : decode cL_paste 1 = .ok (.iload_n 1, 1) := by decide +kernel
theorem dL_paste_2 : decode cL_paste 2 = .ok (.invokevirtual 47, 3) := by decide +kernel
theorem dL_paste_5 : decode cL_paste 5 = .ok (.ireturn, 1) := by decide +kernel
theorem dL_paste_6 : decode cL_paste 6 = .ok (.astore_n 2, 1) := by decide +kernel
theorem dL_paste_7 : decode cL_paste 7 = .ok (.ldc 16, 2) := by decide +kernel
theorem dL_paste_9 : decode cL_paste 9 = .ok (.ireturn, 1) := by decide +kernel
theorem dL_point_0 : decode cL_point 0 = .ok (.aload_n 0, 1) := by decide +kernel
theorem dL_point_1 : decode cL_point 1 = .ok (.iload_n 1, 1) := by decide +kernel
theorem dL_point_2 : decode cL_point 2 = .ok (.iload_n 2, 1) := by decide +kernel
theorem dL_point_3 : decode cL_point 3 = .ok (.invokevirtual 50, 3) := by decide +kernel
theorem dL_point_6 : decode cL_point 6 = .ok (.ireturn, 1) := by decide +kernel
theorem dL_point_7 : decode cL_point 7 = .ok (.astore_n 3, 1) := by decide +kernel
theorem dL_point_8 : decode cL_point 8 = .ok (.ldc 16, 2) := by decide +kernel
theorem dL_point_10 : decode cL_point 10 = .ok (.ireturn, 1) := by decide +kernel
theorem dL_follow_0 : decode cL_follow 0 = .ok (.aload_n 0, 1) := by decide +kernel
theorem dL_follow_1 : decode cL_follow 1 = .ok (.iload_n 1, 1) := by decide +kernel
theorem dL_follow_2 : decode cL_follow 2 = .ok (.invokevirtual 53, 3) := by decide +kernel
theorem dL_follow_5 : decode cL_follow 5 = .ok (.ireturn, 1) := by decide +kernel
theorem dL_follow_6 : decode cL_follow 6 = .ok (.astore_n 2, 1) := by decide +kernel
theorem dL_follow_7 : decode cL_follow 7 = .ok (.ldc 16, 2) := by decide +kernel
theorem dL_follow_9 : decode cL_follow 9 = .ok (.ireturn, 1) := by decide +kernel
theorem dL_move_0 : decode cL_move 0 = .ok (.aload_n 0, 1) := by decide +kernel
theorem dL_move_1 : decode cL_move 1 = .ok (.iload_n 1, 1) := by decide +kernel
theorem dL_move_2 : decode cL_move 2 = .ok (.iload_n 2, 1) := by decide +kernel
theorem dL_move_3 : decode cL_move 3 = .ok (.invokevirtual 56, 3) := by decide +kernel
theorem dL_move_6 : decode cL_move 6 = .ok (.ireturn, 1) := by decide +kernel
theorem dL_move_7 : decode cL_move 7 = .ok (.astore_n 3, 1) := by decide +kernel
theorem dL_move_8 : decode cL_move 8 = .ok (.ldc 16, 2) := by decide +kernel
theorem dL_move_10 : decode cL_move 10 = .ok (.ireturn, 1) := by decide +kernel
theorem dL_move_11 : decode cL_move 11 = .ok (.astore_n 3, 1) := by decide +kernel
theorem dL_move_12 : decode cL_move 12 = .ok (.ldc 16, 2) := by decide +kernel
theorem dL_move_14 : decode cL_move 14 = .ok (.ireturn, 1) := by decide +kernel
theorem dL_range_0 : decode cL_range 0 = .ok (.iload_n 1, 1) := by decide +kernel
theorem dL_range_1 : decode cL_range 1 = .ok (.tableswitch 61 0 3 #[31, 38, 47, 54], 31) := by decide +kernel
theorem dL_range_32 : decode cL_range 32 = .ok (.aload_n 0, 1) := by decide +kernel
theorem dL_range_33 : decode cL_range 33 = .ok (.iload_n 2, 1) := by decide +kernel
theorem dL_range_34 : decode cL_range 34 = .ok (.iload_n 3, 1) := by decide +kernel
theorem dL_range_35 : decode cL_range 35 = .ok (.invokestatic 59, 3) := by decide +kernel
theorem dL_range_38 : decode cL_range 38 = .ok (.ireturn, 1) := by decide +kernel
theorem dL_range_39 : decode cL_range 39 = .ok (.aload_n 0, 1) := by decide +kernel
theorem dL_range_40 : decode cL_range 40 = .ok (.iload_n 2, 1) := by decide +kernel
theorem dL_range_41 : decode cL_range 41 = .ok (.iload_n 3, 1) := by decide +kernel
theorem dL_range_42 : decode cL_range 42 = .ok (.iload 4, 2) := by decide +kernel
theorem dL_range_44 : decode cL_range 44 = .ok (.invokestatic 64, 3) := by decide +kernel
theorem dL_range_47 : decode cL_range 47 = .ok (.ireturn, 1) := by decide +kernel
theorem dL_range_48 : decode cL_range 48 = .ok (.aload_n 0, 1) := by decide +kernel
theorem dL_range_49 : decode cL_range 49 = .ok (.iload_n 2, 1) := by decide +kernel
theorem dL_range_50 : decode cL_range 50 = .ok (.iload_n 3, 1) := by decide +kernel
theorem dL_range_51 : decode cL_range 51 = .ok (.invokestatic 67, 3) := by decide +kernel
theorem dL_range_54 : decode cL_range 54 = .ok (.ireturn, 1) := by decide +kernel
theorem dL_range_55 : decode cL_range 55 = .ok (.aload_n 0, 1) := by decide +kernel
theorem dL_range_56 : decode cL_range 56 = .ok (.iload_n 2, 1) := by decide +kernel
theorem dL_range_57 : decode cL_range 57 = .ok (.iload_n 3, 1) := by decide +kernel
theorem dL_range_58 : decode cL_range 58 = .ok (.invokestatic 69, 3) := by decide +kernel
theorem dL_range_61 : decode cL_range 61 = .ok (.ireturn, 1) := by decide +kernel
theorem dL_range_62 : decode cL_range 62 = .ok (.aload_n 0, 1) := by decide +kernel
theorem dL_range_63 : decode cL_range 63 = .ok (.iload_n 2, 1) := by decide +kernel
theorem dL_range_64 : decode cL_range 64 = .ok (.iload_n 3, 1) := by decide +kernel
theorem dL_range_65 : decode cL_range 65 = .ok (.invokestatic 71, 3) := by decide +kernel
theorem dL_range_68 : decode cL_range 68 = .ok (.ireturn, 1) := by decide +kernel
theorem dL_act_0 : decode cL_act 0 = .ok (.iload_n 1, 1) := by decide +kernel
theorem dL_act_1 : decode cL_act 1 = .ok (.bipush 23, 2) := by decide +kernel
theorem dL_act_3 : decode cL_act 3 = .ok (.ishr, 1) := by decide +kernel
theorem dL_act_4 : decode cL_act 4 = .ok (.bipush 8, 2) := by decide +kernel
theorem dL_act_6 : decode cL_act 6 = .ok (.invokestatic 73, 3) := by decide +kernel
theorem dL_act_9 : decode cL_act 9 = .ok (.ifCond .ne 7, 3) := by decide +kernel
theorem dL_act_12 : decode cL_act 12 = .ok (.iconst 1, 1) := by decide +kernel
theorem dL_act_13 : decode cL_act 13 = .ok (.goto 4, 3) := by decide +kernel
theorem dL_act_16 : decode cL_act 16 = .ok (.iconst 0, 1) := by decide +kernel
theorem dL_act_17 : decode cL_act 17 = .ok (.istore_n 2, 1) := by decide +kernel
theorem dL_act_18 : decode cL_act 18 = .ok (.aload_n 0, 1) := by decide +kernel
theorem dL_act_19 : decode cL_act 19 = .ok (.invokevirtual 76, 3) := by decide +kernel
theorem dL_act_22 : decode cL_act 22 = .ok (.iload_n 2, 1) := by decide +kernel
theorem dL_act_23 : decode cL_act 23 = .ok (.ifCond .eq 7, 3) := by decide +kernel
theorem dL_act_26 : decode cL_act 26 = .ok (.iconst 2, 1) := by decide +kernel
theorem dL_act_27 : decode cL_act 27 = .ok (.goto 4, 3) := by decide +kernel
theorem dL_act_30 : decode cL_act 30 = .ok (.iconst 0, 1) := by decide +kernel
theorem dL_act_31 : decode cL_act 31 = .ok (.iadd, 1) := by decide +kernel
theorem dL_act_32 : decode cL_act 32 = .ok (.istore_n 3, 1) := by decide +kernel
theorem dL_act_33 : decode cL_act 33 = .ok (.iload_n 3, 1) := by decide +kernel
theorem dL_act_34 : decode cL_act 34 = .ok (.ifCond .ne 7, 3) := by decide +kernel
theorem dL_act_37 : decode cL_act 37 = .ok (.iconst 0, 1) := by decide +kernel
theorem dL_act_38 : decode cL_act 38 = .ok (.goto 20, 3) := by decide +kernel
theorem dL_act_41 : decode cL_act 41 = .ok (.iload_n 1, 1) := by decide +kernel
theorem dL_act_42 : decode cL_act 42 = .ok (.iconst 5, 1) := by decide +kernel
theorem dL_act_43 : decode cL_act 43 = .ok (.ishr, 1) := by decide +kernel
theorem dL_act_44 : decode cL_act 44 = .ok (.iload_n 3, 1) := by decide +kernel
theorem dL_act_45 : decode cL_act 45 = .ok (.invokestatic 73, 3) := by decide +kernel
theorem dL_act_48 : decode cL_act 48 = .ok (.iload_n 2, 1) := by decide +kernel
theorem dL_act_49 : decode cL_act 49 = .ok (.ifCond .eq 7, 3) := by decide +kernel
theorem dL_act_52 : decode cL_act 52 = .ok (.iconst 1, 1) := by decide +kernel
theorem dL_act_53 : decode cL_act 53 = .ok (.goto 4, 3) := by decide +kernel
theorem dL_act_56 : decode cL_act 56 = .ok (.iconst 0, 1) := by decide +kernel
theorem dL_act_57 : decode cL_act 57 = .ok (.isub, 1) := by decide +kernel
theorem dL_act_58 : decode cL_act 58 = .ok (.istore 4, 2) := by decide +kernel
theorem dL_act_60 : decode cL_act 60 = .ok (.iload_n 1, 1) := by decide +kernel
theorem dL_act_61 : decode cL_act 61 = .ok (.bipush 8, 2) := by decide +kernel
theorem dL_act_63 : decode cL_act 63 = .ok (.ishr, 1) := by decide +kernel
theorem dL_act_64 : decode cL_act 64 = .ok (.iload_n 2, 1) := by decide +kernel
theorem dL_act_65 : decode cL_act 65 = .ok (.ifCond .eq 9, 3) := by decide +kernel
theorem dL_act_68 : decode cL_act 68 = .ok (.sipush 2100, 3) := by decide +kernel
theorem dL_act_71 : decode cL_act 71 = .ok (.goto 6, 3) := by decide +kernel
theorem dL_act_74 : decode cL_act 74 = .ok (.sipush 2001, 3) := by decide +kernel
theorem dL_act_77 : decode cL_act 77 = .ok (.invokestatic 73, 3) := by decide +kernel
theorem dL_act_80 : decode cL_act 80 = .ok (.sipush 1000, 3) := by decide +kernel
theorem dL_act_83 : decode cL_act 83 = .ok (.isub, 1) := by decide +kernel
theorem dL_act_84 : decode cL_act 84 = .ok (.istore 5, 2) := by decide +kernel
theorem dL_act_86 : decode cL_act 86 = .ok (.iload 4, 2) := by decide +kernel
theorem dL_act_88 : decode cL_act 88 = .ok (.iload_n 1, 1) := by decide +kernel
theorem dL_act_89 : decode cL_act 89 = .ok (.bipush 11, 2) := by decide +kernel
theorem dL_act_91 : decode cL_act 91 = .ok (.ishr, 1) := by decide +kernel
theorem dL_act_92 : decode cL_act 92 = .ok (.iload_n 3, 1) := by decide +kernel
theorem dL_act_93 : decode cL_act 93 = .ok (.iload 4, 2) := by decide +kernel
theorem dL_act_95 : decode cL_act 95 = .ok (.isub, 1) := by decide +kernel
theorem dL_act_96 : decode cL_act 96 = .ok (.iconst 1, 1) := by decide +kernel
theorem dL_act_97 : decode cL_act 97 = .ok (.iadd, 1) := by decide +kernel
theorem dL_act_98 : decode cL_act 98 = .ok (.iconst 1, 1) := by decide +kernel
theorem dL_act_99 : decode cL_act 99 = .ok (.if_icmp .ge 7, 3) := by decide +kernel
theorem dL_act_102 : decode cL_act 102 = .ok (.iconst 1, 1) := by decide +kernel
theorem dL_act_103 : decode cL_act 103 = .ok (.goto 9, 3) := by decide +kernel
theorem dL_act_106 : decode cL_act 106 = .ok (.iload_n 3, 1) := by decide +kernel
theorem dL_act_107 : decode cL_act 107 = .ok (.iload 4, 2) := by decide +kernel
theorem dL_act_109 : decode cL_act 109 = .ok (.isub, 1) := by decide +kernel
theorem dL_act_110 : decode cL_act 110 = .ok (.iconst 1, 1) := by decide +kernel
theorem dL_act_111 : decode cL_act 111 = .ok (.iadd, 1) := by decide +kernel
theorem dL_act_112 : decode cL_act 112 = .ok (.invokestatic 73, 3) := by decide +kernel
theorem dL_act_115 : decode cL_act 115 = .ok (.iadd, 1) := by decide +kernel
theorem dL_act_116 : decode cL_act 116 = .ok (.istore 6, 2) := by decide +kernel
theorem dL_act_118 : decode cL_act 118 = .ok (.iload_n 1, 1) := by decide +kernel
theorem dL_act_119 : decode cL_act 119 = .ok (.bipush 14, 2) := by decide +kernel
theorem dL_act_121 : decode cL_act 121 = .ok (.ishr, 1) := by decide +kernel
theorem dL_act_122 : decode cL_act 122 = .ok (.iload_n 2, 1) := by decide +kernel
theorem dL_act_123 : decode cL_act 123 = .ok (.ifCond .eq 7, 3) := by decide +kernel
theorem dL_act_126 : decode cL_act 126 = .ok (.iconst 5, 1) := by decide +kernel
theorem dL_act_127 : decode cL_act 127 = .ok (.goto 4, 3) := by decide +kernel
theorem dL_act_130 : decode cL_act 130 = .ok (.iconst 4, 1) := by decide +kernel
theorem dL_act_131 : decode cL_act 131 = .ok (.invokestatic 73, 3) := by decide +kernel
theorem dL_act_134 : decode cL_act 134 = .ok (.istore 7, 2) := by decide +kernel
theorem dL_act_136 : decode cL_act 136 = .ok (.iload_n 1, 1) := by decide +kernel
theorem dL_act_137 : decode cL_act 137 = .ok (.bipush 16, 2) := by decide +kernel
theorem dL_act_139 : decode cL_act 139 = .ok (.invokestatic 73, 3) := by decide +kernel
theorem dL_act_142 : decode cL_act 142 = .ok (.tableswitch 141 0 10 #[58, 65, 72, 81, 81, 81, 81, 100, 107, 116, 123], 58) := by decide +kernel
theorem dL_act_200 : decode cL_act 200 = .ok (.aload_n 0, 1) := by decide +kernel
theorem dL_act_201 : decode cL_act 201 = .ok (.iload 4, 2) := by decide +kernel
theorem dL_act_203 : decode cL_act 203 = .ok (.invokestatic 80, 3) := by decide +kernel
theorem dL_act_206 : decode cL_act 206 = .ok (.ireturn, 1) := by decide +kernel
theorem dL_act_207 : decode cL_act 207 = .ok (.aload_n 0, 1) := by decide +kernel
theorem dL_act_208 : decode cL_act 208 = .ok (.iload 4, 2) := by decide +kernel
theorem dL_act_210 : decode cL_act 210 = .ok (.invokestatic 83, 3) := by decide +kernel
theorem dL_act_213 : decode cL_act 213 = .ok (.ireturn, 1) := by decide +kernel
theorem dL_act_214 : decode cL_act 214 = .ok (.aload_n 0, 1) := by decide +kernel
theorem dL_act_215 : decode cL_act 215 = .ok (.iload 4, 2) := by decide +kernel
theorem dL_act_217 : decode cL_act 217 = .ok (.iload 5, 2) := by decide +kernel
theorem dL_act_219 : decode cL_act 219 = .ok (.invokestatic 85, 3) := by decide +kernel
theorem dL_act_222 : decode cL_act 222 = .ok (.ireturn, 1) := by decide +kernel
theorem dL_act_223 : decode cL_act 223 = .ok (.aload_n 0, 1) := by decide +kernel
theorem dL_act_224 : decode cL_act 224 = .ok (.iload_n 1, 1) := by decide +kernel
theorem dL_act_225 : decode cL_act 225 = .ok (.bipush 17, 2) := by decide +kernel
theorem dL_act_227 : decode cL_act 227 = .ok (.ishr, 1) := by decide +kernel
theorem dL_act_228 : decode cL_act 228 = .ok (.iconst 5, 1) := by decide +kernel
theorem dL_act_229 : decode cL_act 229 = .ok (.invokestatic 73, 3) := by decide +kernel
theorem dL_act_232 : decode cL_act 232 = .ok (.iload 4, 2) := by decide +kernel
theorem dL_act_234 : decode cL_act 234 = .ok (.iload 6, 2) := by decide +kernel
theorem dL_act_236 : decode cL_act 236 = .ok (.iload 5, 2) := by decide +kernel
theorem dL_act_238 : decode cL_act 238 = .ok (.invokestatic 87, 3) := by decide +kernel
theorem dL_act_241 : decode cL_act 241 = .ok (.ireturn, 1) := by decide +kernel
theorem dL_act_242 : decode cL_act 242 = .ok (.aload_n 0, 1) := by decide +kernel
theorem dL_act_243 : decode cL_act 243 = .ok (.iload 4, 2) := by decide +kernel
theorem dL_act_245 : decode cL_act 245 = .ok (.invokestatic 91, 3) := by decide +kernel
theorem dL_act_248 : decode cL_act 248 = .ok (.ireturn, 1) := by decide +kernel
theorem dL_act_249 : decode cL_act 249 = .ok (.aload_n 0, 1) := by decide +kernel
theorem dL_act_250 : decode cL_act 250 = .ok (.iload 7, 2) := by decide +kernel
theorem dL_act_252 : decode cL_act 252 = .ok (.iload 4, 2) := by decide +kernel
theorem dL_act_254 : decode cL_act 254 = .ok (.invokestatic 93, 3) := by decide +kernel
theorem dL_act_257 : decode cL_act 257 = .ok (.ireturn, 1) := by decide +kernel
theorem dL_act_258 : decode cL_act 258 = .ok (.aload_n 0, 1) := by decide +kernel
theorem dL_act_259 : decode cL_act 259 = .ok (.iload 7, 2) := by decide +kernel
theorem dL_act_261 : decode cL_act 261 = .ok (.invokestatic 95, 3) := by decide +kernel
theorem dL_act_264 : decode cL_act 264 = .ok (.ireturn, 1) := by decide +kernel
theorem dL_act_265 : decode cL_act 265 = .ok (.aload_n 0, 1) := by decide +kernel
theorem dL_act_266 : decode cL_act 266 = .ok (.iload 7, 2) := by decide +kernel
theorem dL_act_268 : decode cL_act 268 = .ok (.iload_n 1, 1) := by decide +kernel
theorem dL_act_269 : decode cL_act 269 = .ok (.bipush 17, 2) := by decide +kernel
theorem dL_act_271 : decode cL_act 271 = .ok (.ishr, 1) := by decide +kernel
theorem dL_act_272 : decode cL_act 272 = .ok (.bipush 9, 2) := by decide +kernel
theorem dL_act_274 : decode cL_act 274 = .ok (.invokestatic 73, 3) := by decide +kernel
theorem dL_act_277 : decode cL_act 277 = .ok (.iconst 4, 1) := by decide +kernel
theorem dL_act_278 : decode cL_act 278 = .ok (.isub, 1) := by decide +kernel
theorem dL_act_279 : decode cL_act 279 = .ok (.invokestatic 97, 3) := by decide +kernel
theorem dL_act_282 : decode cL_act 282 = .ok (.ireturn, 1) := by decide +kernel
theorem dL_act_283 : decode cL_act 283 = .ok (.aload_n 0, 1) := by decide +kernel
theorem dL_act_284 : decode cL_act 284 = .ok (.iload 4, 2) := by decide +kernel
theorem dL_act_286 : decode cL_act 286 = .ok (.iload 5, 2) := by decide +kernel
theorem dL_act_288 : decode cL_act 288 = .ok (.invokestatic 99, 3) := by decide +kernel
theorem dL_act_291 : decode cL_act 291 = .ok (.ireturn, 1) := by decide +kernel
theorem dL_isNodeSo_0 : decode cL_isNodeSo 0 = .ok (.aload_n 0, 1) := by decide +kernel
theorem dL_isNodeSo_1 : decode cL_isNodeSo 1 = .ok (.iload_n 1, 1) := by decide +kernel
theorem dL_isNodeSo_2 : decode cL_isNodeSo 2 = .ok (.iconst 0, 1) := by decide +kernel
theorem dL_isNodeSo_3 : decode cL_isNodeSo 3 = .ok (.invokevirtual 101, 3) := by decide +kernel
theorem dL_isNodeSo_6 : decode cL_isNodeSo 6 = .ok (.istore_n 2, 1) := by decide +kernel
theorem dL_isNodeSo_7 : decode cL_isNodeSo 7 = .ok (.aload_n 0, 1) := by decide +kernel
theorem dL_isNodeSo_8 : decode cL_isNodeSo 8 = .ok (.iload_n 1, 1) := by decide +kernel
theorem dL_isNodeSo_9 : decode cL_isNodeSo 9 = .ok (.iconst 1, 1) := by decide +kernel
theorem dL_isNodeSo_10 : decode cL_isNodeSo 10 = .ok (.invokevirtual 101, 3) := by decide +kernel
theorem dL_isNodeSo_13 : decode cL_isNodeSo 13 = .ok (.istore_n 3, 1) := by decide +kernel
theorem dL_isNodeSo_14 : decode cL_isNodeSo 14 = .ok (.iconst 1, 1) := by decide +kernel
theorem dL_isNodeSo_15 : decode cL_isNodeSo 15 = .ok (.iload_n 2, 1) := by decide +kernel
theorem dL_isNodeSo_16 : decode cL_isNodeSo 16 = .ok (.ifCond .ge 7, 3) := by decide +kernel
theorem dL_isNodeSo_19 : decode cL_isNodeSo 19 = .ok (.iconst 0, 1) := by decide +kernel
theorem dL_isNodeSo_20 : decode cL_isNodeSo 20 = .ok (.goto 8, 3) := by decide +kernel
theorem dL_isNodeSo_23 : decode cL_isNodeSo 23 = .ok (.aload_n 0, 1) := by decide +kernel
theorem dL_isNodeSo_24 : decode cL_isNodeSo 24 = .ok (.iload_n 2, 1) := by decide +kernel
theorem dL_isNodeSo_25 : decode cL_isNodeSo 25 = .ok (.invokevirtual 105, 3) := by decide +kernel
theorem dL_isNodeSo_28 : decode cL_isNodeSo 28 = .ok (.iadd, 1) := by decide +kernel
theorem dL_isNodeSo_29 : decode cL_isNodeSo 29 = .ok (.iload_n 3, 1) := by decide +kernel
theorem dL_isNodeSo_30 : decode cL_isNodeSo 30 = .ok (.ifCond .ge 7, 3) := by decide +kernel
theorem dL_isNodeSo_33 : decode cL_isNodeSo 33 = .ok (.iconst 0, 1) := by decide +kernel
theorem dL_isNodeSo_34 : decode cL_isNodeSo 34 = .ok (.goto 8, 3) := by decide +kernel
theorem dL_isNodeSo_37 : decode cL_isNodeSo 37 = .ok (.aload_n 0, 1) := by decide +kernel
theorem dL_isNodeSo_38 : decode cL_isNodeSo 38 = .ok (.iload_n 3, 1) := by decide +kernel
theorem dL_isNodeSo_39 : decode cL_isNodeSo 39 = .ok (.invokevirtual 105, 3) := by decide +kernel
theorem dL_isNodeSo_42 : decode cL_isNodeSo 42 = .ok (.iadd, 1) := by decide +kernel
theorem dL_isNodeSo_43 : decode cL_isNodeSo 43 = .ok (.istore 4, 2) := by decide +kernel
theorem dL_isNodeSo_45 : decode cL_isNodeSo 45 = .ok (.aload_n 0, 1) := by decide +kernel
theorem dL_isNodeSo_46 : decode cL_isNodeSo 46 = .ok (.iload_n 1, 1) := by decide +kernel
theorem dL_isNodeSo_47 : decode cL_isNodeSo 47 = .ok (.invokevirtual 105, 3) := by decide +kernel
theorem dL_isNodeSo_50 : decode cL_isNodeSo 50 = .ok (.iload 4, 2) := by decide +kernel
theorem dL_isNodeSo_52 : decode cL_isNodeSo 52 = .ok (.if_icmp .ne 50, 3) := by decide +kernel
theorem dL_isNodeSo_55 : decode cL_isNodeSo 55 = .ok (.iload_n 2, 1) := by decide +kernel
theorem dL_isNodeSo_56 : decode cL_isNodeSo 56 = .ok (.iload_n 1, 1) := by decide +kernel
theorem dL_isNodeSo_57 : decode cL_isNodeSo 57 = .ok (.if_icmp .ge 45, 3) := by decide +kernel
theorem dL_isNodeSo_60 : decode cL_isNodeSo 60 = .ok (.iload_n 3, 1) := by decide +kernel
theorem dL_isNodeSo_61 : decode cL_isNodeSo 61 = .ok (.ifCond .lt 8, 3) := by decide +kernel
theorem dL_isNodeSo_64 : decode cL_isNodeSo 64 = .ok (.iload_n 3, 1) := by decide +kernel
theorem dL_isNodeSo_65 : decode cL_isNodeSo 65 = .ok (.iload_n 1, 1) := by decide +kernel
theorem dL_isNodeSo_66 : decode cL_isNodeSo 66 = .ok (.if_icmp .le 36, 3) := by decide +kernel
theorem dL_isNodeSo_69 : decode cL_isNodeSo 69 = .ok (.aload_n 0, 1) := by decide +kernel
theorem dL_isNodeSo_70 : decode cL_isNodeSo 70 = .ok (.iload_n 1, 1) := by decide +kernel
theorem dL_isNodeSo_71 : decode cL_isNodeSo 71 = .ok (.invokevirtual 108, 3) := by decide +kernel
theorem dL_isNodeSo_74 : decode cL_isNodeSo 74 = .ok (.ifCond .ne 7, 3) := by decide +kernel
theorem dL_isNodeSo_77 : decode cL_isNodeSo 77 = .ok (.iconst 1, 1) := by decide +kernel
theorem dL_isNodeSo_78 : decode cL_isNodeSo 78 = .ok (.goto 4, 3) := by decide +kernel
theorem dL_isNodeSo_81 : decode cL_isNodeSo 81 = .ok (.iconst 0, 1) := by decide +kernel
theorem dL_isNodeSo_82 : decode cL_isNodeSo 82 = .ok (.aload_n 0, 1) := by decide +kernel
theorem dL_isNodeSo_83 : decode cL_isNodeSo 83 = .ok (.invokevirtual 111, 3) := by decide +kernel
theorem dL_isNodeSo_86 : decode cL_isNodeSo 86 = .ok (.iload_n 1, 1) := by decide +kernel
theorem dL_isNodeSo_87 : decode cL_isNodeSo 87 = .ok (.if_icmp .ne 7, 3) := by decide +kernel
theorem dL_isNodeSo_90 : decode cL_isNodeSo 90 = .ok (.iconst 1, 1) := by decide +kernel
theorem dL_isNodeSo_91 : decode cL_isNodeSo 91 = .ok (.goto 4, 3) := by decide +kernel
theorem dL_isNodeSo_94 : decode cL_isNodeSo 94 = .ok (.iconst 0, 1) := by decide +kernel
theorem dL_isNodeSo_95 : decode cL_isNodeSo 95 = .ok (.if_icmp .ne 7, 3) := by decide +kernel
theorem dL_isNodeSo_98 : decode cL_isNodeSo 98 = .ok (.iconst 1, 1) := by decide +kernel
theorem dL_isNodeSo_99 : decode cL_isNodeSo 99 = .ok (.goto 4, 3) := by decide +kernel
theorem dL_isNodeSo_102 : decode cL_isNodeSo 102 = .ok (.iconst 0, 1) := by decide +kernel
theorem dL_isNodeSo_103 : decode cL_isNodeSo 103 = .ok (.istore 5, 2) := by decide +kernel
theorem dL_isNodeSo_105 : decode cL_isNodeSo 105 = .ok (.iload 5, 2) := by decide +kernel
theorem dL_isNodeSo_107 : decode cL_isNodeSo 107 = .ok (.ifCond .eq 45, 3) := by decide +kernel
theorem dL_isNodeSo_110 : decode cL_isNodeSo 110 = .ok (.iload_n 2, 1) := by decide +kernel
theorem dL_isNodeSo_111 : decode cL_isNodeSo 111 = .ok (.ifCond .lt 18, 3) := by decide +kernel
theorem dL_isNodeSo_114 : decode cL_isNodeSo 114 = .ok (.aload_n 0, 1) := by decide +kernel
theorem dL_isNodeSo_115 : decode cL_isNodeSo 115 = .ok (.iload_n 2, 1) := by decide +kernel
theorem dL_isNodeSo_116 : decode cL_isNodeSo 116 = .ok (.invokevirtual 108, 3) := by decide +kernel
theorem dL_isNodeSo_119 : decode cL_isNodeSo 119 = .ok (.aload_n 0, 1) := by decide +kernel
theorem dL_isNodeSo_120 : decode cL_isNodeSo 120 = .ok (.iload_n 1, 1) := by decide +kernel
theorem dL_isNodeSo_121 : decode cL_isNodeSo 121 = .ok (.invokevirtual 108, 3) := by decide +kernel
theorem dL_isNodeSo_124 : decode cL_isNodeSo 124 = .ok (.iconst 1, 1) := by decide +kernel
theorem dL_isNodeSo_125 : decode cL_isNodeSo 125 = .ok (.iadd, 1) := by decide +kernel
theorem dL_isNodeSo_126 : decode cL_isNodeSo 126 = .ok (.if_icmp .ne 26, 3) := by decide +kernel
theorem dL_isNodeSo_129 : decode cL_isNodeSo 129 = .ok (.iload_n 3, 1) := by decide +kernel
theorem dL_isNodeSo_130 : decode cL_isNodeSo 130 = .ok (.ifCond .lt 18, 3) := by decide +kernel
theorem dL_isNodeSo_133 : decode cL_isNodeSo 133 = .ok (.aload_n 0, 1) := by decide +kernel
theorem dL_isNodeSo_134 : decode cL_isNodeSo 134 = .ok (.iload_n 3, 1) := by decide +kernel
theorem dL_isNodeSo_135 : decode cL_isNodeSo 135 = .ok (.invokevirtual 108, 3) := by decide +kernel
theorem dL_isNodeSo_138 : decode cL_isNodeSo 138 = .ok (.aload_n 0, 1) := by decide +kernel
theorem dL_isNodeSo_139 : decode cL_isNodeSo 139 = .ok (.iload_n 1, 1) := by decide +kernel
theorem dL_isNodeSo_140 : decode cL_isNodeSo 140 = .ok (.invokevirtual 108, 3) := by decide +kernel
theorem dL_isNodeSo_143 : decode cL_isNodeSo 143 = .ok (.iconst 1, 1) := by decide +kernel
theorem dL_isNodeSo_144 : decode cL_isNodeSo 144 = .ok (.iadd, 1) := by decide +kernel
theorem dL_isNodeSo_145 : decode cL_isNodeSo 145 = .ok (.if_icmp .ne 7, 3) := by decide +kernel
theorem dL_isNodeSo_148 : decode cL_isNodeSo 148 = .ok (.iconst 1, 1) := by decide +kernel
theorem dL_isNodeSo_149 : decode cL_isNodeSo 149 = .ok (.goto 4, 3) := by decide +kernel
theorem dL_isNodeSo_152 : decode cL_isNodeSo 152 = .ok (.iconst 0, 1) := by decide +kernel
theorem dL_isNodeSo_153 : decode cL_isNodeSo 153 = .ok (.istore 5, 2) := by decide +kernel
theorem dL_isNodeSo_155 : decode cL_isNodeSo 155 = .ok (.iload 5, 2) := by decide +kernel
theorem dL_isNodeSo_157 : decode cL_isNodeSo 157 = .ok (.ifCond .eq 19, 3) := by decide +kernel
theorem dL_isNodeSo_160 : decode cL_isNodeSo 160 = .ok (.aload_n 0, 1) := by decide +kernel
theorem dL_isNodeSo_161 : decode cL_isNodeSo 161 = .ok (.iload_n 1, 1) := by decide +kernel
theorem dL_isNodeSo_162 : decode cL_isNodeSo 162 = .ok (.invokevirtual 108, 3) := by decide +kernel
theorem dL_isNodeSo_165 : decode cL_isNodeSo 165 = .ok (.aload_n 0, 1) := by decide +kernel
theorem dL_isNodeSo_166 : decode cL_isNodeSo 166 = .ok (.invokevirtual 114, 3) := by decide +kernel
theorem dL_isNodeSo_169 : decode cL_isNodeSo 169 = .ok (.if_icmp .ge 7, 3) := by decide +kernel
theorem dL_isNodeSo_172 : decode cL_isNodeSo 172 = .ok (.iconst 1, 1) := by decide +kernel
theorem dL_isNodeSo_173 : decode cL_isNodeSo 173 = .ok (.goto 4, 3) := by decide +kernel
theorem dL_isNodeSo_176 : decode cL_isNodeSo 176 = .ok (.iconst 0, 1) := by decide +kernel
theorem dL_isNodeSo_177 : decode cL_isNodeSo 177 = .ok (.ireturn, 1) := by decide +kernel
theorem dL_isTreeSo_0 : decode cL_isTreeSo 0 = .ok (.aload_n 0, 1) := by decide +kernel
theorem dL_isTreeSo_1 : decode cL_isTreeSo 1 = .ok (.invokevirtual 76, 3) := by decide +kernel
theorem dL_isTreeSo_4 : decode cL_isTreeSo 4 = .ok (.istore_n 1, 1) := by decide +kernel
theorem dL_isTreeSo_5 : decode cL_isTreeSo 5 = .ok (.iconst 0, 1) := by decide +kernel
theorem dL_isTreeSo_6 : decode cL_isTreeSo 6 = .ok (.istore_n 2, 1) := by decide +kernel
theorem dL_isTreeSo_7 : decode cL_isTreeSo 7 = .ok (.iconst 0, 1) := by decide +kernel
theorem dL_isTreeSo_8 : decode cL_isTreeSo 8 = .ok (.istore_n 3, 1) := by decide +kernel
theorem dL_isTreeSo_9 : decode cL_isTreeSo 9 = .ok (.iconst 0, 1) := by decide +kernel
theorem dL_isTreeSo_10 : decode cL_isTreeSo 10 = .ok (.istore 4, 2) := by decide +kernel
theorem dL_isTreeSo_12 : decode cL_isTreeSo 12 = .ok (.iconst 0, 1) := by decide +kernel
theorem dL_isTreeSo_13 : decode cL_isTreeSo 13 = .ok (.istore 5, 2) := by decide +kernel
theorem dL_isTreeSo_15 : decode cL_isTreeSo 15 = .ok (.iload 5, 2) := by decide +kernel
theorem dL_isTreeSo_17 : decode cL_isTreeSo 17 = .ok (.iload_n 1, 1) := by decide +kernel
theorem dL_isTreeSo_18 : decode cL_isTreeSo 18 = .ok (.if_icmp .ge 83, 3) := by decide +kernel
theorem dL_isTreeSo_21 : decode cL_isTreeSo 21 = .ok (.iconst 0, 1) := by decide +kernel
theorem dL_isTreeSo_22 : decode cL_isTreeSo 22 = .ok (.istore 6, 2) := by decide +kernel
theorem dL_isTreeSo_24 : decode cL_isTreeSo 24 = .ok (.iconst 2, 1) := by decide +kernel
theorem dL_isTreeSo_25 : decode cL_isTreeSo 25 = .ok (.iload 6, 2) := by decide +kernel
theorem dL_isTreeSo_27 : decode cL_isTreeSo 27 = .ok (.ishl, 1) := by decide +kernel
theorem dL_isTreeSo_28 : decode cL_isTreeSo 28 = .ok (.aload_n 0, 1) := by decide +kernel
theorem dL_isTreeSo_29 : decode cL_isTreeSo 29 = .ok (.iload 5, 2) := by decide +kernel
theorem dL_isTreeSo_31 : decode cL_isTreeSo 31 = .ok (.invokevirtual 105, 3) := by decide +kernel
theorem dL_isTreeSo_34 : decode cL_isTreeSo 34 = .ok (.if_icmp .gt 9, 3) := by decide +kernel
theorem dL_isTreeSo_37 : decode cL_isTreeSo 37 = .ok (.iinc 6 1, 3) := by decide +kernel
theorem dL_isTreeSo_40 : decode cL_isTreeSo 40 = .ok (.goto (-16), 3) := by decide +kernel
theorem dL_isTreeSo_43 : decode cL_isTreeSo 43 = .ok (.iload_n 2, 1) := by decide +kernel
theorem dL_isTreeSo_44 : decode cL_isTreeSo 44 = .ok (.iload 6, 2) := by decide +kernel
theorem dL_isTreeSo_46 : decode cL_isTreeSo 46 = .ok (.iadd, 1) := by decide +kernel
theorem dL_isTreeSo_47 : decode cL_isTreeSo 47 = .ok (.istore_n 2, 1) := by decide +kernel
theorem dL_isTreeSo_48 : decode cL_isTreeSo 48 = .ok (.aload_n 0, 1) := by decide +kernel
theorem dL_isTreeSo_49 : decode cL_isTreeSo 49 = .ok (.iload 5, 2) := by decide +kernel
theorem dL_isTreeSo_51 : decode cL_isTreeSo 51 = .ok (.invokevirtual 108, 3) := by decide +kernel
theorem dL_isTreeSo_54 : decode cL_isTreeSo 54 = .ok (.iconst 1, 1) := by decide +kernel
theorem dL_isTreeSo_55 : decode cL_isTreeSo 55 = .ok (.iadd, 1) := by decide +kernel
theorem dL_isTreeSo_56 : decode cL_isTreeSo 56 = .ok (.iload_n 3, 1) := by decide +kernel
theorem dL_isTreeSo_57 : decode cL_isTreeSo 57 = .ok (.if_icmp .le 14, 3) := by decide +kernel
theorem dL_isTreeSo_60 : decode cL_isTreeSo 60 = .ok (.aload_n 0, 1) := by decide +kernel
theorem dL_isTreeSo_61 : decode cL_isTreeSo 61 = .ok (.iload 5, 2) := by decide +kernel
theorem dL_isTreeSo_63 : decode cL_isTreeSo 63 = .ok (.invokevirtual 108, 3) := by decide +kernel
theorem dL_isTreeSo_66 : decode cL_isTreeSo 66 = .ok (.iconst 1, 1) := by decide +kernel
theorem dL_isTreeSo_67 : decode cL_isTreeSo 67 = .ok (.iadd, 1) := by decide +kernel
theorem dL_isTreeSo_68 : decode cL_isTreeSo 68 = .ok (.goto 4, 3) := by decide +kernel
theorem dL_isTreeSo_71 : decode cL_isTreeSo 71 = .ok (.iload_n 3, 1) := by decide +kernel
theorem dL_isTreeSo_72 : decode cL_isTreeSo 72 = .ok (.istore_n 3, 1) := by decide +kernel
theorem dL_isTreeSo_73 : decode cL_isTreeSo 73 = .ok (.iload 4, 2) := by decide +kernel
theorem dL_isTreeSo_75 : decode cL_isTreeSo 75 = .ok (.aload_n 0, 1) := by decide +kernel
theorem dL_isTreeSo_76 : decode cL_isTreeSo 76 = .ok (.iload 5, 2) := by decide +kernel
theorem dL_isTreeSo_78 : decode cL_isTreeSo 78 = .ok (.invokevirtual 117, 3) := by decide +kernel
theorem dL_isTreeSo_81 : decode cL_isTreeSo 81 = .ok (.iadd, 1) := by decide +kernel
theorem dL_isTreeSo_82 : decode cL_isTreeSo 82 = .ok (.istore 4, 2) := by decide +kernel
theorem dL_isTreeSo_84 : decode cL_isTreeSo 84 = .ok (.aload_n 0, 1) := by decide +kernel
theorem dL_isTreeSo_85 : decode cL_isTreeSo 85 = .ok (.iload 5, 2) := by decide +kernel
theorem dL_isTreeSo_87 : decode cL_isTreeSo 87 = .ok (.invokestatic 120, 3) := by decide +kernel
theorem dL_isTreeSo_90 : decode cL_isTreeSo 90 = .ok (.ifCond .ne 5, 3) := by decide +kernel
theorem dL_isTreeSo_93 : decode cL_isTreeSo 93 = .ok (.iconst 0, 1) := by decide +kernel
theorem dL_isTreeSo_94 : decode cL_isTreeSo 94 = .ok (.ireturn, 1) := by decide +kernel
theorem dL_isTreeSo_95 : decode cL_isTreeSo 95 = .ok (.iinc 5 1, 3) := by decide +kernel
theorem dL_isTreeSo_98 : decode cL_isTreeSo 98 = .ok (.goto (-83), 3) := by decide +kernel
theorem dL_isTreeSo_101 : decode cL_isTreeSo 101 = .ok (.iload_n 3, 1) := by decide +kernel
theorem dL_isTreeSo_102 : decode cL_isTreeSo 102 = .ok (.aload_n 0, 1) := by decide +kernel
theorem dL_isTreeSo_103 : decode cL_isTreeSo 103 = .ok (.invokevirtual 114, 3) := by decide +kernel
theorem dL_isTreeSo_106 : decode cL_isTreeSo 106 = .ok (.if_icmp .ne 58, 3) := by decide +kernel
theorem dL_isTreeSo_109 : decode cL_isTreeSo 109 = .ok (.aload_n 0, 1) := by decide +kernel
theorem dL_isTreeSo_110 : decode cL_isTreeSo 110 = .ok (.iconst 0, 1) := by decide +kernel
theorem dL_isTreeSo_111 : decode cL_isTreeSo 111 = .ok (.iload_n 1, 1) := by decide +kernel
theorem dL_isTreeSo_112 : decode cL_isTreeSo 112 = .ok (.invokevirtual 124, 3) := by decide +kernel
theorem dL_isTreeSo_115 : decode cL_isTreeSo 115 = .ok (.iload 4, 2) := by decide +kernel
theorem dL_isTreeSo_117 : decode cL_isTreeSo 117 = .ok (.if_icmp .ne 47, 3) := by decide +kernel
theorem dL_isTreeSo_120 : decode cL_isTreeSo 120 = .ok (.iload_n 1, 1) := by decide +kernel
theorem dL_isTreeSo_121 : decode cL_isTreeSo 121 = .ok (.ifCond .ne 7, 3) := by decide +kernel
theorem dL_isTreeSo_124 : decode cL_isTreeSo 124 = .ok (.iconst 1, 1) := by decide +kernel
theorem dL_isTreeSo_125 : decode cL_isTreeSo 125 = .ok (.goto 4, 3) := by decide +kernel
theorem dL_isTreeSo_128 : decode cL_isTreeSo 128 = .ok (.iconst 0, 1) := by decide +kernel
theorem dL_isTreeSo_129 : decode cL_isTreeSo 129 = .ok (.aload_n 0, 1) := by decide +kernel
theorem dL_isTreeSo_130 : decode cL_isTreeSo 130 = .ok (.invokevirtual 111, 3) := by decide +kernel
theorem dL_isTreeSo_133 : decode cL_isTreeSo 133 = .ok (.ifCond .ge 7, 3) := by decide +kernel
theorem dL_isTreeSo_136 : decode cL_isTreeSo 136 = .ok (.iconst 1, 1) := by decide +kernel
theorem dL_isTreeSo_137 : decode cL_isTreeSo 137 = .ok (.goto 4, 3) := by decide +kernel
theorem dL_isTreeSo_140 : decode cL_isTreeSo 140 = .ok (.iconst 0, 1) := by decide +kernel
theorem dL_isTreeSo_141 : decode cL_isTreeSo 141 = .ok (.if_icmp .ne 23, 3) := by decide +kernel
theorem dL_isTreeSo_144 : decode cL_isTreeSo 144 = .ok (.iload_n 1, 1) := by decide +kernel
theorem dL_isTreeSo_145 : decode cL_isTreeSo 145 = .ok (.ifCond .eq 15, 3) := by decide +kernel
theorem dL_isTreeSo_148 : decode cL_isTreeSo 148 = .ok (.aload_n 0, 1) := by decide +kernel
theorem dL_isTreeSo_149 : decode cL_isTreeSo 149 = .ok (.aload_n 0, 1) := by decide +kernel
theorem dL_isTreeSo_150 : decode cL_isTreeSo 150 = .ok (.invokevirtual 111, 3) := by decide +kernel
theorem dL_isTreeSo_153 : decode cL_isTreeSo 153 = .ok (.invokevirtual 105, 3) := by decide +kernel
theorem dL_isTreeSo_156 : decode cL_isTreeSo 156 = .ok (.iload_n 1, 1) := by decide +kernel
theorem dL_isTreeSo_157 : decode cL_isTreeSo 157 = .ok (.if_icmp .ne 7, 3) := by decide +kernel
theorem dL_isTreeSo_160 : decode cL_isTreeSo 160 = .ok (.iconst 1, 1) := by decide +kernel
theorem dL_isTreeSo_161 : decode cL_isTreeSo 161 = .ok (.goto 4, 3) := by decide +kernel
theorem dL_isTreeSo_164 : decode cL_isTreeSo 164 = .ok (.iconst 0, 1) := by decide +kernel
theorem dL_isTreeSo_165 : decode cL_isTreeSo 165 = .ok (.istore 5, 2) := by decide +kernel
theorem dL_isTreeSo_167 : decode cL_isTreeSo 167 = .ok (.iload 5, 2) := by decide +kernel
theorem dL_isTreeSo_169 : decode cL_isTreeSo 169 = .ok (.ifCond .eq 44, 3) := by decide +kernel
theorem dL_isTreeSo_172 : decode cL_isTreeSo 172 = .ok (.aload_n 0, 1) := by decide +kernel
theorem dL_isTreeSo_173 : decode cL_isTreeSo 173 = .ok (.invokevirtual 127, 3) := by decide +kernel
theorem dL_isTreeSo_176 : decode cL_isTreeSo 176 = .ok (.ifCond .ne 14, 3) := by decide +kernel
theorem dL_isTreeSo_179 : decode cL_isTreeSo 179 = .ok (.aload_n 0, 1) := by decide +kernel
theorem dL_isTreeSo_180 : decode cL_isTreeSo 180 = .ok (.invokevirtual 130, 3) := by decide +kernel
theorem dL_isTreeSo_183 : decode cL_isTreeSo 183 = .ok (.iload_n 2, 1) := by decide +kernel
theorem dL_isTreeSo_184 : decode cL_isTreeSo 184 = .ok (.if_icmp .ne 29, 3) := by decide +kernel
theorem dL_isTreeSo_187 : decode cL_isTreeSo 187 = .ok (.goto 11, 3) := by decide +kernel
theorem dL_isTreeSo_190 : decode cL_isTreeSo 190 = .ok (.aload_n 0, 1) := by decide +kernel
theorem dL_isTreeSo_191 : decode cL_isTreeSo 191 = .ok (.invokevirtual 130, 3) := by decide +kernel
theorem dL_isTreeSo_194 : decode cL_isTreeSo 194 = .ok (.iload_n 2, 1) := by decide +kernel
theorem dL_isTreeSo_195 : decode cL_isTreeSo 195 = .ok (.if_icmp .lt 18, 3) := by decide +kernel
theorem dL_isTreeSo_198 : decode cL_isTreeSo 198 = .ok (.iload_n 1, 1) := by decide +kernel
theorem dL_isTreeSo_199 : decode cL_isTreeSo 199 = .ok (.aload_n 0, 1) := by decide +kernel
theorem dL_isTreeSo_200 : decode cL_isTreeSo 200 = .ok (.invokevirtual 127, 3) := by decide +kernel
theorem dL_isTreeSo_203 : decode cL_isTreeSo 203 = .ok (.iadd, 1) := by decide +kernel
theorem dL_isTreeSo_204 : decode cL_isTreeSo 204 = .ok (.bipush 60, 2) := by decide +kernel
theorem dL_isTreeSo_206 : decode cL_isTreeSo 206 = .ok (.if_icmp .gt 7, 3) := by decide +kernel
theorem dL_isTreeSo_209 : decode cL_isTreeSo 209 = .ok (.iconst 1, 1) := by decide +kernel
theorem dL_isTreeSo_210 : decode cL_isTreeSo 210 = .ok (.goto 4, 3) := by decide +kernel
theorem dL_isTreeSo_213 : decode cL_isTreeSo 213 = .ok (.iconst 0, 1) := by decide +kernel
theorem dL_isTreeSo_214 : decode cL_isTreeSo 214 = .ok (.ireturn, 1) := by decide +kernel
theorem dL_areAlike_0 : decode cL_areAlike 0 = .ok (.aload_n 0, 1) := by decide +kernel
theorem dL_areAlike_1 : decode cL_areAlike 1 = .ok (.invokevirtual 76, 3) := by decide +kernel
theorem dL_areAlike_4 : decode cL_areAlike 4 = .ok (.aload_n 1, 1) := by decide +kernel
theorem dL_areAlike_5 : decode cL_areAlike 5 = .ok (.invokevirtual 76, 3) := by decide +kernel
theorem dL_areAlike_8 : decode cL_areAlike 8 = .ok (.if_icmp .ne 84, 3) := by decide +kernel
theorem dL_areAlike_11 : decode cL_areAlike 11 = .ok (.aload_n 0, 1) := by decide +kernel
theorem dL_areAlike_12 : decode cL_areAlike 12 = .ok (.invokevirtual 127, 3) := by decide +kernel
theorem dL_areAlike_15 : decode cL_areAlike 15 = .ok (.aload_n 1, 1) := by decide +kernel
theorem dL_areAlike_16 : decode cL_areAlike 16 = .ok (.invokevirtual 127, 3) := by decide +kernel
theorem dL_areAlike_19 : decode cL_areAlike 19 = .ok (.if_icmp .ne 73, 3) := by decide +kernel
theorem dL_areAlike_22 : decode cL_areAlike 22 = .ok (.aload_n 0, 1) := by decide +kernel
theorem dL_areAlike_23 : decode cL_areAlike 23 = .ok (.invokevirtual 111, 3) := by decide +kernel
theorem dL_areAlike_26 : decode cL_areAlike 26 = .ok (.aload_n 1, 1) := by decide +kernel
theorem dL_areAlike_27 : decode cL_areAlike 27 = .ok (.invokevirtual 111, 3) := by decide +kernel
theorem dL_areAlike_30 : decode cL_areAlike 30 = .ok (.if_icmp .ne 62, 3) := by decide +kernel
theorem dL_areAlike_33 : decode cL_areAlike 33 = .ok (.aload_n 0, 1) := by decide +kernel
theorem dL_areAlike_34 : decode cL_areAlike 34 = .ok (.invokevirtual 130, 3) := by decide +kernel
theorem dL_areAlike_37 : decode cL_areAlike 37 = .ok (.aload_n 1, 1) := by decide +kernel
theorem dL_areAlike_38 : decode cL_areAlike 38 = .ok (.invokevirtual 130, 3) := by decide +kernel
theorem dL_areAlike_41 : decode cL_areAlike 41 = .ok (.if_icmp .ne 51, 3) := by decide +kernel
theorem dL_areAlike_44 : decode cL_areAlike 44 = .ok (.aload_n 0, 1) := by decide +kernel
theorem dL_areAlike_45 : decode cL_areAlike 45 = .ok (.invokevirtual 133, 3) := by decide +kernel
theorem dL_areAlike_48 : decode cL_areAlike 48 = .ok (.aload_n 1, 1) := by decide +kernel
theorem dL_areAlike_49 : decode cL_areAlike 49 = .ok (.invokevirtual 133, 3) := by decide +kernel
theorem dL_areAlike_52 : decode cL_areAlike 52 = .ok (.if_icmp .ne 40, 3) := by decide +kernel
theorem dL_areAlike_55 : decode cL_areAlike 55 = .ok (.aload_n 0, 1) := by decide +kernel
theorem dL_areAlike_56 : decode cL_areAlike 56 = .ok (.invokevirtual 136, 3) := by decide +kernel
theorem dL_areAlike_59 : decode cL_areAlike 59 = .ok (.aload_n 1, 1) := by decide +kernel
theorem dL_areAlike_60 : decode cL_areAlike 60 = .ok (.invokevirtual 136, 3) := by decide +kernel
theorem dL_areAlike_63 : decode cL_areAlike 63 = .ok (.if_icmp .ne 29, 3) := by decide +kernel
theorem dL_areAlike_66 : decode cL_areAlike 66 = .ok (.aload_n 0, 1) := by decide +kernel
theorem dL_areAlike_67 : decode cL_areAlike 67 = .ok (.invokevirtual 139, 3) := by decide +kernel
theorem dL_areAlike_70 : decode cL_areAlike 70 = .ok (.aload_n 1, 1) := by decide +kernel
theorem dL_areAlike_71 : decode cL_areAlike 71 = .ok (.invokevirtual 139, 3) := by decide +kernel
theorem dL_areAlike_74 : decode cL_areAlike 74 = .ok (.if_icmp .ne 18, 3) := by decide +kernel
theorem dL_areAlike_77 : decode cL_areAlike 77 = .ok (.aload_n 0, 1) := by decide +kernel
theorem dL_areAlike_78 : decode cL_areAlike 78 = .ok (.invokevirtual 142, 3) := by decide +kernel
theorem dL_areAlike_81 : decode cL_areAlike 81 = .ok (.aload_n 1, 1) := by decide +kernel
theorem dL_areAlike_82 : decode cL_areAlike 82 = .ok (.invokevirtual 142, 3) := by decide +kernel
theorem dL_areAlike_85 : decode cL_areAlike 85 = .ok (.if_icmp .ne 7, 3) := by decide +kernel
theorem dL_areAlike_88 : decode cL_areAlike 88 = .ok (.iconst 1, 1) := by decide +kernel
theorem dL_areAlike_89 : decode cL_areAlike 89 = .ok (.goto 4, 3) := by decide +kernel
theorem dL_areAlike_92 : decode cL_areAlike 92 = .ok (.iconst 0, 1) := by decide +kernel
theorem dL_areAlike_93 : decode cL_areAlike 93 = .ok (.istore_n 2, 1) := by decide +kernel
theorem dL_areAlike_94 : decode cL_areAlike 94 = .ok (.iconst 0, 1) := by decide +kernel
theorem dL_areAlike_95 : decode cL_areAlike 95 = .ok (.istore_n 3, 1) := by decide +kernel
theorem dL_areAlike_96 : decode cL_areAlike 96 = .ok (.iload_n 3, 1) := by decide +kernel
theorem dL_areAlike_97 : decode cL_areAlike 97 = .ok (.aload_n 0, 1) := by decide +kernel
theorem dL_areAlike_98 : decode cL_areAlike 98 = .ok (.invokevirtual 76, 3) := by decide +kernel
theorem dL_areAlike_101 : decode cL_areAlike 101 = .ok (.if_icmp .ge 45, 3) := by decide +kernel
theorem dL_areAlike_104 : decode cL_areAlike 104 = .ok (.iload_n 2, 1) := by decide +kernel
theorem dL_areAlike_105 : decode cL_areAlike 105 = .ok (.ifCond .eq 41, 3) := by decide +kernel
theorem dL_areAlike_108 : decode cL_areAlike 108 = .ok (.aload_n 0, 1) := by decide +kernel
theorem dL_areAlike_109 : decode cL_areAlike 109 = .ok (.iload_n 3, 1) := by decide +kernel
theorem dL_areAlike_110 : decode cL_areAlike 110 = .ok (.invokevirtual 117, 3) := by decide +kernel
theorem dL_areAlike_113 : decode cL_areAlike 113 = .ok (.aload_n 1, 1) := by decide +kernel
theorem dL_areAlike_114 : decode cL_areAlike 114 = .ok (.iload_n 3, 1) := by decide +kernel
theorem dL_areAlike_115 : decode cL_areAlike 115 = .ok (.invokevirtual 117, 3) := by decide +kernel
theorem dL_areAlike_118 : decode cL_areAlike 118 = .ok (.if_icmp .ne 20, 3) := by decide +kernel
theorem dL_areAlike_121 : decode cL_areAlike 121 = .ok (.aload_n 0, 1) := by decide +kernel
theorem dL_areAlike_122 : decode cL_areAlike 122 = .ok (.iload_n 3, 1) := by decide +kernel
theorem dL_areAlike_123 : decode cL_areAlike 123 = .ok (.invokevirtual 108, 3) := by decide +kernel
theorem dL_areAlike_126 : decode cL_areAlike 126 = .ok (.aload_n 1, 1) := by decide +kernel
theorem dL_areAlike_127 : decode cL_areAlike 127 = .ok (.iload_n 3, 1) := by decide +kernel
theorem dL_areAlike_128 : decode cL_areAlike 128 = .ok (.invokevirtual 108, 3) := by decide +kernel
theorem dL_areAlike_131 : decode cL_areAlike 131 = .ok (.if_icmp .ne 7, 3) := by decide +kernel
theorem dL_areAlike_134 : decode cL_areAlike 134 = .ok (.iconst 1, 1) := by decide +kernel
theorem dL_areAlike_135 : decode cL_areAlike 135 = .ok (.goto 4, 3) := by decide +kernel
theorem dL_areAlike_138 : decode cL_areAlike 138 = .ok (.iconst 0, 1) := by decide +kernel
theorem dL_areAlike_139 : decode cL_areAlike 139 = .ok (.istore_n 2, 1) := by decide +kernel
theorem dL_areAlike_140 : decode cL_areAlike 140 = .ok (.iinc 3 1, 3) := by decide +kernel
theorem dL_areAlike_143 : decode cL_areAlike 143 = .ok (.goto (-47), 3) := by decide +kernel
theorem dL_areAlike_146 : decode cL_areAlike 146 = .ok (.iconst 0, 1) := by decide +kernel
theorem dL_areAlike_147 : decode cL_areAlike 147 = .ok (.istore_n 3, 1) := by decide +kernel
theorem dL_areAlike_148 : decode cL_areAlike 148 = .ok (.iload_n 3, 1) := by decide +kernel
theorem dL_areAlike_149 : decode cL_areAlike 149 = .ok (.iconst 4, 1) := by decide +kernel
theorem dL_areAlike_150 : decode cL_areAlike 150 = .ok (.if_icmp .ge 32, 3) := by decide +kernel
theorem dL_areAlike_153 : decode cL_areAlike 153 = .ok (.iload_n 2, 1) := by decide +kernel
theorem dL_areAlike_154 : decode cL_areAlike 154 = .ok (.ifCond .eq 20, 3) := by decide +kernel
theorem dL_areAlike_157 : decode cL_areAlike 157 = .ok (.aload_n 0, 1) := by decide +kernel
theorem dL_areAlike_158 : decode cL_areAlike 158 = .ok (.iload_n 3, 1) := by decide +kernel
theorem dL_areAlike_159 : decode cL_areAlike 159 = .ok (.invokevirtual 145, 3) := by decide +kernel
theorem dL_areAlike_162 : decode cL_areAlike 162 = .ok (.aload_n 1, 1) := by decide +kernel
theorem dL_areAlike_163 : decode cL_areAlike 163 = .ok (.iload_n 3, 1) := by decide +kernel
theorem dL_areAlike_164 : decode cL_areAlike 164 = .ok (.invokevirtual 145, 3) := by decide +kernel
theorem dL_areAlike_167 : decode cL_areAlike 167 = .ok (.if_icmp .ne 7, 3) := by decide +kernel
theorem dL_areAlike_170 : decode cL_areAlike 170 = .ok (.iconst 1, 1) := by decide +kernel
theorem dL_areAlike_171 : decode cL_areAlike 171 = .ok (.goto 4, 3) := by decide +kernel
theorem dL_areAlike_174 : decode cL_areAlike 174 = .ok (.iconst 0, 1) := by decide +kernel
theorem dL_areAlike_175 : decode cL_areAlike 175 = .ok (.istore_n 2, 1) := by decide +kernel
theorem dL_areAlike_176 : decode cL_areAlike 176 = .ok (.iinc 3 1, 3) := by decide +kernel
theorem dL_areAlike_179 : decode cL_areAlike 179 = .ok (.goto (-31), 3) := by decide +kernel
theorem dL_areAlike_182 : decode cL_areAlike 182 = .ok (.iload_n 2, 1) := by decide +kernel
theorem dL_areAlike_183 : decode cL_areAlike 183 = .ok (.ireturn, 1) := by decide +kernel
theorem dL_law_0 : decode cL_law 0 = .ok (.new 9, 3) := by decide +kernel
theorem dL_law_3 : decode cL_law 3 = .ok (.dup, 1) := by decide +kernel
theorem dL_law_4 : decode cL_law 4 = .ok (.invokespecial 148, 3) := by decide +kernel
theorem dL_law_7 : decode cL_law 7 = .ok (.astore_n 1, 1) := by decide +kernel
theorem dL_law_8 : decode cL_law 8 = .ok (.new 9, 3) := by decide +kernel
theorem dL_law_11 : decode cL_law 11 = .ok (.dup, 1) := by decide +kernel
theorem dL_law_12 : decode cL_law 12 = .ok (.invokespecial 148, 3) := by decide +kernel
theorem dL_law_15 : decode cL_law 15 = .ok (.astore_n 2, 1) := by decide +kernel
theorem dL_law_16 : decode cL_law 16 = .ok (.iconst 0, 1) := by decide +kernel
theorem dL_law_17 : decode cL_law 17 = .ok (.istore_n 3, 1) := by decide +kernel
theorem dL_law_18 : decode cL_law 18 = .ok (.iload_n 3, 1) := by decide +kernel
theorem dL_law_19 : decode cL_law 19 = .ok (.bipush 60, 2) := by decide +kernel
theorem dL_law_21 : decode cL_law 21 = .ok (.if_icmp .ge 112, 3) := by decide +kernel
theorem dL_law_24 : decode cL_law 24 = .ok (.aload_n 0, 1) := by decide +kernel
theorem dL_law_25 : decode cL_law 25 = .ok (.iload_n 3, 1) := by decide +kernel
theorem dL_law_26 : decode cL_law 26 = .ok (.invokestatic 149, 3) := by decide +kernel
theorem dL_law_29 : decode cL_law 29 = .ok (.istore 4, 2) := by decide +kernel
theorem dL_law_31 : decode cL_law 31 = .ok (.aload_n 1, 1) := by decide +kernel
theorem dL_law_32 : decode cL_law 32 = .ok (.invokevirtual 139, 3) := by decide +kernel
theorem dL_law_35 : decode cL_law 35 = .ok (.istore 5, 2) := by decide +kernel
theorem dL_law_37 : decode cL_law 37 = .ok (.aload_n 1, 1) := by decide +kernel
theorem dL_law_38 : decode cL_law 38 = .ok (.iload 4, 2) := by decide +kernel
theorem dL_law_40 : decode cL_law 40 = .ok (.invokestatic 153, 3) := by decide +kernel
theorem dL_law_43 : decode cL_law 43 = .ok (.istore 6, 2) := by decide +kernel
theorem dL_law_45 : decode cL_law 45 = .ok (.iload 6, 2) := by decide +kernel
theorem dL_law_47 : decode cL_law 47 = .ok (.ldc 16, 2) := by decide +kernel
theorem dL_law_49 : decode cL_law 49 = .ok (.if_icmp .eq 30, 3) := by decide +kernel
theorem dL_law_52 : decode cL_law 52 = .ok (.aload_n 1, 1) := by decide +kernel
theorem dL_law_53 : decode cL_law 53 = .ok (.invokevirtual 139, 3) := by decide +kernel
theorem dL_law_56 : decode cL_law 56 = .ok (.iload 5, 2) := by decide +kernel
theorem dL_law_58 : decode cL_law 58 = .ok (.aload_n 1, 1) := by decide +kernel
theorem dL_law_59 : decode cL_law 59 = .ok (.invokevirtual 133, 3) := by decide +kernel
theorem dL_law_62 : decode cL_law 62 = .ok (.iadd, 1) := by decide +kernel
theorem dL_law_63 : decode cL_law 63 = .ok (.if_icmp .ne 14, 3) := by decide +kernel
theorem dL_law_66 : decode cL_law 66 = .ok (.aload_n 2, 1) := by decide +kernel
theorem dL_law_67 : decode cL_law 67 = .ok (.iload 4, 2) := by decide +kernel
theorem dL_law_69 : decode cL_law 69 = .ok (.invokestatic 153, 3) := by decide +kernel
theorem dL_law_72 : decode cL_law 72 = .ok (.iload 6, 2) := by decide +kernel
theorem dL_law_74 : decode cL_law 74 = .ok (.if_icmp .eq 5, 3) := by decide +kernel
theorem dL_law_77 : decode cL_law 77 = .ok (.iconst 0, 1) := by decide +kernel
theorem dL_law_78 : decode cL_law 78 = .ok (.ireturn, 1) := by decide +kernel
theorem dL_law_79 : decode cL_law 79 = .ok (.aload_n 1, 1) := by decide +kernel
theorem dL_law_80 : decode cL_law 80 = .ok (.invokevirtual 136, 3) := by decide +kernel
theorem dL_law_83 : decode cL_law 83 = .ok (.iconst 2, 1) := by decide +kernel
theorem dL_law_84 : decode cL_law 84 = .ok (.aload_n 1, 1) := by decide +kernel
theorem dL_law_85 : decode cL_law 85 = .ok (.invokevirtual 133, 3) := by decide +kernel
theorem dL_law_88 : decode cL_law 88 = .ok (.imul, 1) := by decide +kernel
theorem dL_law_89 : decode cL_law 89 = .ok (.if_icmp .gt 36, 3) := by decide +kernel
theorem dL_law_92 : decode cL_law 92 = .ok (.aload_n 1, 1) := by decide +kernel
theorem dL_law_93 : decode cL_law 93 = .ok (.invokevirtual 136, 3) := by decide +kernel
theorem dL_law_96 : decode cL_law 96 = .ok (.aload_n 1, 1) := by decide +kernel
theorem dL_law_97 : decode cL_law 97 = .ok (.invokevirtual 133, 3) := by decide +kernel
theorem dL_law_100 : decode cL_law 100 = .ok (.if_icmp .lt 25, 3) := by decide +kernel
theorem dL_law_103 : decode cL_law 103 = .ok (.aload_n 1, 1) := by decide +kernel
theorem dL_law_104 : decode cL_law 104 = .ok (.aload_n 2, 1) := by decide +kernel
theorem dL_law_105 : decode cL_law 105 = .ok (.invokestatic 156, 3) := by decide +kernel
theorem dL_law_108 : decode cL_law 108 = .ok (.ifCond .eq 17, 3) := by decide +kernel
theorem dL_law_111 : decode cL_law 111 = .ok (.iload_n 3, 1) := by decide +kernel
theorem dL_law_112 : decode cL_law 112 = .ok (.iconst 3, 1) := by decide +kernel
theorem dL_law_113 : decode cL_law 113 = .ok (.irem, 1) := by decide +kernel
theorem dL_law_114 : decode cL_law 114 = .ok (.iconst 2, 1) := by decide +kernel
theorem dL_law_115 : decode cL_law 115 = .ok (.if_icmp .ne 12, 3) := by decide +kernel
theorem dL_law_118 : decode cL_law 118 = .ok (.aload_n 1, 1) := by decide +kernel
theorem dL_law_119 : decode cL_law 119 = .ok (.invokestatic 160, 3) := by decide +kernel
theorem dL_law_122 : decode cL_law 122 = .ok (.ifCond .ne 5, 3) := by decide +kernel
theorem dL_law_125 : decode cL_law 125 = .ok (.iconst 0, 1) := by decide +kernel
theorem dL_law_126 : decode cL_law 126 = .ok (.ireturn, 1) := by decide +kernel
theorem dL_law_127 : decode cL_law 127 = .ok (.iinc 3 1, 3) := by decide +kernel
theorem dL_law_130 : decode cL_law 130 = .ok (.goto (-112), 3) := by decide +kernel
theorem dL_law_133 : decode cL_law 133 = .ok (.aload_n 2, 1) := by decide +kernel
theorem dL_law_134 : decode cL_law 134 = .ok (.invokestatic 160, 3) := by decide +kernel
theorem dL_law_137 : decode cL_law 137 = .ok (.ireturn, 1) := by decide +kernel
