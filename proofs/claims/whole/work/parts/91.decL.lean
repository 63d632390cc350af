/-! decode rows of the law class -/
theorem d_L_cell_0 : decode b_L_cell 0 = .ok (.iload_n 1, 1) := by decide +kernel
theorem d_L_cell_1 : decode b_L_cell 1 = .ok (.aload_n 0, 1) := by decide +kernel
theorem d_L_cell_2 : decode b_L_cell 2 = .ok (.arraylength, 1) := by decide +kernel
theorem d_L_cell_3 : decode b_L_cell 3 = .ok (.if_icmp .ge 9, 3) := by decide +kernel
theorem d_L_cell_6 : decode b_L_cell 6 = .ok (.aload_n 0, 1) := by decide +kernel
theorem d_L_cell_7 : decode b_L_cell 7 = .ok (.iload_n 1, 1) := by decide +kernel
theorem d_L_cell_8 : decode b_L_cell 8 = .ok (.iaload, 1) := by decide +kernel
theorem d_L_cell_9 : decode b_L_cell 9 = .ok (.goto 4, 3) := by decide +kernel
theorem d_L_cell_12 : decode b_L_cell 12 = .ok (.iconst 0, 1) := by decide +kernel
theorem d_L_cell_13 : decode b_L_cell 13 = .ok (.ireturn, 1) := by decide +kernel
theorem d_L_all_0 : decode b_L_all 0 = .ok (.aload_n 0, 1) := by decide +kernel
theorem d_L_all_1 : decode b_L_all 1 = .ok (.iload_n 1, 1) := by decide +kernel
theorem d_L_all_2 : decode b_L_all 2 = .ok (.invokevirtual 7, 3) := by decide +kernel
theorem d_L_all_5 : decode b_L_all 5 = .ok (.goto 6, 3) := by decide +kernel
theorem d_L_all_8 : decode b_L_all 8 = .ok (.astore_n 2, 1) := by decide +kernel
theorem d_L_all_9 : decode b_L_all 9 = .ok (.iconst 1, 1) := by decide +kernel
theorem d_L_all_10 : decode b_L_all 10 = .ok (.ireturn, 1) := by decide +kernel
theorem d_L_all_11 : decode b_L_all 11 = .ok (.iconst 0, 1) := by decide +kernel
theorem d_L_all_12 : decode b_L_all 12 = .ok (.ireturn, 1) := by decide +kernel
theorem d_L_row_0 : decode b_L_row 0 = .ok (.aload 6, 2) := by decide +kernel
theorem d_L_row_2 : decode b_L_row 2 = .ok (.iconst 0, 1) := by decide +kernel
theorem d_L_row_3 : decode b_L_row 3 = .ok (.aload_n 0, 1) := by decide +kernel
theorem d_L_row_4 : decode b_L_row 4 = .ok (.iload_n 1, 1) := by decide +kernel
theorem d_L_row_5 : decode b_L_row 5 = .ok (.iload_n 2, 1) := by decide +kernel
theorem d_L_row_6 : decode b_L_row 6 = .ok (.iload_n 3, 1) := by decide +kernel
theorem d_L_row_7 : decode b_L_row 7 = .ok (.lload 4, 2) := by decide +kernel
theorem d_L_row_9 : decode b_L_row 9 = .ok (.invokevirtual 15, 3) := by decide +kernel
theorem d_L_row_12 : decode b_L_row 12 = .ok (.i2l, 1) := by decide +kernel
theorem d_L_row_13 : decode b_L_row 13 = .ok (.lastore, 1) := by decide +kernel
theorem d_L_row_14 : decode b_L_row 14 = .ok (.goto 15, 3) := by decide +kernel
theorem d_L_row_17 : decode b_L_row 17 = .ok (.astore 7, 2) := by decide +kernel
theorem d_L_row_19 : decode b_L_row 19 = .ok (.iconst 1, 1) := by decide +kernel
theorem d_L_row_20 : decode b_L_row 20 = .ok (.ireturn, 1) := by decide +kernel
theorem d_L_row_21 : decode b_L_row 21 = .ok (.astore 7, 2) := by decide +kernel
theorem d_L_row_23 : decode b_L_row 23 = .ok (.iconst 2, 1) := by decide +kernel
theorem d_L_row_24 : decode b_L_row 24 = .ok (.ireturn, 1) := by decide +kernel
theorem d_L_row_25 : decode b_L_row 25 = .ok (.astore 7, 2) := by decide +kernel
theorem d_L_row_27 : decode b_L_row 27 = .ok (.iconst 3, 1) := by decide +kernel
theorem d_L_row_28 : decode b_L_row 28 = .ok (.ireturn, 1) := by decide +kernel
theorem d_L_row_29 : decode b_L_row 29 = .ok (.iconst 0, 1) := by decide +kernel
theorem d_L_row_30 : decode b_L_row 30 = .ok (.ireturn, 1) := by decide +kernel
theorem d_L_bound_0 : decode b_L_bound 0 = .ok (.aload 4, 2) := by decide +kernel
theorem d_L_bound_2 : decode b_L_bound 2 = .ok (.iconst 0, 1) := by decide +kernel
theorem d_L_bound_3 : decode b_L_bound 3 = .ok (.aload_n 0, 1) := by decide +kernel
theorem d_L_bound_4 : decode b_L_bound 4 = .ok (.iload_n 1, 1) := by decide +kernel
theorem d_L_bound_5 : decode b_L_bound 5 = .ok (.iload_n 2, 1) := by decide +kernel
theorem d_L_bound_6 : decode b_L_bound 6 = .ok (.iload_n 3, 1) := by decide +kernel
theorem d_L_bound_7 : decode b_L_bound 7 = .ok (.invokevirtual 23, 3) := by decide +kernel
theorem d_L_bound_10 : decode b_L_bound 10 = .ok (.lastore, 1) := by decide +kernel
theorem d_L_bound_11 : decode b_L_bound 11 = .ok (.goto 7, 3) := by decide +kernel
theorem d_L_bound_14 : decode b_L_bound 14 = .ok (.astore 5, 2) := by decide +kernel
theorem d_L_bound_16 : decode b_L_bound 16 = .ok (.iconst 1, 1) := by decide +kernel
theorem d_L_bound_17 : decode b_L_bound 17 = .ok (.ireturn, 1) := by decide +kernel
theorem d_L_bound_18 : decode b_L_bound 18 = .ok (.iconst 0, 1) := by decide +kernel
theorem d_L_bound_19 : decode b_L_bound 19 = .ok (.ireturn, 1) := by decide +kernel
theorem d_L_kept_0 : decode b_L_kept 0 = .ok (.aload 4, 2) := by decide +kernel
theorem d_L_kept_2 : decode b_L_kept 2 = .ok (.iconst 0, 1) := by decide +kernel
theorem d_L_kept_3 : decode b_L_kept 3 = .ok (.aload_n 0, 1) := by decide +kernel
theorem d_L_kept_4 : decode b_L_kept 4 = .ok (.iload_n 1, 1) := by decide +kernel
theorem d_L_kept_5 : decode b_L_kept 5 = .ok (.iload_n 2, 1) := by decide +kernel
theorem d_L_kept_6 : decode b_L_kept 6 = .ok (.iload_n 3, 1) := by decide +kernel
theorem d_L_kept_7 : decode b_L_kept 7 = .ok (.invokevirtual 27, 3) := by decide +kernel
theorem d_L_kept_10 : decode b_L_kept 10 = .ok (.lastore, 1) := by decide +kernel
theorem d_L_kept_11 : decode b_L_kept 11 = .ok (.goto 7, 3) := by decide +kernel
theorem d_L_kept_14 : decode b_L_kept 14 = .ok (.astore 5, 2) := by decide +kernel
theorem d_L_kept_16 : decode b_L_kept 16 = .ok (.iconst 1, 1) := by decide +kernel
theorem d_L_kept_17 : decode b_L_kept 17 = .ok (.ireturn, 1) := by decide +kernel
theorem d_L_kept_18 : decode b_L_kept 18 = .ok (.iconst 0, 1) := by decide +kernel
theorem d_L_kept_19 : decode b_L_kept 19 = .ok (.ireturn, 1) := by decide +kernel
theorem d_L_meet_0 : decode b_L_meet 0 = .ok (.aload 4, 2) := by decide +kernel
theorem d_L_meet_2 : decode b_L_meet 2 = .ok (.iconst 0, 1) := by decide +kernel
theorem d_L_meet_3 : decode b_L_meet 3 = .ok (.aload_n 0, 1) := by decide +kernel
theorem d_L_meet_4 : decode b_L_meet 4 = .ok (.iload_n 1, 1) := by decide +kernel
theorem d_L_meet_5 : decode b_L_meet 5 = .ok (.iload_n 2, 1) := by decide +kernel
theorem d_L_meet_6 : decode b_L_meet 6 = .ok (.iload_n 3, 1) := by decide +kernel
theorem d_L_meet_7 : decode b_L_meet 7 = .ok (.invokevirtual 30, 3) := by decide +kernel
theorem d_L_meet_10 : decode b_L_meet 10 = .ok (.i2l, 1) := by decide +kernel
theorem d_L_meet_11 : decode b_L_meet 11 = .ok (.lastore, 1) := by decide +kernel
theorem d_L_meet_12 : decode b_L_meet 12 = .ok (.goto 11, 3) := by decide +kernel
theorem d_L_meet_15 : decode b_L_meet 15 = .ok (.astore 5, 2) := by decide +kernel
theorem d_L_meet_17 : decode b_L_meet 17 = .ok (.iconst 1, 1) := by decide +kernel
theorem d_L_meet_18 : decode b_L_meet 18 = .ok (.ireturn, 1) := by decide +kernel
theorem d_L_meet_19 : decode b_L_meet 19 = .ok (.astore 5, 2) := by decide +kernel
theorem d_L_meet_21 : decode b_L_meet 21 = .ok (.iconst 2, 1) := by decide +kernel
theorem d_L_meet_22 : decode b_L_meet 22 = .ok (.ireturn, 1) := by decide +kernel
theorem d_L_meet_23 : decode b_L_meet 23 = .ok (.iconst 0, 1) := by decide +kernel
theorem d_L_meet_24 : decode b_L_meet 24 = .ok (.ireturn, 1) := by decide +kernel
theorem d_L_join_0 : decode b_L_join 0 = .ok (.aload 4, 2) := by decide +kernel
theorem d_L_join_2 : decode b_L_join 2 = .ok (.iconst 0, 1) := by decide +kernel
theorem d_L_join_3 : decode b_L_join 3 = .ok (.aload_n 0, 1) := by decide +kernel
theorem d_L_join_4 : decode b_L_join 4 = .ok (.iload_n 1, 1) := by decide +kernel
theorem d_L_join_5 : decode b_L_join 5 = .ok (.iload_n 2, 1) := by decide +kernel
theorem d_L_join_6 : decode b_L_join 6 = .ok (.iload_n 3, 1) := by decide +kernel
theorem d_L_join_7 : decode b_L_join 7 = .ok (.invokevirtual 34, 3) := by decide +kernel
theorem d_L_join_10 : decode b_L_join 10 = .ok (.i2l, 1) := by decide +kernel
theorem d_L_join_11 : decode b_L_join 11 = .ok (.lastore, 1) := by decide +kernel
theorem d_L_join_12 : decode b_L_join 12 = .ok (.goto 7, 3) := by decide +kernel
theorem d_L_join_15 : decode b_L_join 15 = .ok (.astore 5, 2) := by decide +kernel
theorem d_L_join_17 : decode b_L_join 17 = .ok (.iconst 1, 1) := by decide +kernel
theorem d_L_join_18 : decode b_L_join 18 = .ok (.ireturn, 1) := by decide +kernel
theorem d_L_join_19 : decode b_L_join 19 = .ok (.iconst 0, 1) := by decide +kernel
theorem d_L_join_20 : decode b_L_join 20 = .ok (.ireturn, 1) := by decide +kernel
theorem d_L_widen_0 : decode b_L_widen 0 = .ok (.aload 4, 2) := by decide +kernel
theorem d_L_widen_2 : decode b_L_widen 2 = .ok (.iconst 0, 1) := by decide +kernel
theorem d_L_widen_3 : decode b_L_widen 3 = .ok (.aload_n 0, 1) := by decide +kernel
theorem d_L_widen_4 : decode b_L_widen 4 = .ok (.iload_n 1, 1) := by decide +kernel
theorem d_L_widen_5 : decode b_L_widen 5 = .ok (.iload_n 2, 1) := by decide +kernel
theorem d_L_widen_6 : decode b_L_widen 6 = .ok (.iload_n 3, 1) := by decide +kernel
theorem d_L_widen_7 : decode b_L_widen 7 = .ok (.invokevirtual 37, 3) := by decide +kernel
theorem d_L_widen_10 : decode b_L_widen 10 = .ok (.i2l, 1) := by decide +kernel
theorem d_L_widen_11 : decode b_L_widen 11 = .ok (.lastore, 1) := by decide +kernel
theorem d_L_widen_12 : decode b_L_widen 12 = .ok (.goto 11, 3) := by decide +kernel
theorem d_L_widen_15 : decode b_L_widen 15 = .ok (.astore 5, 2) := by decide +kernel
theorem d_L_widen_17 : decode b_L_widen 17 = .ok (.iconst 1, 1) := by decide +kernel
theorem d_L_widen_18 : decode b_L_widen 18 = .ok (.ireturn, 1) := by decide +kernel
theorem d_L_widen_19 : decode b_L_widen 19 = .ok (.astore 5, 2) := by decide +kernel
theorem d_L_widen_21 : decode b_L_widen 21 = .ok (.iconst 2, 1) := by decide +kernel
theorem d_L_widen_22 : decode b_L_widen 22 = .ok (.ireturn, 1) := by decide +kernel
theorem d_L_widen_23 : decode b_L_widen 23 = .ok (.iconst 0, 1) := by decide +kernel
theorem d_L_widen_24 : decode b_L_widen 24 = .ok (.ireturn, 1) := by decide +kernel
theorem d_L_narrow_0 : decode b_L_narrow 0 = .ok (.aload 4, 2) := by decide +kernel
theorem d_L_narrow_2 : decode b_L_narrow 2 = .ok (.iconst 0, 1) := by decide +kernel
theorem d_L_narrow_3 : decode b_L_narrow 3 = .ok (.aload_n 0, 1) := by decide +kernel
theorem d_L_narrow_4 : decode b_L_narrow 4 = .ok (.iload_n 1, 1) := by decide +kernel
theorem d_L_narrow_5 : decode b_L_narrow 5 = .ok (.iload_n 2, 1) := by decide +kernel
theorem d_L_narrow_6 : decode b_L_narrow 6 = .ok (.iload_n 3, 1) := by decide +kernel
theorem d_L_narrow_7 : decode b_L_narrow 7 = .ok (.invokevirtual 40, 3) := by decide +kernel
theorem d_L_narrow_10 : decode b_L_narrow 10 = .ok (.i2l, 1) := by decide +kernel
theorem d_L_narrow_11 : decode b_L_narrow 11 = .ok (.lastore, 1) := by decide +kernel
theorem d_L_narrow_12 : decode b_L_narrow 12 = .ok (.goto 11, 3) := by decide +kernel
theorem d_L_narrow_15 : decode b_L_narrow 15 = .ok (.astore 5, 2) := by decide +kernel
theorem d_L_narrow_17 : decode b_L_narrow 17 = .ok (.iconst 1, 1) := by decide +kernel
theorem d_L_narrow_18 : decode b_L_narrow 18 = .ok (.ireturn, 1) := by decide +kernel
theorem d_L_narrow_19 : decode b_L_narrow 19 = .ok (.astore 5, 2) := by decide +kernel
theorem d_L_narrow_21 : decode b_L_narrow 21 = .ok (.iconst 2, 1) := by decide +kernel
theorem d_L_narrow_22 : decode b_L_narrow 22 = .ok (.ireturn, 1) := by decide +kernel
theorem d_L_narrow_23 : decode b_L_narrow 23 = .ok (.iconst 0, 1) := by decide +kernel
theorem d_L_narrow_24 : decode b_L_narrow 24 = .ok (.ireturn, 1) := by decide +kernel
theorem d_L_copy_0 : decode b_L_copy 0 = .ok (.aload_n 0, 1) := by decide +kernel
theorem d_L_copy_1 : decode b_L_copy 1 = .ok (.iload_n 1, 1) := by decide +kernel
theorem d_L_copy_2 : decode b_L_copy 2 = .ok (.iload_n 2, 1) := by decide +kernel
theorem d_L_copy_3 : decode b_L_copy 3 = .ok (.invokevirtual 43, 3) := by decide +kernel
theorem d_L_copy_6 : decode b_L_copy 6 = .ok (.goto 6, 3) := by decide +kernel
theorem d_L_copy_9 : decode b_L_copy 9 = .ok (.astore_n 3, 1) := by decide +kernel
theorem d_L_copy_10 : decode b_L_copy 10 = .ok (.iconst 1, 1) := by decide +kernel
theorem d_L_copy_11 : decode b_L_copy 11 = .ok (.ireturn, 1) := by decide +kernel
theorem d_L_copy_12 : decode b_L_copy 12 = .ok (.iconst 0, 1) := by decide +kernel
theorem d_L_copy_13 : decode b_L_copy 13 = .ok (.ireturn, 1) := by decide +kernel
theorem d_L_set_0 : decode b_L_set 0 = .ok (.aload 6, 2) := by decide +kernel
theorem d_L_set_2 : decode b_L_set 2 = .ok (.iconst 0, 1) := by decide +kernel
theorem d_L_set_3 : decode b_L_set 3 = .ok (.aload_n 0, 1) := by decide +kernel
theorem d_L_set_4 : decode b_L_set 4 = .ok (.iload_n 1, 1) := by decide +kernel
theorem d_L_set_5 : decode b_L_set 5 = .ok (.iload_n 2, 1) := by decide +kernel
theorem d_L_set_6 : decode b_L_set 6 = .ok (.iload_n 3, 1) := by decide +kernel
theorem d_L_set_7 : decode b_L_set 7 = .ok (.lload 4, 2) := by decide +kernel
theorem d_L_set_9 : decode b_L_set 9 = .ok (.invokevirtual 47, 3) := by decide +kernel
theorem d_L_set_12 : decode b_L_set 12 = .ok (.i2l, 1) := by decide +kernel
theorem d_L_set_13 : decode b_L_set 13 = .ok (.lastore, 1) := by decide +kernel
theorem d_L_set_14 : decode b_L_set 14 = .ok (.goto 15, 3) := by decide +kernel
theorem d_L_set_17 : decode b_L_set 17 = .ok (.astore 7, 2) := by decide +kernel
theorem d_L_set_19 : decode b_L_set 19 = .ok (.iconst 1, 1) := by decide +kernel
theorem d_L_set_20 : decode b_L_set 20 = .ok (.ireturn, 1) := by decide +kernel
theorem d_L_set_21 : decode b_L_set 21 = .ok (.astore 7, 2) := by decide +kernel
theorem d_L_set_23 : decode b_L_set 23 = .ok (.iconst 2, 1) := by decide +kernel
theorem d_L_set_24 : decode b_L_set 24 = .ok (.ireturn, 1) := by decide +kernel
theorem d_L_set_25 : decode b_L_set 25 = .ok (.astore 7, 2) := by decide +kernel
theorem d_L_set_27 : decode b_L_set 27 = .ok (.iconst 3, 1) := by decide +kernel
theorem d_L_set_28 : decode b_L_set 28 = .ok (.ireturn, 1) := by decide +kernel
theorem d_L_set_29 : decode b_L_set 29 = .ok (.iconst 0, 1) := by decide +kernel
theorem d_L_set_30 : decode b_L_set 30 = .ok (.ireturn, 1) := by decide +kernel
theorem d_L_forget_0 : decode b_L_forget 0 = .ok (.aload_n 3, 1) := by decide +kernel
theorem d_L_forget_1 : decode b_L_forget 1 = .ok (.iconst 0, 1) := by decide +kernel
theorem d_L_forget_2 : decode b_L_forget 2 = .ok (.aload_n 0, 1) := by decide +kernel
theorem d_L_forget_3 : decode b_L_forget 3 = .ok (.iload_n 1, 1) := by decide +kernel
theorem d_L_forget_4 : decode b_L_forget 4 = .ok (.iload_n 2, 1) := by decide +kernel
theorem d_L_forget_5 : decode b_L_forget 5 = .ok (.invokevirtual 50, 3) := by decide +kernel
theorem d_L_forget_8 : decode b_L_forget 8 = .ok (.i2l, 1) := by decide +kernel
theorem d_L_forget_9 : decode b_L_forget 9 = .ok (.lastore, 1) := by decide +kernel
theorem d_L_forget_10 : decode b_L_forget 10 = .ok (.goto 7, 3) := by decide +kernel
theorem d_L_forget_13 : decode b_L_forget 13 = .ok (.astore 4, 2) := by decide +kernel
theorem d_L_forget_15 : decode b_L_forget 15 = .ok (.iconst 1, 1) := by decide +kernel
theorem d_L_forget_16 : decode b_L_forget 16 = .ok (.ireturn, 1) := by decide +kernel
theorem d_L_forget_17 : decode b_L_forget 17 = .ok (.iconst 0, 1) := by decide +kernel
theorem d_L_forget_18 : decode b_L_forget 18 = .ok (.ireturn, 1) := by decide +kernel
theorem d_L_within_0 : decode b_L_within 0 = .ok (.aload_n 3, 1) := by decide +kernel
theorem d_L_within_1 : decode b_L_within 1 = .ok (.iconst 0, 1) := by decide +kernel
theorem d_L_within_2 : decode b_L_within 2 = .ok (.aload_n 0, 1) := by decide +kernel
theorem d_L_within_3 : decode b_L_within 3 = .ok (.iload_n 1, 1) := by decide +kernel
theorem d_L_within_4 : decode b_L_within 4 = .ok (.iload_n 2, 1) := by decide +kernel
theorem d_L_within_5 : decode b_L_within 5 = .ok (.invokevirtual 54, 3) := by decide +kernel
theorem d_L_within_8 : decode b_L_within 8 = .ok (.ifCond .eq 7, 3) := by decide +kernel
theorem d_L_within_11 : decode b_L_within 11 = .ok (.lconst 1, 1) := by decide +kernel
theorem d_L_within_12 : decode b_L_within 12 = .ok (.goto 4, 3) := by decide +kernel
theorem d_L_within_15 : decode b_L_within 15 = .ok (.lconst 0, 1) := by decide +kernel
theorem d_L_within_16 : decode b_L_within 16 = .ok (.lastore, 1) := by decide +kernel
theorem d_L_within_17 : decode b_L_within 17 = .ok (.goto 7, 3) := by decide +kernel
theorem d_L_within_20 : decode b_L_within 20 = .ok (.astore 4, 2) := by decide +kernel
theorem d_L_within_22 : decode b_L_within 22 = .ok (.iconst 1, 1) := by decide +kernel
theorem d_L_within_23 : decode b_L_within 23 = .ok (.ireturn, 1) := by decide +kernel
theorem d_L_within_24 : decode b_L_within 24 = .ok (.iconst 0, 1) := by decide +kernel
theorem d_L_within_25 : decode b_L_within 25 = .ok (.ireturn, 1) := by decide +kernel
theorem d_L_put_0 : decode b_L_put 0 = .ok (.aload 4, 2) := by decide +kernel
theorem d_L_put_2 : decode b_L_put 2 = .ok (.iconst 0, 1) := by decide +kernel
theorem d_L_put_3 : decode b_L_put 3 = .ok (.aload_n 0, 1) := by decide +kernel
theorem d_L_put_4 : decode b_L_put 4 = .ok (.iload_n 1, 1) := by decide +kernel
theorem d_L_put_5 : decode b_L_put 5 = .ok (.lload_n 2, 1) := by decide +kernel
theorem d_L_put_6 : decode b_L_put 6 = .ok (.invokevirtual 58, 3) := by decide +kernel
theorem d_L_put_9 : decode b_L_put 9 = .ok (.lastore, 1) := by decide +kernel
theorem d_L_put_10 : decode b_L_put 10 = .ok (.goto 11, 3) := by decide +kernel
theorem d_L_put_13 : decode b_L_put 13 = .ok (.astore 5, 2) := by decide +kernel
theorem d_L_put_15 : decode b_L_put 15 = .ok (.iconst 1, 1) := by decide +kernel
theorem d_L_put_16 : decode b_L_put 16 = .ok (.ireturn, 1) := by decide +kernel
theorem d_L_put_17 : decode b_L_put 17 = .ok (.astore 5, 2) := by decide +kernel
theorem d_L_put_19 : decode b_L_put 19 = .ok (.iconst 2, 1) := by decide +kernel
theorem d_L_put_20 : decode b_L_put 20 = .ok (.ireturn, 1) := by decide +kernel
theorem d_L_put_21 : decode b_L_put 21 = .ok (.iconst 0, 1) := by decide +kernel
theorem d_L_put_22 : decode b_L_put 22 = .ok (.ireturn, 1) := by decide +kernel
theorem d_L_point_0 : decode b_L_point 0 = .ok (.aload_n 2, 1) := by decide +kernel
theorem d_L_point_1 : decode b_L_point 1 = .ok (.iconst 0, 1) := by decide +kernel
theorem d_L_point_2 : decode b_L_point 2 = .ok (.aload_n 0, 1) := by decide +kernel
theorem d_L_point_3 : decode b_L_point 3 = .ok (.iload_n 1, 1) := by decide +kernel
theorem d_L_point_4 : decode b_L_point 4 = .ok (.invokevirtual 62, 3) := by decide +kernel
theorem d_L_point_7 : decode b_L_point 7 = .ok (.lastore, 1) := by decide +kernel
theorem d_L_point_8 : decode b_L_point 8 = .ok (.goto 6, 3) := by decide +kernel
theorem d_L_point_11 : decode b_L_point 11 = .ok (.astore_n 3, 1) := by decide +kernel
theorem d_L_point_12 : decode b_L_point 12 = .ok (.iconst 1, 1) := by decide +kernel
theorem d_L_point_13 : decode b_L_point 13 = .ok (.ireturn, 1) := by decide +kernel
theorem d_L_point_14 : decode b_L_point 14 = .ok (.iconst 0, 1) := by decide +kernel
theorem d_L_point_15 : decode b_L_point 15 = .ok (.ireturn, 1) := by decide +kernel
theorem d_L_has_0 : decode b_L_has 0 = .ok (.aload_n 2, 1) := by decide +kernel
theorem d_L_has_1 : decode b_L_has 1 = .ok (.iconst 0, 1) := by decide +kernel
theorem d_L_has_2 : decode b_L_has 2 = .ok (.aload_n 0, 1) := by decide +kernel
theorem d_L_has_3 : decode b_L_has 3 = .ok (.iload_n 1, 1) := by decide +kernel
theorem d_L_has_4 : decode b_L_has 4 = .ok (.invokevirtual 66, 3) := by decide +kernel
theorem d_L_has_7 : decode b_L_has 7 = .ok (.ifCond .eq 7, 3) := by decide +kernel
theorem d_L_has_10 : decode b_L_has 10 = .ok (.lconst 1, 1) := by decide +kernel
theorem d_L_has_11 : decode b_L_has 11 = .ok (.goto 4, 3) := by decide +kernel
theorem d_L_has_14 : decode b_L_has 14 = .ok (.lconst 0, 1) := by decide +kernel
theorem d_L_has_15 : decode b_L_has 15 = .ok (.lastore, 1) := by decide +kernel
theorem d_L_has_16 : decode b_L_has 16 = .ok (.goto 6, 3) := by decide +kernel
theorem d_L_has_19 : decode b_L_has 19 = .ok (.astore_n 3, 1) := by decide +kernel
theorem d_L_has_20 : decode b_L_has 20 = .ok (.iconst 1, 1) := by decide +kernel
theorem d_L_has_21 : decode b_L_has 21 = .ok (.ireturn, 1) := by decide +kernel
theorem d_L_has_22 : decode b_L_has 22 = .ok (.iconst 0, 1) := by decide +kernel
theorem d_L_has_23 : decode b_L_has 23 = .ok (.ireturn, 1) := by decide +kernel
theorem d_L_sample_0 : decode b_L_sample 0 = .ok (.aload_n 2, 1) := by decide +kernel
theorem d_L_sample_1 : decode b_L_sample 1 = .ok (.iconst 0, 1) := by decide +kernel
theorem d_L_sample_2 : decode b_L_sample 2 = .ok (.aload_n 0, 1) := by decide +kernel
theorem d_L_sample_3 : decode b_L_sample 3 = .ok (.iload_n 1, 1) := by decide +kernel
theorem d_L_sample_4 : decode b_L_sample 4 = .ok (.invokevirtual 70, 3) := by decide +kernel
theorem d_L_sample_7 : decode b_L_sample 7 = .ok (.ifCond .eq 7, 3) := by decide +kernel
theorem d_L_sample_10 : decode b_L_sample 10 = .ok (.lconst 1, 1) := by decide +kernel
theorem d_L_sample_11 : decode b_L_sample 11 = .ok (.goto 4, 3) := by decide +kernel
theorem d_L_sample_14 : decode b_L_sample 14 = .ok (.lconst 0, 1) := by decide +kernel
theorem d_L_sample_15 : decode b_L_sample 15 = .ok (.lastore, 1) := by decide +kernel
theorem d_L_sample_16 : decode b_L_sample 16 = .ok (.goto 6, 3) := by decide +kernel
theorem d_L_sample_19 : decode b_L_sample 19 = .ok (.astore_n 3, 1) := by decide +kernel
theorem d_L_sample_20 : decode b_L_sample 20 = .ok (.iconst 1, 1) := by decide +kernel
theorem d_L_sample_21 : decode b_L_sample 21 = .ok (.ireturn, 1) := by decide +kernel
theorem d_L_sample_22 : decode b_L_sample 22 = .ok (.iconst 0, 1) := by decide +kernel
theorem d_L_sample_23 : decode b_L_sample 23 = .ok (.ireturn, 1) := by decide +kernel
theorem d_L_needed_0 : decode b_L_needed 0 = .ok (.aload_n 2, 1) := by decide +kernel
theorem d_L_needed_1 : decode b_L_needed 1 = .ok (.iconst 0, 1) := by decide +kernel
theorem d_L_needed_2 : decode b_L_needed 2 = .ok (.aload_n 0, 1) := by decide +kernel
theorem d_L_needed_3 : decode b_L_needed 3 = .ok (.iload_n 1, 1) := by decide +kernel
theorem d_L_needed_4 : decode b_L_needed 4 = .ok (.invokevirtual 73, 3) := by decide +kernel
theorem d_L_needed_7 : decode b_L_needed 7 = .ok (.i2l, 1) := by decide +kernel
theorem d_L_needed_8 : decode b_L_needed 8 = .ok (.lastore, 1) := by decide +kernel
theorem d_L_needed_9 : decode b_L_needed 9 = .ok (.goto 6, 3) := by decide +kernel
theorem d_L_needed_12 : decode b_L_needed 12 = .ok (.astore_n 3, 1) := by decide +kernel
theorem d_L_needed_13 : decode b_L_needed 13 = .ok (.iconst 1, 1) := by decide +kernel
theorem d_L_needed_14 : decode b_L_needed 14 = .ok (.ireturn, 1) := by decide +kernel
theorem d_L_needed_15 : decode b_L_needed 15 = .ok (.iconst 0, 1) := by decide +kernel
theorem d_L_needed_16 : decode b_L_needed 16 = .ok (.ireturn, 1) := by decide +kernel
theorem d_L_needs_0 : decode b_L_needs 0 = .ok (.aload_n 3, 1) := by decide +kernel
theorem d_L_needs_1 : decode b_L_needs 1 = .ok (.iconst 0, 1) := by decide +kernel
theorem d_L_needs_2 : decode b_L_needs 2 = .ok (.aload_n 0, 1) := by decide +kernel
theorem d_L_needs_3 : decode b_L_needs 3 = .ok (.iload_n 1, 1) := by decide +kernel
theorem d_L_needs_4 : decode b_L_needs 4 = .ok (.iload_n 2, 1) := by decide +kernel
theorem d_L_needs_5 : decode b_L_needs 5 = .ok (.invokevirtual 77, 3) := by decide +kernel
theorem d_L_needs_8 : decode b_L_needs 8 = .ok (.lastore, 1) := by decide +kernel
theorem d_L_needs_9 : decode b_L_needs 9 = .ok (.goto 7, 3) := by decide +kernel
theorem d_L_needs_12 : decode b_L_needs 12 = .ok (.astore 4, 2) := by decide +kernel
theorem d_L_needs_14 : decode b_L_needs 14 = .ok (.iconst 1, 1) := by decide +kernel
theorem d_L_needs_15 : decode b_L_needs 15 = .ok (.ireturn, 1) := by decide +kernel
theorem d_L_needs_16 : decode b_L_needs 16 = .ok (.iconst 0, 1) := by decide +kernel
theorem d_L_needs_17 : decode b_L_needs 17 = .ok (.ireturn, 1) := by decide +kernel
theorem d_L_fits_0 : decode b_L_fits 0 = .ok (.aload 4, 2) := by decide +kernel
theorem d_L_fits_2 : decode b_L_fits 2 = .ok (.iconst 0, 1) := by decide +kernel
theorem d_L_fits_3 : decode b_L_fits 3 = .ok (.aload_n 0, 1) := by decide +kernel
theorem d_L_fits_4 : decode b_L_fits 4 = .ok (.iload_n 1, 1) := by decide +kernel
theorem d_L_fits_5 : decode b_L_fits 5 = .ok (.iload_n 2, 1) := by decide +kernel
theorem d_L_fits_6 : decode b_L_fits 6 = .ok (.iload_n 3, 1) := by decide +kernel
theorem d_L_fits_7 : decode b_L_fits 7 = .ok (.invokevirtual 81, 3) := by decide +kernel
theorem d_L_fits_10 : decode b_L_fits 10 = .ok (.ifCond .eq 7, 3) := by decide +kernel
theorem d_L_fits_13 : decode b_L_fits 13 = .ok (.lconst 1, 1) := by decide +kernel
theorem d_L_fits_14 : decode b_L_fits 14 = .ok (.goto 4, 3) := by decide +kernel
theorem d_L_fits_17 : decode b_L_fits 17 = .ok (.lconst 0, 1) := by decide +kernel
theorem d_L_fits_18 : decode b_L_fits 18 = .ok (.lastore, 1) := by decide +kernel
theorem d_L_fits_19 : decode b_L_fits 19 = .ok (.goto 11, 3) := by decide +kernel
theorem d_L_fits_22 : decode b_L_fits 22 = .ok (.astore 5, 2) := by decide +kernel
theorem d_L_fits_24 : decode b_L_fits 24 = .ok (.iconst 1, 1) := by decide +kernel
theorem d_L_fits_25 : decode b_L_fits 25 = .ok (.ireturn, 1) := by decide +kernel
theorem d_L_fits_26 : decode b_L_fits 26 = .ok (.astore 5, 2) := by decide +kernel
theorem d_L_fits_28 : decode b_L_fits 28 = .ok (.iconst 2, 1) := by decide +kernel
theorem d_L_fits_29 : decode b_L_fits 29 = .ok (.ireturn, 1) := by decide +kernel
theorem d_L_fits_30 : decode b_L_fits 30 = .ok (.iconst 0, 1) := by decide +kernel
theorem d_L_fits_31 : decode b_L_fits 31 = .ok (.ireturn, 1) := by decide +kernel
theorem d_L_array_0 : decode b_L_array 0 = .ok (.aload 4, 2) := by decide +kernel
theorem d_L_array_2 : decode b_L_array 2 = .ok (.iconst 0, 1) := by decide +kernel
theorem d_L_array_3 : decode b_L_array 3 = .ok (.aload_n 0, 1) := by decide +kernel
theorem d_L_array_4 : decode b_L_array 4 = .ok (.iload_n 1, 1) := by decide +kernel
theorem d_L_array_5 : decode b_L_array 5 = .ok (.iload_n 2, 1) := by decide +kernel
theorem d_L_array_6 : decode b_L_array 6 = .ok (.iload_n 3, 1) := by decide +kernel
theorem d_L_array_7 : decode b_L_array 7 = .ok (.invokevirtual 85, 3) := by decide +kernel
theorem d_L_array_10 : decode b_L_array 10 = .ok (.i2l, 1) := by decide +kernel
theorem d_L_array_11 : decode b_L_array 11 = .ok (.lastore, 1) := by decide +kernel
theorem d_L_array_12 : decode b_L_array 12 = .ok (.goto 7, 3) := by decide +kernel
theorem d_L_array_15 : decode b_L_array 15 = .ok (.astore 5, 2) := by decide +kernel
theorem d_L_array_17 : decode b_L_array 17 = .ok (.iconst 1, 1) := by decide +kernel
theorem d_L_array_18 : decode b_L_array 18 = .ok (.ireturn, 1) := by decide +kernel
theorem d_L_array_19 : decode b_L_array 19 = .ok (.iconst 0, 1) := by decide +kernel
theorem d_L_array_20 : decode b_L_array 20 = .ok (.ireturn, 1) := by decide +kernel
theorem d_L_told_0 : decode b_L_told 0 = .ok (.aload_n 2, 1) := by decide +kernel
theorem d_L_told_1 : decode b_L_told 1 = .ok (.iconst 0, 1) := by decide +kernel
theorem d_L_told_2 : decode b_L_told 2 = .ok (.aload_n 0, 1) := by decide +kernel
theorem d_L_told_3 : decode b_L_told 3 = .ok (.iload_n 1, 1) := by decide +kernel
theorem d_L_told_4 : decode b_L_told 4 = .ok (.invokevirtual 88, 3) := by decide +kernel
theorem d_L_told_7 : decode b_L_told 7 = .ok (.i2l, 1) := by decide +kernel
theorem d_L_told_8 : decode b_L_told 8 = .ok (.lastore, 1) := by decide +kernel
theorem d_L_told_9 : decode b_L_told 9 = .ok (.goto 6, 3) := by decide +kernel
theorem d_L_told_12 : decode b_L_told 12 = .ok (.astore_n 3, 1) := by decide +kernel
theorem d_L_told_13 : decode b_L_told 13 = .ok (.iconst 1, 1) := by decide +kernel
theorem d_L_told_14 : decode b_L_told 14 = .ok (.ireturn, 1) := by decide +kernel
theorem d_L_told_15 : decode b_L_told 15 = .ok (.iconst 0, 1) := by decide +kernel
theorem d_L_told_16 : decode b_L_told 16 = .ok (.ireturn, 1) := by decide +kernel
