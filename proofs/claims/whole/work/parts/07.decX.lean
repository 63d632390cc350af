theorem d_X_init_0 : decode b_X_init 0 = .ok (.aload_n 0, 1) := by decide +kernel
theorem d_X_init_1 : decode b_X_init 1 = .ok (.invokespecial 1, 3) := by decide +kernel
theorem d_X_init_4 : decode b_X_init 4 = .ok (.aload_n 0, 1) := by decide +kernel
theorem d_X_init_5 : decode b_X_init 5 = .ok (.iconst 1, 1) := by decide +kernel
theorem d_X_init_6 : decode b_X_init 6 = .ok (.iconst 5, 1) := by decide +kernel
theorem d_X_init_7 : decode b_X_init 7 = .ok (.iload_n 1, 1) := by decide +kernel
theorem d_X_init_8 : decode b_X_init 8 = .ok (.invokestatic 9, 3) := by decide +kernel
theorem d_X_init_11 : decode b_X_init 11 = .ok (.invokestatic 15, 3) := by decide +kernel
theorem d_X_init_14 : decode b_X_init 14 = .ok (.putfield 18, 3) := by decide +kernel
theorem d_X_init_17 : decode b_X_init 17 = .ok (.aload_n 0, 1) := by decide +kernel
theorem d_X_init_18 : decode b_X_init 18 = .ok (.iconst 2, 1) := by decide +kernel
theorem d_X_init_19 : decode b_X_init 19 = .ok (.aload_n 0, 1) := by decide +kernel
theorem d_X_init_20 : decode b_X_init 20 = .ok (.getfield 18, 3) := by decide +kernel
theorem d_X_init_23 : decode b_X_init 23 = .ok (.imul, 1) := by decide +kernel
theorem d_X_init_24 : decode b_X_init 24 = .ok (.putfield 22, 3) := by decide +kernel
theorem d_X_init_27 : decode b_X_init 27 = .ok (.aload_n 0, 1) := by decide +kernel
theorem d_X_init_28 : decode b_X_init 28 = .ok (.bipush 8, 2) := by decide +kernel
theorem d_X_init_30 : decode b_X_init 30 = .ok (.anewarray 25, 3) := by decide +kernel
theorem d_X_init_33 : decode b_X_init 33 = .ok (.putfield 27, 3) := by decide +kernel
theorem d_X_init_36 : decode b_X_init 36 = .ok (.iconst 0, 1) := by decide +kernel
theorem d_X_init_37 : decode b_X_init 37 = .ok (.istore_n 2, 1) := by decide +kernel
theorem d_X_init_38 : decode b_X_init 38 = .ok (.iload_n 2, 1) := by decide +kernel
theorem d_X_init_39 : decode b_X_init 39 = .ok (.bipush 8, 2) := by decide +kernel
theorem d_X_init_41 : decode b_X_init 41 = .ok (.if_icmp .ge 26, 3) := by decide +kernel
theorem d_X_init_44 : decode b_X_init 44 = .ok (.aload_n 0, 1) := by decide +kernel
theorem d_X_init_45 : decode b_X_init 45 = .ok (.getfield 27, 3) := by decide +kernel
theorem d_X_init_48 : decode b_X_init 48 = .ok (.iload_n 2, 1) := by decide +kernel
theorem d_X_init_49 : decode b_X_init 49 = .ok (.new 25, 3) := by decide +kernel
theorem d_X_init_52 : decode b_X_init 52 = .ok (.dup, 1) := by decide +kernel
theorem d_X_init_53 : decode b_X_init 53 = .ok (.aload_n 0, 1) := by decide +kernel
theorem d_X_init_54 : decode b_X_init 54 = .ok (.getfield 22, 3) := by decide +kernel
theorem d_X_init_57 : decode b_X_init 57 = .ok (.invokespecial 31, 3) := by decide +kernel
theorem d_X_init_60 : decode b_X_init 60 = .ok (.aastore, 1) := by decide +kernel
theorem d_X_init_61 : decode b_X_init 61 = .ok (.iinc 2 1, 3) := by decide +kernel
theorem d_X_init_64 : decode b_X_init 64 = .ok (.goto (-26), 3) := by decide +kernel
theorem d_X_init_67 : decode b_X_init 67 = .ok (.aload_n 0, 1) := by decide +kernel
theorem d_X_init_68 : decode b_X_init 68 = .ok (.new 25, 3) := by decide +kernel
theorem d_X_init_71 : decode b_X_init 71 = .ok (.dup, 1) := by decide +kernel
theorem d_X_init_72 : decode b_X_init 72 = .ok (.aload_n 0, 1) := by decide +kernel
theorem d_X_init_73 : decode b_X_init 73 = .ok (.getfield 22, 3) := by decide +kernel
theorem d_X_init_76 : decode b_X_init 76 = .ok (.invokespecial 31, 3) := by decide +kernel
theorem d_X_init_79 : decode b_X_init 79 = .ok (.putfield 34, 3) := by decide +kernel
theorem d_X_init_82 : decode b_X_init 82 = .ok (.aload_n 0, 1) := by decide +kernel
theorem d_X_init_83 : decode b_X_init 83 = .ok (.new 38, 3) := by decide +kernel
theorem d_X_init_86 : decode b_X_init 86 = .ok (.dup, 1) := by decide +kernel
theorem d_X_init_87 : decode b_X_init 87 = .ok (.aload_n 0, 1) := by decide +kernel
theorem d_X_init_88 : decode b_X_init 88 = .ok (.getfield 22, 3) := by decide +kernel
theorem d_X_init_91 : decode b_X_init 91 = .ok (.invokespecial 40, 3) := by decide +kernel
theorem d_X_init_94 : decode b_X_init 94 = .ok (.putfield 41, 3) := by decide +kernel
theorem d_X_init_97 : decode b_X_init 97 = .ok (.aload_n 0, 1) := by decide +kernel
theorem d_X_init_98 : decode b_X_init 98 = .ok (.new 38, 3) := by decide +kernel
theorem d_X_init_101 : decode b_X_init 101 = .ok (.dup, 1) := by decide +kernel
theorem d_X_init_102 : decode b_X_init 102 = .ok (.aload_n 0, 1) := by decide +kernel
theorem d_X_init_103 : decode b_X_init 103 = .ok (.getfield 22, 3) := by decide +kernel
theorem d_X_init_106 : decode b_X_init 106 = .ok (.invokespecial 40, 3) := by decide +kernel
theorem d_X_init_109 : decode b_X_init 109 = .ok (.putfield 45, 3) := by decide +kernel
theorem d_X_init_112 : decode b_X_init 112 = .ok (.aload_n 0, 1) := by decide +kernel
theorem d_X_init_113 : decode b_X_init 113 = .ok (.aload_n 0, 1) := by decide +kernel
theorem d_X_init_114 : decode b_X_init 114 = .ok (.getfield 18, 3) := by decide +kernel
theorem d_X_init_117 : decode b_X_init 117 = .ok (.newarray .long, 2) := by decide +kernel
theorem d_X_init_119 : decode b_X_init 119 = .ok (.putfield 48, 3) := by decide +kernel
theorem d_X_init_122 : decode b_X_init 122 = .ok (.aload_n 0, 1) := by decide +kernel
theorem d_X_init_123 : decode b_X_init 123 = .ok (.iconst 3, 1) := by decide +kernel
theorem d_X_init_124 : decode b_X_init 124 = .ok (.aload_n 0, 1) := by decide +kernel
theorem d_X_init_125 : decode b_X_init 125 = .ok (.getfield 22, 3) := by decide +kernel
theorem d_X_init_128 : decode b_X_init 128 = .ok (.imul, 1) := by decide +kernel
theorem d_X_init_129 : decode b_X_init 129 = .ok (.aload_n 0, 1) := by decide +kernel
theorem d_X_init_130 : decode b_X_init 130 = .ok (.getfield 22, 3) := by decide +kernel
theorem d_X_init_133 : decode b_X_init 133 = .ok (.imul, 1) := by decide +kernel
theorem d_X_init_134 : decode b_X_init 134 = .ok (.iconst 2, 1) := by decide +kernel
theorem d_X_init_135 : decode b_X_init 135 = .ok (.idiv, 1) := by decide +kernel
theorem d_X_init_136 : decode b_X_init 136 = .ok (.newarray .long, 2) := by decide +kernel
theorem d_X_init_138 : decode b_X_init 138 = .ok (.putfield 52, 3) := by decide +kernel
theorem d_X_init_141 : decode b_X_init 141 = .ok (.aload_n 0, 1) := by decide +kernel
theorem d_X_init_142 : decode b_X_init 142 = .ok (.iconst 0, 1) := by decide +kernel
theorem d_X_init_143 : decode b_X_init 143 = .ok (.putfield 55, 3) := by decide +kernel
theorem d_X_init_146 : decode b_X_init 146 = .ok (.return_, 1) := by decide +kernel
theorem d_X_all_0 : decode b_X_all 0 = .ok (.iload_n 1, 1) := by decide +kernel
theorem d_X_all_1 : decode b_X_all 1 = .ok (.invokestatic 58, 3) := by decide +kernel
theorem d_X_all_4 : decode b_X_all 4 = .ok (.aload_n 0, 1) := by decide +kernel
theorem d_X_all_5 : decode b_X_all 5 = .ok (.getfield 27, 3) := by decide +kernel
theorem d_X_all_8 : decode b_X_all 8 = .ok (.iload_n 1, 1) := by decide +kernel
theorem d_X_all_9 : decode b_X_all 9 = .ok (.aaload, 1) := by decide +kernel
theorem d_X_all_10 : decode b_X_all 10 = .ok (.invokevirtual 61, 3) := by decide +kernel
theorem d_X_all_13 : decode b_X_all 13 = .ok (.return_, 1) := by decide +kernel
theorem d_X_row_0 : decode b_X_row 0 = .ok (.iload_n 1, 1) := by decide +kernel
theorem d_X_row_1 : decode b_X_row 1 = .ok (.invokestatic 58, 3) := by decide +kernel
theorem d_X_row_4 : decode b_X_row 4 = .ok (.aload_n 0, 1) := by decide +kernel
theorem d_X_row_5 : decode b_X_row 5 = .ok (.iload_n 2, 1) := by decide +kernel
theorem d_X_row_6 : decode b_X_row 6 = .ok (.invokevirtual 64, 3) := by decide +kernel
theorem d_X_row_9 : decode b_X_row 9 = .ok (.aload_n 0, 1) := by decide +kernel
theorem d_X_row_10 : decode b_X_row 10 = .ok (.iload_n 3, 1) := by decide +kernel
theorem d_X_row_11 : decode b_X_row 11 = .ok (.invokevirtual 64, 3) := by decide +kernel
theorem d_X_row_14 : decode b_X_row 14 = .ok (.lload 4, 2) := by decide +kernel
theorem d_X_row_16 : decode b_X_row 16 = .ok (.invokestatic 67, 3) := by decide +kernel
theorem d_X_row_19 : decode b_X_row 19 = .ok (.aload_n 0, 1) := by decide +kernel
theorem d_X_row_20 : decode b_X_row 20 = .ok (.getfield 34, 3) := by decide +kernel
theorem d_X_row_23 : decode b_X_row 23 = .ok (.aload_n 0, 1) := by decide +kernel
theorem d_X_row_24 : decode b_X_row 24 = .ok (.getfield 27, 3) := by decide +kernel
theorem d_X_row_27 : decode b_X_row 27 = .ok (.iload_n 1, 1) := by decide +kernel
theorem d_X_row_28 : decode b_X_row 28 = .ok (.aaload, 1) := by decide +kernel
theorem d_X_row_29 : decode b_X_row 29 = .ok (.invokevirtual 71, 3) := by decide +kernel
theorem d_X_row_32 : decode b_X_row 32 = .ok (.aload_n 0, 1) := by decide +kernel
theorem d_X_row_33 : decode b_X_row 33 = .ok (.getfield 34, 3) := by decide +kernel
theorem d_X_row_36 : decode b_X_row 36 = .ok (.iload_n 2, 1) := by decide +kernel
theorem d_X_row_37 : decode b_X_row 37 = .ok (.iload_n 3, 1) := by decide +kernel
theorem d_X_row_38 : decode b_X_row 38 = .ok (.lload 4, 2) := by decide +kernel
theorem d_X_row_40 : decode b_X_row 40 = .ok (.invokevirtual 75, 3) := by decide +kernel
theorem d_X_row_43 : decode b_X_row 43 = .ok (.aload_n 0, 1) := by decide +kernel
theorem d_X_row_44 : decode b_X_row 44 = .ok (.iload_n 1, 1) := by decide +kernel
theorem d_X_row_45 : decode b_X_row 45 = .ok (.invokevirtual 79, 3) := by decide +kernel
theorem d_X_row_48 : decode b_X_row 48 = .ok (.ireturn, 1) := by decide +kernel
theorem d_X_bound_0 : decode b_X_bound 0 = .ok (.iload_n 1, 1) := by decide +kernel
theorem d_X_bound_1 : decode b_X_bound 1 = .ok (.invokestatic 58, 3) := by decide +kernel
theorem d_X_bound_4 : decode b_X_bound 4 = .ok (.aload_n 0, 1) := by decide +kernel
theorem d_X_bound_5 : decode b_X_bound 5 = .ok (.iload_n 2, 1) := by decide +kernel
theorem d_X_bound_6 : decode b_X_bound 6 = .ok (.invokevirtual 64, 3) := by decide +kernel
theorem d_X_bound_9 : decode b_X_bound 9 = .ok (.aload_n 0, 1) := by decide +kernel
theorem d_X_bound_10 : decode b_X_bound 10 = .ok (.iload_n 3, 1) := by decide +kernel
theorem d_X_bound_11 : decode b_X_bound 11 = .ok (.invokevirtual 64, 3) := by decide +kernel
theorem d_X_bound_14 : decode b_X_bound 14 = .ok (.aload_n 0, 1) := by decide +kernel
theorem d_X_bound_15 : decode b_X_bound 15 = .ok (.getfield 27, 3) := by decide +kernel
theorem d_X_bound_18 : decode b_X_bound 18 = .ok (.iload_n 1, 1) := by decide +kernel
theorem d_X_bound_19 : decode b_X_bound 19 = .ok (.aaload, 1) := by decide +kernel
theorem d_X_bound_20 : decode b_X_bound 20 = .ok (.iload_n 2, 1) := by decide +kernel
theorem d_X_bound_21 : decode b_X_bound 21 = .ok (.iload_n 3, 1) := by decide +kernel
theorem d_X_bound_22 : decode b_X_bound 22 = .ok (.invokevirtual 83, 3) := by decide +kernel
theorem d_X_bound_25 : decode b_X_bound 25 = .ok (.lreturn, 1) := by decide +kernel
theorem d_X_kept_0 : decode b_X_kept 0 = .ok (.iload_n 1, 1) := by decide +kernel
theorem d_X_kept_1 : decode b_X_kept 1 = .ok (.invokestatic 58, 3) := by decide +kernel
theorem d_X_kept_4 : decode b_X_kept 4 = .ok (.aload_n 0, 1) := by decide +kernel
theorem d_X_kept_5 : decode b_X_kept 5 = .ok (.iload_n 2, 1) := by decide +kernel
theorem d_X_kept_6 : decode b_X_kept 6 = .ok (.invokevirtual 64, 3) := by decide +kernel
theorem d_X_kept_9 : decode b_X_kept 9 = .ok (.aload_n 0, 1) := by decide +kernel
theorem d_X_kept_10 : decode b_X_kept 10 = .ok (.iload_n 3, 1) := by decide +kernel
theorem d_X_kept_11 : decode b_X_kept 11 = .ok (.invokevirtual 64, 3) := by decide +kernel
theorem d_X_kept_14 : decode b_X_kept 14 = .ok (.iload_n 2, 1) := by decide +kernel
theorem d_X_kept_15 : decode b_X_kept 15 = .ok (.iload_n 3, 1) := by decide +kernel
theorem d_X_kept_16 : decode b_X_kept 16 = .ok (.if_icmp .eq 9, 3) := by decide +kernel
theorem d_X_kept_19 : decode b_X_kept 19 = .ok (.iload_n 2, 1) := by decide +kernel
theorem d_X_kept_20 : decode b_X_kept 20 = .ok (.iload_n 3, 1) := by decide +kernel
theorem d_X_kept_21 : decode b_X_kept 21 = .ok (.ineg, 1) := by decide +kernel
theorem d_X_kept_22 : decode b_X_kept 22 = .ok (.if_icmp .ne 7, 3) := by decide +kernel
theorem d_X_kept_25 : decode b_X_kept 25 = .ok (.ldc2_w 87, 3) := by decide +kernel
theorem d_X_kept_28 : decode b_X_kept 28 = .ok (.lreturn, 1) := by decide +kernel
theorem d_X_kept_29 : decode b_X_kept 29 = .ok (.aload_n 0, 1) := by decide +kernel
theorem d_X_kept_30 : decode b_X_kept 30 = .ok (.getfield 27, 3) := by decide +kernel
theorem d_X_kept_33 : decode b_X_kept 33 = .ok (.iload_n 1, 1) := by decide +kernel
theorem d_X_kept_34 : decode b_X_kept 34 = .ok (.aaload, 1) := by decide +kernel
theorem d_X_kept_35 : decode b_X_kept 35 = .ok (.getfield 89, 3) := by decide +kernel
theorem d_X_kept_38 : decode b_X_kept 38 = .ok (.iload_n 2, 1) := by decide +kernel
theorem d_X_kept_39 : decode b_X_kept 39 = .ok (.iload_n 3, 1) := by decide +kernel
theorem d_X_kept_40 : decode b_X_kept 40 = .ok (.invokevirtual 92, 3) := by decide +kernel
theorem d_X_kept_43 : decode b_X_kept 43 = .ok (.lreturn, 1) := by decide +kernel
theorem d_X_meet_0 : decode b_X_meet 0 = .ok (.iload_n 1, 1) := by decide +kernel
theorem d_X_meet_1 : decode b_X_meet 1 = .ok (.iload_n 2, 1) := by decide +kernel
theorem d_X_meet_2 : decode b_X_meet 2 = .ok (.iload_n 3, 1) := by decide +kernel
theorem d_X_meet_3 : decode b_X_meet 3 = .ok (.invokestatic 95, 3) := by decide +kernel
theorem d_X_meet_6 : decode b_X_meet 6 = .ok (.aload_n 0, 1) := by decide +kernel
theorem d_X_meet_7 : decode b_X_meet 7 = .ok (.getfield 34, 3) := by decide +kernel
theorem d_X_meet_10 : decode b_X_meet 10 = .ok (.aload_n 0, 1) := by decide +kernel
theorem d_X_meet_11 : decode b_X_meet 11 = .ok (.getfield 27, 3) := by decide +kernel
theorem d_X_meet_14 : decode b_X_meet 14 = .ok (.iload_n 2, 1) := by decide +kernel
theorem d_X_meet_15 : decode b_X_meet 15 = .ok (.aaload, 1) := by decide +kernel
theorem d_X_meet_16 : decode b_X_meet 16 = .ok (.aload_n 0, 1) := by decide +kernel
theorem d_X_meet_17 : decode b_X_meet 17 = .ok (.getfield 27, 3) := by decide +kernel
theorem d_X_meet_20 : decode b_X_meet 20 = .ok (.iload_n 3, 1) := by decide +kernel
theorem d_X_meet_21 : decode b_X_meet 21 = .ok (.aaload, 1) := by decide +kernel
theorem d_X_meet_22 : decode b_X_meet 22 = .ok (.invokevirtual 99, 3) := by decide +kernel
theorem d_X_meet_25 : decode b_X_meet 25 = .ok (.aload_n 0, 1) := by decide +kernel
theorem d_X_meet_26 : decode b_X_meet 26 = .ok (.iload_n 1, 1) := by decide +kernel
theorem d_X_meet_27 : decode b_X_meet 27 = .ok (.invokevirtual 79, 3) := by decide +kernel
theorem d_X_meet_30 : decode b_X_meet 30 = .ok (.ireturn, 1) := by decide +kernel
theorem d_X_join_0 : decode b_X_join 0 = .ok (.iload_n 1, 1) := by decide +kernel
theorem d_X_join_1 : decode b_X_join 1 = .ok (.iload_n 2, 1) := by decide +kernel
theorem d_X_join_2 : decode b_X_join 2 = .ok (.iload_n 3, 1) := by decide +kernel
theorem d_X_join_3 : decode b_X_join 3 = .ok (.invokestatic 95, 3) := by decide +kernel
theorem d_X_join_6 : decode b_X_join 6 = .ok (.aload_n 0, 1) := by decide +kernel
theorem d_X_join_7 : decode b_X_join 7 = .ok (.getfield 34, 3) := by decide +kernel
theorem d_X_join_10 : decode b_X_join 10 = .ok (.aload_n 0, 1) := by decide +kernel
theorem d_X_join_11 : decode b_X_join 11 = .ok (.getfield 27, 3) := by decide +kernel
theorem d_X_join_14 : decode b_X_join 14 = .ok (.iload_n 2, 1) := by decide +kernel
theorem d_X_join_15 : decode b_X_join 15 = .ok (.aaload, 1) := by decide +kernel
theorem d_X_join_16 : decode b_X_join 16 = .ok (.aload_n 0, 1) := by decide +kernel
theorem d_X_join_17 : decode b_X_join 17 = .ok (.getfield 27, 3) := by decide +kernel
theorem d_X_join_20 : decode b_X_join 20 = .ok (.iload_n 3, 1) := by decide +kernel
theorem d_X_join_21 : decode b_X_join 21 = .ok (.aaload, 1) := by decide +kernel
theorem d_X_join_22 : decode b_X_join 22 = .ok (.invokevirtual 103, 3) := by decide +kernel
theorem d_X_join_25 : decode b_X_join 25 = .ok (.aload_n 0, 1) := by decide +kernel
theorem d_X_join_26 : decode b_X_join 26 = .ok (.iload_n 1, 1) := by decide +kernel
theorem d_X_join_27 : decode b_X_join 27 = .ok (.invokevirtual 79, 3) := by decide +kernel
theorem d_X_join_30 : decode b_X_join 30 = .ok (.ireturn, 1) := by decide +kernel
theorem d_X_widen_0 : decode b_X_widen 0 = .ok (.iload_n 1, 1) := by decide +kernel
theorem d_X_widen_1 : decode b_X_widen 1 = .ok (.iload_n 2, 1) := by decide +kernel
theorem d_X_widen_2 : decode b_X_widen 2 = .ok (.iload_n 3, 1) := by decide +kernel
theorem d_X_widen_3 : decode b_X_widen 3 = .ok (.invokestatic 95, 3) := by decide +kernel
theorem d_X_widen_6 : decode b_X_widen 6 = .ok (.aload_n 0, 1) := by decide +kernel
theorem d_X_widen_7 : decode b_X_widen 7 = .ok (.getfield 34, 3) := by decide +kernel
theorem d_X_widen_10 : decode b_X_widen 10 = .ok (.aload_n 0, 1) := by decide +kernel
theorem d_X_widen_11 : decode b_X_widen 11 = .ok (.getfield 27, 3) := by decide +kernel
theorem d_X_widen_14 : decode b_X_widen 14 = .ok (.iload_n 2, 1) := by decide +kernel
theorem d_X_widen_15 : decode b_X_widen 15 = .ok (.aaload, 1) := by decide +kernel
theorem d_X_widen_16 : decode b_X_widen 16 = .ok (.aload_n 0, 1) := by decide +kernel
theorem d_X_widen_17 : decode b_X_widen 17 = .ok (.getfield 27, 3) := by decide +kernel
theorem d_X_widen_20 : decode b_X_widen 20 = .ok (.iload_n 3, 1) := by decide +kernel
theorem d_X_widen_21 : decode b_X_widen 21 = .ok (.aaload, 1) := by decide +kernel
theorem d_X_widen_22 : decode b_X_widen 22 = .ok (.invokevirtual 106, 3) := by decide +kernel
theorem d_X_widen_25 : decode b_X_widen 25 = .ok (.aload_n 0, 1) := by decide +kernel
theorem d_X_widen_26 : decode b_X_widen 26 = .ok (.iload_n 1, 1) := by decide +kernel
theorem d_X_widen_27 : decode b_X_widen 27 = .ok (.invokevirtual 79, 3) := by decide +kernel
theorem d_X_widen_30 : decode b_X_widen 30 = .ok (.ireturn, 1) := by decide +kernel
theorem d_X_narrow_0 : decode b_X_narrow 0 = .ok (.iload_n 1, 1) := by decide +kernel
theorem d_X_narrow_1 : decode b_X_narrow 1 = .ok (.iload_n 2, 1) := by decide +kernel
theorem d_X_narrow_2 : decode b_X_narrow 2 = .ok (.iload_n 3, 1) := by decide +kernel
theorem d_X_narrow_3 : decode b_X_narrow 3 = .ok (.invokestatic 95, 3) := by decide +kernel
theorem d_X_narrow_6 : decode b_X_narrow 6 = .ok (.aload_n 0, 1) := by decide +kernel
theorem d_X_narrow_7 : decode b_X_narrow 7 = .ok (.getfield 34, 3) := by decide +kernel
theorem d_X_narrow_10 : decode b_X_narrow 10 = .ok (.aload_n 0, 1) := by decide +kernel
theorem d_X_narrow_11 : decode b_X_narrow 11 = .ok (.getfield 27, 3) := by decide +kernel
theorem d_X_narrow_14 : decode b_X_narrow 14 = .ok (.iload_n 2, 1) := by decide +kernel
theorem d_X_narrow_15 : decode b_X_narrow 15 = .ok (.aaload, 1) := by decide +kernel
theorem d_X_narrow_16 : decode b_X_narrow 16 = .ok (.aload_n 0, 1) := by decide +kernel
theorem d_X_narrow_17 : decode b_X_narrow 17 = .ok (.getfield 27, 3) := by decide +kernel
theorem d_X_narrow_20 : decode b_X_narrow 20 = .ok (.iload_n 3, 1) := by decide +kernel
theorem d_X_narrow_21 : decode b_X_narrow 21 = .ok (.aaload, 1) := by decide +kernel
theorem d_X_narrow_22 : decode b_X_narrow 22 = .ok (.invokevirtual 109, 3) := by decide +kernel
theorem d_X_narrow_25 : decode b_X_narrow 25 = .ok (.aload_n 0, 1) := by decide +kernel
theorem d_X_narrow_26 : decode b_X_narrow 26 = .ok (.iload_n 1, 1) := by decide +kernel
theorem d_X_narrow_27 : decode b_X_narrow 27 = .ok (.invokevirtual 79, 3) := by decide +kernel
theorem d_X_narrow_30 : decode b_X_narrow 30 = .ok (.ireturn, 1) := by decide +kernel
theorem d_X_copy_0 : decode b_X_copy 0 = .ok (.iload_n 1, 1) := by decide +kernel
theorem d_X_copy_1 : decode b_X_copy 1 = .ok (.invokestatic 58, 3) := by decide +kernel
theorem d_X_copy_4 : decode b_X_copy 4 = .ok (.iload_n 2, 1) := by decide +kernel
theorem d_X_copy_5 : decode b_X_copy 5 = .ok (.invokestatic 58, 3) := by decide +kernel
theorem d_X_copy_8 : decode b_X_copy 8 = .ok (.aload_n 0, 1) := by decide +kernel
theorem d_X_copy_9 : decode b_X_copy 9 = .ok (.getfield 27, 3) := by decide +kernel
theorem d_X_copy_12 : decode b_X_copy 12 = .ok (.iload_n 1, 1) := by decide +kernel
theorem d_X_copy_13 : decode b_X_copy 13 = .ok (.aaload, 1) := by decide +kernel
theorem d_X_copy_14 : decode b_X_copy 14 = .ok (.aload_n 0, 1) := by decide +kernel
theorem d_X_copy_15 : decode b_X_copy 15 = .ok (.getfield 27, 3) := by decide +kernel
theorem d_X_copy_18 : decode b_X_copy 18 = .ok (.iload_n 2, 1) := by decide +kernel
theorem d_X_copy_19 : decode b_X_copy 19 = .ok (.aaload, 1) := by decide +kernel
theorem d_X_copy_20 : decode b_X_copy 20 = .ok (.invokevirtual 71, 3) := by decide +kernel
theorem d_X_copy_23 : decode b_X_copy 23 = .ok (.return_, 1) := by decide +kernel
theorem d_X_set_0 : decode b_X_set 0 = .ok (.iload_n 1, 1) := by decide +kernel
theorem d_X_set_1 : decode b_X_set 1 = .ok (.invokestatic 58, 3) := by decide +kernel
theorem d_X_set_4 : decode b_X_set 4 = .ok (.aload_n 0, 1) := by decide +kernel
theorem d_X_set_5 : decode b_X_set 5 = .ok (.iload_n 2, 1) := by decide +kernel
theorem d_X_set_6 : decode b_X_set 6 = .ok (.invokevirtual 112, 3) := by decide +kernel
theorem d_X_set_9 : decode b_X_set 9 = .ok (.aload_n 0, 1) := by decide +kernel
theorem d_X_set_10 : decode b_X_set 10 = .ok (.iload_n 3, 1) := by decide +kernel
theorem d_X_set_11 : decode b_X_set 11 = .ok (.invokevirtual 64, 3) := by decide +kernel
theorem d_X_set_14 : decode b_X_set 14 = .ok (.lload 4, 2) := by decide +kernel
theorem d_X_set_16 : decode b_X_set 16 = .ok (.invokestatic 67, 3) := by decide +kernel
theorem d_X_set_19 : decode b_X_set 19 = .ok (.aload_n 0, 1) := by decide +kernel
theorem d_X_set_20 : decode b_X_set 20 = .ok (.getfield 34, 3) := by decide +kernel
theorem d_X_set_23 : decode b_X_set 23 = .ok (.aload_n 0, 1) := by decide +kernel
theorem d_X_set_24 : decode b_X_set 24 = .ok (.getfield 27, 3) := by decide +kernel
theorem d_X_set_27 : decode b_X_set 27 = .ok (.iload_n 1, 1) := by decide +kernel
theorem d_X_set_28 : decode b_X_set 28 = .ok (.aaload, 1) := by decide +kernel
theorem d_X_set_29 : decode b_X_set 29 = .ok (.iload_n 2, 1) := by decide +kernel
theorem d_X_set_30 : decode b_X_set 30 = .ok (.iload_n 3, 1) := by decide +kernel
theorem d_X_set_31 : decode b_X_set 31 = .ok (.lload 4, 2) := by decide +kernel
theorem d_X_set_33 : decode b_X_set 33 = .ok (.invokevirtual 115, 3) := by decide +kernel
theorem d_X_set_36 : decode b_X_set 36 = .ok (.aload_n 0, 1) := by decide +kernel
theorem d_X_set_37 : decode b_X_set 37 = .ok (.iload_n 1, 1) := by decide +kernel
theorem d_X_set_38 : decode b_X_set 38 = .ok (.invokevirtual 79, 3) := by decide +kernel
theorem d_X_set_41 : decode b_X_set 41 = .ok (.ireturn, 1) := by decide +kernel
theorem d_X_forget_0 : decode b_X_forget 0 = .ok (.iload_n 1, 1) := by decide +kernel
theorem d_X_forget_1 : decode b_X_forget 1 = .ok (.invokestatic 58, 3) := by decide +kernel
theorem d_X_forget_4 : decode b_X_forget 4 = .ok (.aload_n 0, 1) := by decide +kernel
theorem d_X_forget_5 : decode b_X_forget 5 = .ok (.iload_n 2, 1) := by decide +kernel
theorem d_X_forget_6 : decode b_X_forget 6 = .ok (.invokevirtual 112, 3) := by decide +kernel
theorem d_X_forget_9 : decode b_X_forget 9 = .ok (.aload_n 0, 1) := by decide +kernel
theorem d_X_forget_10 : decode b_X_forget 10 = .ok (.getfield 34, 3) := by decide +kernel
theorem d_X_forget_13 : decode b_X_forget 13 = .ok (.aload_n 0, 1) := by decide +kernel
theorem d_X_forget_14 : decode b_X_forget 14 = .ok (.getfield 27, 3) := by decide +kernel
theorem d_X_forget_17 : decode b_X_forget 17 = .ok (.iload_n 1, 1) := by decide +kernel
theorem d_X_forget_18 : decode b_X_forget 18 = .ok (.aaload, 1) := by decide +kernel
theorem d_X_forget_19 : decode b_X_forget 19 = .ok (.iload_n 2, 1) := by decide +kernel
theorem d_X_forget_20 : decode b_X_forget 20 = .ok (.invokevirtual 119, 3) := by decide +kernel
theorem d_X_forget_23 : decode b_X_forget 23 = .ok (.aload_n 0, 1) := by decide +kernel
theorem d_X_forget_24 : decode b_X_forget 24 = .ok (.iload_n 1, 1) := by decide +kernel
theorem d_X_forget_25 : decode b_X_forget 25 = .ok (.invokevirtual 79, 3) := by decide +kernel
theorem d_X_forget_28 : decode b_X_forget 28 = .ok (.ireturn, 1) := by decide +kernel
theorem d_X_within_0 : decode b_X_within 0 = .ok (.iload_n 1, 1) := by decide +kernel
theorem d_X_within_1 : decode b_X_within 1 = .ok (.invokestatic 58, 3) := by decide +kernel
theorem d_X_within_4 : decode b_X_within 4 = .ok (.iload_n 2, 1) := by decide +kernel
theorem d_X_within_5 : decode b_X_within 5 = .ok (.invokestatic 58, 3) := by decide +kernel
theorem d_X_within_8 : decode b_X_within 8 = .ok (.aload_n 0, 1) := by decide +kernel
theorem d_X_within_9 : decode b_X_within 9 = .ok (.getfield 27, 3) := by decide +kernel
theorem d_X_within_12 : decode b_X_within 12 = .ok (.iload_n 1, 1) := by decide +kernel
theorem d_X_within_13 : decode b_X_within 13 = .ok (.aaload, 1) := by decide +kernel
theorem d_X_within_14 : decode b_X_within 14 = .ok (.getfield 123, 3) := by decide +kernel
theorem d_X_within_17 : decode b_X_within 17 = .ok (.ifCond .eq 5, 3) := by decide +kernel
theorem d_X_within_20 : decode b_X_within 20 = .ok (.iconst 1, 1) := by decide +kernel
theorem d_X_within_21 : decode b_X_within 21 = .ok (.ireturn, 1) := by decide +kernel
theorem d_X_within_22 : decode b_X_within 22 = .ok (.aload_n 0, 1) := by decide +kernel
theorem d_X_within_23 : decode b_X_within 23 = .ok (.getfield 27, 3) := by decide +kernel
theorem d_X_within_26 : decode b_X_within 26 = .ok (.iload_n 2, 1) := by decide +kernel
theorem d_X_within_27 : decode b_X_within 27 = .ok (.aaload, 1) := by decide +kernel
theorem d_X_within_28 : decode b_X_within 28 = .ok (.getfield 123, 3) := by decide +kernel
theorem d_X_within_31 : decode b_X_within 31 = .ok (.ifCond .ne 31, 3) := by decide +kernel
theorem d_X_within_34 : decode b_X_within 34 = .ok (.aload_n 0, 1) := by decide +kernel
theorem d_X_within_35 : decode b_X_within 35 = .ok (.getfield 27, 3) := by decide +kernel
theorem d_X_within_38 : decode b_X_within 38 = .ok (.iload_n 1, 1) := by decide +kernel
theorem d_X_within_39 : decode b_X_within 39 = .ok (.aaload, 1) := by decide +kernel
theorem d_X_within_40 : decode b_X_within 40 = .ok (.getfield 127, 3) := by decide +kernel
theorem d_X_within_43 : decode b_X_within 43 = .ok (.aload_n 0, 1) := by decide +kernel
theorem d_X_within_44 : decode b_X_within 44 = .ok (.getfield 27, 3) := by decide +kernel
theorem d_X_within_47 : decode b_X_within 47 = .ok (.iload_n 2, 1) := by decide +kernel
theorem d_X_within_48 : decode b_X_within 48 = .ok (.aaload, 1) := by decide +kernel
theorem d_X_within_49 : decode b_X_within 49 = .ok (.getfield 127, 3) := by decide +kernel
theorem d_X_within_52 : decode b_X_within 52 = .ok (.invokevirtual 130, 3) := by decide +kernel
theorem d_X_within_55 : decode b_X_within 55 = .ok (.ifCond .eq 7, 3) := by decide +kernel
theorem d_X_within_58 : decode b_X_within 58 = .ok (.iconst 1, 1) := by decide +kernel
theorem d_X_within_59 : decode b_X_within 59 = .ok (.goto 4, 3) := by decide +kernel
theorem d_X_within_62 : decode b_X_within 62 = .ok (.iconst 0, 1) := by decide +kernel
theorem d_X_within_63 : decode b_X_within 63 = .ok (.ireturn, 1) := by decide +kernel
theorem d_X_put_0 : decode b_X_put 0 = .ok (.aload_n 0, 1) := by decide +kernel
theorem d_X_put_1 : decode b_X_put 1 = .ok (.iload_n 1, 1) := by decide +kernel
theorem d_X_put_2 : decode b_X_put 2 = .ok (.invokevirtual 112, 3) := by decide +kernel
theorem d_X_put_5 : decode b_X_put 5 = .ok (.lload_n 2, 1) := by decide +kernel
theorem d_X_put_6 : decode b_X_put 6 = .ok (.invokestatic 67, 3) := by decide +kernel
theorem d_X_put_9 : decode b_X_put 9 = .ok (.aload_n 0, 1) := by decide +kernel
theorem d_X_put_10 : decode b_X_put 10 = .ok (.getfield 48, 3) := by decide +kernel
theorem d_X_put_13 : decode b_X_put 13 = .ok (.iload_n 1, 1) := by decide +kernel
theorem d_X_put_14 : decode b_X_put 14 = .ok (.iconst 1, 1) := by decide +kernel
theorem d_X_put_15 : decode b_X_put 15 = .ok (.isub, 1) := by decide +kernel
theorem d_X_put_16 : decode b_X_put 16 = .ok (.laload, 1) := by decide +kernel
theorem d_X_put_17 : decode b_X_put 17 = .ok (.lstore 4, 2) := by decide +kernel
theorem d_X_put_19 : decode b_X_put 19 = .ok (.aload_n 0, 1) := by decide +kernel
theorem d_X_put_20 : decode b_X_put 20 = .ok (.getfield 48, 3) := by decide +kernel
theorem d_X_put_23 : decode b_X_put 23 = .ok (.iload_n 1, 1) := by decide +kernel
theorem d_X_put_24 : decode b_X_put 24 = .ok (.iconst 1, 1) := by decide +kernel
theorem d_X_put_25 : decode b_X_put 25 = .ok (.isub, 1) := by decide +kernel
theorem d_X_put_26 : decode b_X_put 26 = .ok (.lload_n 2, 1) := by decide +kernel
theorem d_X_put_27 : decode b_X_put 27 = .ok (.lastore, 1) := by decide +kernel
theorem d_X_put_28 : decode b_X_put 28 = .ok (.lload 4, 2) := by decide +kernel
theorem d_X_put_30 : decode b_X_put 30 = .ok (.lreturn, 1) := by decide +kernel
theorem d_X_point_0 : decode b_X_point 0 = .ok (.aload_n 0, 1) := by decide +kernel
theorem d_X_point_1 : decode b_X_point 1 = .ok (.iload_n 1, 1) := by decide +kernel
theorem d_X_point_2 : decode b_X_point 2 = .ok (.invokevirtual 112, 3) := by decide +kernel
theorem d_X_point_5 : decode b_X_point 5 = .ok (.aload_n 0, 1) := by decide +kernel
theorem d_X_point_6 : decode b_X_point 6 = .ok (.getfield 48, 3) := by decide +kernel
theorem d_X_point_9 : decode b_X_point 9 = .ok (.iload_n 1, 1) := by decide +kernel
theorem d_X_point_10 : decode b_X_point 10 = .ok (.iconst 1, 1) := by decide +kernel
theorem d_X_point_11 : decode b_X_point 11 = .ok (.isub, 1) := by decide +kernel
theorem d_X_point_12 : decode b_X_point 12 = .ok (.laload, 1) := by decide +kernel
theorem d_X_point_13 : decode b_X_point 13 = .ok (.lreturn, 1) := by decide +kernel
theorem d_X_has_0 : decode b_X_has 0 = .ok (.iload_n 1, 1) := by decide +kernel
theorem d_X_has_1 : decode b_X_has 1 = .ok (.invokestatic 58, 3) := by decide +kernel
theorem d_X_has_4 : decode b_X_has 4 = .ok (.aload_n 0, 1) := by decide +kernel
theorem d_X_has_5 : decode b_X_has 5 = .ok (.getfield 27, 3) := by decide +kernel
theorem d_X_has_8 : decode b_X_has 8 = .ok (.iload_n 1, 1) := by decide +kernel
theorem d_X_has_9 : decode b_X_has 9 = .ok (.aaload, 1) := by decide +kernel
theorem d_X_has_10 : decode b_X_has 10 = .ok (.getfield 123, 3) := by decide +kernel
theorem d_X_has_13 : decode b_X_has 13 = .ok (.ifCond .eq 5, 3) := by decide +kernel
theorem d_X_has_16 : decode b_X_has 16 = .ok (.iconst 0, 1) := by decide +kernel
theorem d_X_has_17 : decode b_X_has 17 = .ok (.ireturn, 1) := by decide +kernel
theorem d_X_has_18 : decode b_X_has 18 = .ok (.iconst 0, 1) := by decide +kernel
theorem d_X_has_19 : decode b_X_has 19 = .ok (.istore_n 2, 1) := by decide +kernel
theorem d_X_has_20 : decode b_X_has 20 = .ok (.iload_n 2, 1) := by decide +kernel
theorem d_X_has_21 : decode b_X_has 21 = .ok (.aload_n 0, 1) := by decide +kernel
theorem d_X_has_22 : decode b_X_has 22 = .ok (.getfield 22, 3) := by decide +kernel
theorem d_X_has_25 : decode b_X_has 25 = .ok (.if_icmp .ge 56, 3) := by decide +kernel
theorem d_X_has_28 : decode b_X_has 28 = .ok (.iload_n 2, 1) := by decide +kernel
theorem d_X_has_29 : decode b_X_has 29 = .ok (.istore_n 3, 1) := by decide +kernel
theorem d_X_has_30 : decode b_X_has 30 = .ok (.iload_n 3, 1) := by decide +kernel
theorem d_X_has_31 : decode b_X_has 31 = .ok (.aload_n 0, 1) := by decide +kernel
theorem d_X_has_32 : decode b_X_has 32 = .ok (.getfield 22, 3) := by decide +kernel
theorem d_X_has_35 : decode b_X_has 35 = .ok (.if_icmp .ge 40, 3) := by decide +kernel
theorem d_X_has_38 : decode b_X_has 38 = .ok (.aload_n 0, 1) := by decide +kernel
theorem d_X_has_39 : decode b_X_has 39 = .ok (.iload_n 2, 1) := by decide +kernel
theorem d_X_has_40 : decode b_X_has 40 = .ok (.invokevirtual 134, 3) := by decide +kernel
theorem d_X_has_43 : decode b_X_has 43 = .ok (.aload_n 0, 1) := by decide +kernel
theorem d_X_has_44 : decode b_X_has 44 = .ok (.iload_n 3, 1) := by decide +kernel
theorem d_X_has_45 : decode b_X_has 45 = .ok (.invokevirtual 134, 3) := by decide +kernel
theorem d_X_has_48 : decode b_X_has 48 = .ok (.ladd, 1) := by decide +kernel
theorem d_X_has_49 : decode b_X_has 49 = .ok (.aload_n 0, 1) := by decide +kernel
theorem d_X_has_50 : decode b_X_has 50 = .ok (.getfield 27, 3) := by decide +kernel
theorem d_X_has_53 : decode b_X_has 53 = .ok (.iload_n 1, 1) := by decide +kernel
theorem d_X_has_54 : decode b_X_has 54 = .ok (.aaload, 1) := by decide +kernel
theorem d_X_has_55 : decode b_X_has 55 = .ok (.getfield 127, 3) := by decide +kernel
theorem d_X_has_58 : decode b_X_has 58 = .ok (.iload_n 2, 1) := by decide +kernel
theorem d_X_has_59 : decode b_X_has 59 = .ok (.iload_n 3, 1) := by decide +kernel
theorem d_X_has_60 : decode b_X_has 60 = .ok (.invokevirtual 138, 3) := by decide +kernel
theorem d_X_has_63 : decode b_X_has 63 = .ok (.lcmp, 1) := by decide +kernel
theorem d_X_has_64 : decode b_X_has 64 = .ok (.ifCond .le 5, 3) := by decide +kernel
theorem d_X_has_67 : decode b_X_has 67 = .ok (.iconst 0, 1) := by decide +kernel
theorem d_X_has_68 : decode b_X_has 68 = .ok (.ireturn, 1) := by decide +kernel
theorem d_X_has_69 : decode b_X_has 69 = .ok (.iinc 3 1, 3) := by decide +kernel
theorem d_X_has_72 : decode b_X_has 72 = .ok (.goto (-42), 3) := by decide +kernel
theorem d_X_has_75 : decode b_X_has 75 = .ok (.iinc 2 1, 3) := by decide +kernel
theorem d_X_has_78 : decode b_X_has 78 = .ok (.goto (-58), 3) := by decide +kernel
theorem d_X_has_81 : decode b_X_has 81 = .ok (.iconst 1, 1) := by decide +kernel
theorem d_X_has_82 : decode b_X_has 82 = .ok (.ireturn, 1) := by decide +kernel
theorem d_X_sample_0 : decode b_X_sample 0 = .ok (.iload_n 1, 1) := by decide +kernel
theorem d_X_sample_1 : decode b_X_sample 1 = .ok (.invokestatic 58, 3) := by decide +kernel
theorem d_X_sample_4 : decode b_X_sample 4 = .ok (.aload_n 0, 1) := by decide +kernel
theorem d_X_sample_5 : decode b_X_sample 5 = .ok (.getfield 27, 3) := by decide +kernel
theorem d_X_sample_8 : decode b_X_sample 8 = .ok (.iload_n 1, 1) := by decide +kernel
theorem d_X_sample_9 : decode b_X_sample 9 = .ok (.aaload, 1) := by decide +kernel
theorem d_X_sample_10 : decode b_X_sample 10 = .ok (.getfield 123, 3) := by decide +kernel
theorem d_X_sample_13 : decode b_X_sample 13 = .ok (.ifCond .eq 5, 3) := by decide +kernel
theorem d_X_sample_16 : decode b_X_sample 16 = .ok (.iconst 0, 1) := by decide +kernel
theorem d_X_sample_17 : decode b_X_sample 17 = .ok (.ireturn, 1) := by decide +kernel
theorem d_X_sample_18 : decode b_X_sample 18 = .ok (.iconst 1, 1) := by decide +kernel
theorem d_X_sample_19 : decode b_X_sample 19 = .ok (.istore_n 2, 1) := by decide +kernel
theorem d_X_sample_20 : decode b_X_sample 20 = .ok (.iload_n 2, 1) := by decide +kernel
theorem d_X_sample_21 : decode b_X_sample 21 = .ok (.aload_n 0, 1) := by decide +kernel
theorem d_X_sample_22 : decode b_X_sample 22 = .ok (.getfield 18, 3) := by decide +kernel
theorem d_X_sample_25 : decode b_X_sample 25 = .ok (.if_icmp .gt 31, 3) := by decide +kernel
theorem d_X_sample_28 : decode b_X_sample 28 = .ok (.aload_n 0, 1) := by decide +kernel
theorem d_X_sample_29 : decode b_X_sample 29 = .ok (.getfield 48, 3) := by decide +kernel
theorem d_X_sample_32 : decode b_X_sample 32 = .ok (.iload_n 2, 1) := by decide +kernel
theorem d_X_sample_33 : decode b_X_sample 33 = .ok (.iconst 1, 1) := by decide +kernel
theorem d_X_sample_34 : decode b_X_sample 34 = .ok (.isub, 1) := by decide +kernel
theorem d_X_sample_35 : decode b_X_sample 35 = .ok (.aload_n 0, 1) := by decide +kernel
theorem d_X_sample_36 : decode b_X_sample 36 = .ok (.aload_n 0, 1) := by decide +kernel
theorem d_X_sample_37 : decode b_X_sample 37 = .ok (.getfield 27, 3) := by decide +kernel
theorem d_X_sample_40 : decode b_X_sample 40 = .ok (.iload_n 1, 1) := by decide +kernel
theorem d_X_sample_41 : decode b_X_sample 41 = .ok (.aaload, 1) := by decide +kernel
theorem d_X_sample_42 : decode b_X_sample 42 = .ok (.getfield 127, 3) := by decide +kernel
theorem d_X_sample_45 : decode b_X_sample 45 = .ok (.iload_n 2, 1) := by decide +kernel
theorem d_X_sample_46 : decode b_X_sample 46 = .ok (.invokevirtual 141, 3) := by decide +kernel
theorem d_X_sample_49 : decode b_X_sample 49 = .ok (.lastore, 1) := by decide +kernel
theorem d_X_sample_50 : decode b_X_sample 50 = .ok (.iinc 2 1, 3) := by decide +kernel
theorem d_X_sample_53 : decode b_X_sample 53 = .ok (.goto (-33), 3) := by decide +kernel
theorem d_X_sample_56 : decode b_X_sample 56 = .ok (.iconst 1, 1) := by decide +kernel
theorem d_X_sample_57 : decode b_X_sample 57 = .ok (.ireturn, 1) := by decide +kernel
theorem d_X_needed_0 : decode b_X_needed 0 = .ok (.iload_n 1, 1) := by decide +kernel
theorem d_X_needed_1 : decode b_X_needed 1 = .ok (.invokestatic 58, 3) := by decide +kernel
theorem d_X_needed_4 : decode b_X_needed 4 = .ok (.aload_n 0, 1) := by decide +kernel
theorem d_X_needed_5 : decode b_X_needed 5 = .ok (.iconst 0, 1) := by decide +kernel
theorem d_X_needed_6 : decode b_X_needed 6 = .ok (.putfield 55, 3) := by decide +kernel
theorem d_X_needed_9 : decode b_X_needed 9 = .ok (.aload_n 0, 1) := by decide +kernel
theorem d_X_needed_10 : decode b_X_needed 10 = .ok (.getfield 27, 3) := by decide +kernel
theorem d_X_needed_13 : decode b_X_needed 13 = .ok (.iload_n 1, 1) := by decide +kernel
theorem d_X_needed_14 : decode b_X_needed 14 = .ok (.aaload, 1) := by decide +kernel
theorem d_X_needed_15 : decode b_X_needed 15 = .ok (.getfield 123, 3) := by decide +kernel
theorem d_X_needed_18 : decode b_X_needed 18 = .ok (.ifCond .eq 17, 3) := by decide +kernel
theorem d_X_needed_21 : decode b_X_needed 21 = .ok (.aload_n 0, 1) := by decide +kernel
theorem d_X_needed_22 : decode b_X_needed 22 = .ok (.iconst 0, 1) := by decide +kernel
theorem d_X_needed_23 : decode b_X_needed 23 = .ok (.iconst 0, 1) := by decide +kernel
theorem d_X_needed_24 : decode b_X_needed 24 = .ok (.ldc2_w 145, 3) := by decide +kernel
theorem d_X_needed_27 : decode b_X_needed 27 = .ok (.invokevirtual 147, 3) := by decide +kernel
theorem d_X_needed_30 : decode b_X_needed 30 = .ok (.aload_n 0, 1) := by decide +kernel
theorem d_X_needed_31 : decode b_X_needed 31 = .ok (.getfield 55, 3) := by decide +kernel
theorem d_X_needed_34 : decode b_X_needed 34 = .ok (.ireturn, 1) := by decide +kernel
theorem d_X_needed_35 : decode b_X_needed 35 = .ok (.aload_n 0, 1) := by decide +kernel
theorem d_X_needed_36 : decode b_X_needed 36 = .ok (.getfield 41, 3) := by decide +kernel
theorem d_X_needed_39 : decode b_X_needed 39 = .ok (.aload_n 0, 1) := by decide +kernel
theorem d_X_needed_40 : decode b_X_needed 40 = .ok (.getfield 27, 3) := by decide +kernel
theorem d_X_needed_43 : decode b_X_needed 43 = .ok (.iload_n 1, 1) := by decide +kernel
theorem d_X_needed_44 : decode b_X_needed 44 = .ok (.aaload, 1) := by decide +kernel
theorem d_X_needed_45 : decode b_X_needed 45 = .ok (.getfield 127, 3) := by decide +kernel
theorem d_X_needed_48 : decode b_X_needed 48 = .ok (.invokevirtual 150, 3) := by decide +kernel
theorem d_X_needed_51 : decode b_X_needed 51 = .ok (.aload_n 0, 1) := by decide +kernel
theorem d_X_needed_52 : decode b_X_needed 52 = .ok (.invokevirtual 154, 3) := by decide +kernel
theorem d_X_needed_55 : decode b_X_needed 55 = .ok (.aload_n 0, 1) := by decide +kernel
theorem d_X_needed_56 : decode b_X_needed 56 = .ok (.invokevirtual 157, 3) := by decide +kernel
theorem d_X_needed_59 : decode b_X_needed 59 = .ok (.aload_n 0, 1) := by decide +kernel
theorem d_X_needed_60 : decode b_X_needed 60 = .ok (.invokevirtual 160, 3) := by decide +kernel
theorem d_X_needed_63 : decode b_X_needed 63 = .ok (.aload_n 0, 1) := by decide +kernel
theorem d_X_needed_64 : decode b_X_needed 64 = .ok (.getfield 55, 3) := by decide +kernel
theorem d_X_needed_67 : decode b_X_needed 67 = .ok (.ireturn, 1) := by decide +kernel
theorem d_X_needs_0 : decode b_X_needs 0 = .ok (.iload_n 1, 1) := by decide +kernel
theorem d_X_needs_1 : decode b_X_needs 1 = .ok (.ifCond .lt 20, 3) := by decide +kernel
theorem d_X_needs_4 : decode b_X_needs 4 = .ok (.iload_n 1, 1) := by decide +kernel
theorem d_X_needs_5 : decode b_X_needs 5 = .ok (.aload_n 0, 1) := by decide +kernel
theorem d_X_needs_6 : decode b_X_needs 6 = .ok (.getfield 55, 3) := by decide +kernel
theorem d_X_needs_9 : decode b_X_needs 9 = .ok (.if_icmp .ge 12, 3) := by decide +kernel
theorem d_X_needs_12 : decode b_X_needs 12 = .ok (.iload_n 2, 1) := by decide +kernel
theorem d_X_needs_13 : decode b_X_needs 13 = .ok (.ifCond .lt 8, 3) := by decide +kernel
theorem d_X_needs_16 : decode b_X_needs 16 = .ok (.iload_n 2, 1) := by decide +kernel
theorem d_X_needs_17 : decode b_X_needs 17 = .ok (.iconst 3, 1) := by decide +kernel
theorem d_X_needs_18 : decode b_X_needs 18 = .ok (.if_icmp .lt 13, 3) := by decide +kernel
theorem d_X_needs_21 : decode b_X_needs 21 = .ok (.new 163, 3) := by decide +kernel
theorem d_X_needs_24 : decode b_X_needs 24 = .ok (.dup, 1) := by decide +kernel
theorem d_X_needs_25 : decode b_X_needs 25 = .ok (.ldc 165, 2) := by decide +kernel
theorem d_X_needs_27 : decode b_X_needs 27 = .ok (.invokespecial 167, 3) := by decide +kernel
theorem d_X_needs_30 : decode b_X_needs 30 = .ok (.athrow, 1) := by decide +kernel
theorem d_X_needs_31 : decode b_X_needs 31 = .ok (.aload_n 0, 1) := by decide +kernel
theorem d_X_needs_32 : decode b_X_needs 32 = .ok (.getfield 52, 3) := by decide +kernel
theorem d_X_needs_35 : decode b_X_needs 35 = .ok (.iconst 3, 1) := by decide +kernel
theorem d_X_needs_36 : decode b_X_needs 36 = .ok (.iload_n 1, 1) := by decide +kernel
theorem d_X_needs_37 : decode b_X_needs 37 = .ok (.imul, 1) := by decide +kernel
theorem d_X_needs_38 : decode b_X_needs 38 = .ok (.iload_n 2, 1) := by decide +kernel
theorem d_X_needs_39 : decode b_X_needs 39 = .ok (.iadd, 1) := by decide +kernel
theorem d_X_needs_40 : decode b_X_needs 40 = .ok (.laload, 1) := by decide +kernel
theorem d_X_needs_41 : decode b_X_needs 41 = .ok (.lreturn, 1) := by decide +kernel
theorem d_X_fits_0 : decode b_X_fits 0 = .ok (.iload_n 1, 1) := by decide +kernel
theorem d_X_fits_1 : decode b_X_fits 1 = .ok (.invokestatic 58, 3) := by decide +kernel
theorem d_X_fits_4 : decode b_X_fits 4 = .ok (.aload_n 0, 1) := by decide +kernel
theorem d_X_fits_5 : decode b_X_fits 5 = .ok (.iload_n 2, 1) := by decide +kernel
theorem d_X_fits_6 : decode b_X_fits 6 = .ok (.invokevirtual 64, 3) := by decide +kernel
theorem d_X_fits_9 : decode b_X_fits 9 = .ok (.iload_n 3, 1) := by decide +kernel
theorem d_X_fits_10 : decode b_X_fits 10 = .ok (.iconst 1, 1) := by decide +kernel
theorem d_X_fits_11 : decode b_X_fits 11 = .ok (.if_icmp .lt 9, 3) := by decide +kernel
theorem d_X_fits_14 : decode b_X_fits 14 = .ok (.iload_n 3, 1) := by decide +kernel
theorem d_X_fits_15 : decode b_X_fits 15 = .ok (.bipush 62, 2) := by decide +kernel
theorem d_X_fits_17 : decode b_X_fits 17 = .ok (.if_icmp .le 13, 3) := by decide +kernel
theorem d_X_fits_20 : decode b_X_fits 20 = .ok (.new 170, 3) := by decide +kernel
theorem d_X_fits_23 : decode b_X_fits 23 = .ok (.dup, 1) := by decide +kernel
theorem d_X_fits_24 : decode b_X_fits 24 = .ok (.ldc 172, 2) := by decide +kernel
theorem d_X_fits_26 : decode b_X_fits 26 = .ok (.invokespecial 174, 3) := by decide +kernel
theorem d_X_fits_29 : decode b_X_fits 29 = .ok (.athrow, 1) := by decide +kernel
theorem d_X_fits_30 : decode b_X_fits 30 = .ok (.lconst 1, 1) := by decide +kernel
theorem d_X_fits_31 : decode b_X_fits 31 = .ok (.iload_n 3, 1) := by decide +kernel
theorem d_X_fits_32 : decode b_X_fits 32 = .ok (.iconst 1, 1) := by decide +kernel
theorem d_X_fits_33 : decode b_X_fits 33 = .ok (.isub, 1) := by decide +kernel
theorem d_X_fits_34 : decode b_X_fits 34 = .ok (.lshl, 1) := by decide +kernel
theorem d_X_fits_35 : decode b_X_fits 35 = .ok (.lstore 4, 2) := by decide +kernel
theorem d_X_fits_37 : decode b_X_fits 37 = .ok (.aload_n 0, 1) := by decide +kernel
theorem d_X_fits_38 : decode b_X_fits 38 = .ok (.getfield 27, 3) := by decide +kernel
theorem d_X_fits_41 : decode b_X_fits 41 = .ok (.iload_n 1, 1) := by decide +kernel
theorem d_X_fits_42 : decode b_X_fits 42 = .ok (.aaload, 1) := by decide +kernel
theorem d_X_fits_43 : decode b_X_fits 43 = .ok (.iload_n 2, 1) := by decide +kernel
theorem d_X_fits_44 : decode b_X_fits 44 = .ok (.iconst 0, 1) := by decide +kernel
theorem d_X_fits_45 : decode b_X_fits 45 = .ok (.invokevirtual 83, 3) := by decide +kernel
theorem d_X_fits_48 : decode b_X_fits 48 = .ok (.lload 4, 2) := by decide +kernel
theorem d_X_fits_50 : decode b_X_fits 50 = .ok (.lconst 1, 1) := by decide +kernel
theorem d_X_fits_51 : decode b_X_fits 51 = .ok (.lsub, 1) := by decide +kernel
theorem d_X_fits_52 : decode b_X_fits 52 = .ok (.lcmp, 1) := by decide +kernel
theorem d_X_fits_53 : decode b_X_fits 53 = .ok (.ifCond .gt 25, 3) := by decide +kernel
theorem d_X_fits_56 : decode b_X_fits 56 = .ok (.aload_n 0, 1) := by decide +kernel
theorem d_X_fits_57 : decode b_X_fits 57 = .ok (.getfield 27, 3) := by decide +kernel
theorem d_X_fits_60 : decode b_X_fits 60 = .ok (.iload_n 1, 1) := by decide +kernel
theorem d_X_fits_61 : decode b_X_fits 61 = .ok (.aaload, 1) := by decide +kernel
theorem d_X_fits_62 : decode b_X_fits 62 = .ok (.iload_n 2, 1) := by decide +kernel
theorem d_X_fits_63 : decode b_X_fits 63 = .ok (.ineg, 1) := by decide +kernel
theorem d_X_fits_64 : decode b_X_fits 64 = .ok (.iconst 0, 1) := by decide +kernel
theorem d_X_fits_65 : decode b_X_fits 65 = .ok (.invokevirtual 83, 3) := by decide +kernel
theorem d_X_fits_68 : decode b_X_fits 68 = .ok (.lload 4, 2) := by decide +kernel
theorem d_X_fits_70 : decode b_X_fits 70 = .ok (.lcmp, 1) := by decide +kernel
theorem d_X_fits_71 : decode b_X_fits 71 = .ok (.ifCond .gt 7, 3) := by decide +kernel
theorem d_X_fits_74 : decode b_X_fits 74 = .ok (.iconst 1, 1) := by decide +kernel
theorem d_X_fits_75 : decode b_X_fits 75 = .ok (.goto 4, 3) := by decide +kernel
theorem d_X_fits_78 : decode b_X_fits 78 = .ok (.iconst 0, 1) := by decide +kernel
theorem d_X_fits_79 : decode b_X_fits 79 = .ok (.ireturn, 1) := by decide +kernel
theorem d_X_array_0 : decode b_X_array 0 = .ok (.iload_n 1, 1) := by decide +kernel
theorem d_X_array_1 : decode b_X_array 1 = .ok (.invokestatic 58, 3) := by decide +kernel
theorem d_X_array_4 : decode b_X_array 4 = .ok (.aload_n 0, 1) := by decide +kernel
theorem d_X_array_5 : decode b_X_array 5 = .ok (.iload_n 2, 1) := by decide +kernel
theorem d_X_array_6 : decode b_X_array 6 = .ok (.invokevirtual 112, 3) := by decide +kernel
theorem d_X_array_9 : decode b_X_array 9 = .ok (.aload_n 0, 1) := by decide +kernel
theorem d_X_array_10 : decode b_X_array 10 = .ok (.iload_n 3, 1) := by decide +kernel
theorem d_X_array_11 : decode b_X_array 11 = .ok (.invokevirtual 112, 3) := by decide +kernel
theorem d_X_array_14 : decode b_X_array 14 = .ok (.iload_n 2, 1) := by decide +kernel
theorem d_X_array_15 : decode b_X_array 15 = .ok (.iload_n 3, 1) := by decide +kernel
theorem d_X_array_16 : decode b_X_array 16 = .ok (.if_icmp .ne 13, 3) := by decide +kernel
theorem d_X_array_19 : decode b_X_array 19 = .ok (.new 163, 3) := by decide +kernel
theorem d_X_array_22 : decode b_X_array 22 = .ok (.dup, 1) := by decide +kernel
theorem d_X_array_23 : decode b_X_array 23 = .ok (.ldc 175, 2) := by decide +kernel
theorem d_X_array_25 : decode b_X_array 25 = .ok (.invokespecial 167, 3) := by decide +kernel
theorem d_X_array_28 : decode b_X_array 28 = .ok (.athrow, 1) := by decide +kernel
theorem d_X_array_29 : decode b_X_array 29 = .ok (.aload_n 0, 1) := by decide +kernel
theorem d_X_array_30 : decode b_X_array 30 = .ok (.getfield 27, 3) := by decide +kernel
theorem d_X_array_33 : decode b_X_array 33 = .ok (.iload_n 1, 1) := by decide +kernel
theorem d_X_array_34 : decode b_X_array 34 = .ok (.aaload, 1) := by decide +kernel
theorem d_X_array_35 : decode b_X_array 35 = .ok (.astore 4, 2) := by decide +kernel
theorem d_X_array_37 : decode b_X_array 37 = .ok (.aload 4, 2) := by decide +kernel
theorem d_X_array_39 : decode b_X_array 39 = .ok (.iload_n 2, 1) := by decide +kernel
theorem d_X_array_40 : decode b_X_array 40 = .ok (.ineg, 1) := by decide +kernel
theorem d_X_array_41 : decode b_X_array 41 = .ok (.iconst 0, 1) := by decide +kernel
theorem d_X_array_42 : decode b_X_array 42 = .ok (.invokevirtual 83, 3) := by decide +kernel
theorem d_X_array_45 : decode b_X_array 45 = .ok (.lconst 0, 1) := by decide +kernel
theorem d_X_array_46 : decode b_X_array 46 = .ok (.lcmp, 1) := by decide +kernel
theorem d_X_array_47 : decode b_X_array 47 = .ok (.ifCond .gt 20, 3) := by decide +kernel
theorem d_X_array_50 : decode b_X_array 50 = .ok (.aload 4, 2) := by decide +kernel
theorem d_X_array_52 : decode b_X_array 52 = .ok (.iload_n 2, 1) := by decide +kernel
theorem d_X_array_53 : decode b_X_array 53 = .ok (.iload_n 3, 1) := by decide +kernel
theorem d_X_array_54 : decode b_X_array 54 = .ok (.ineg, 1) := by decide +kernel
theorem d_X_array_55 : decode b_X_array 55 = .ok (.invokevirtual 83, 3) := by decide +kernel
theorem d_X_array_58 : decode b_X_array 58 = .ok (.ldc2_w 145, 3) := by decide +kernel
theorem d_X_array_61 : decode b_X_array 61 = .ok (.lcmp, 1) := by decide +kernel
theorem d_X_array_62 : decode b_X_array 62 = .ok (.ifCond .gt 5, 3) := by decide +kernel
theorem d_X_array_65 : decode b_X_array 65 = .ok (.iconst 1, 1) := by decide +kernel
theorem d_X_array_66 : decode b_X_array 66 = .ok (.ireturn, 1) := by decide +kernel
theorem d_X_array_67 : decode b_X_array 67 = .ok (.aload_n 0, 1) := by decide +kernel
theorem d_X_array_68 : decode b_X_array 68 = .ok (.getfield 45, 3) := by decide +kernel
theorem d_X_array_71 : decode b_X_array 71 = .ok (.aload 4, 2) := by decide +kernel
theorem d_X_array_73 : decode b_X_array 73 = .ok (.getfield 127, 3) := by decide +kernel
theorem d_X_array_76 : decode b_X_array 76 = .ok (.invokevirtual 150, 3) := by decide +kernel
theorem d_X_array_79 : decode b_X_array 79 = .ok (.aload_n 0, 1) := by decide +kernel
theorem d_X_array_80 : decode b_X_array 80 = .ok (.getfield 45, 3) := by decide +kernel
theorem d_X_array_83 : decode b_X_array 83 = .ok (.iload_n 2, 1) := by decide +kernel
theorem d_X_array_84 : decode b_X_array 84 = .ok (.ineg, 1) := by decide +kernel
theorem d_X_array_85 : decode b_X_array 85 = .ok (.invokestatic 177, 3) := by decide +kernel
theorem d_X_array_88 : decode b_X_array 88 = .ok (.iload_n 2, 1) := by decide +kernel
theorem d_X_array_89 : decode b_X_array 89 = .ok (.ineg, 1) := by decide +kernel
theorem d_X_array_90 : decode b_X_array 90 = .ok (.invokestatic 177, 3) := by decide +kernel
theorem d_X_array_93 : decode b_X_array 93 = .ok (.lconst 0, 1) := by decide +kernel
theorem d_X_array_94 : decode b_X_array 94 = .ok (.invokevirtual 180, 3) := by decide +kernel
theorem d_X_array_97 : decode b_X_array 97 = .ok (.aload_n 0, 1) := by decide +kernel
theorem d_X_array_98 : decode b_X_array 98 = .ok (.getfield 45, 3) := by decide +kernel
theorem d_X_array_101 : decode b_X_array 101 = .ok (.iload_n 2, 1) := by decide +kernel
theorem d_X_array_102 : decode b_X_array 102 = .ok (.invokestatic 177, 3) := by decide +kernel
theorem d_X_array_105 : decode b_X_array 105 = .ok (.iload_n 3, 1) := by decide +kernel
theorem d_X_array_106 : decode b_X_array 106 = .ok (.ineg, 1) := by decide +kernel
theorem d_X_array_107 : decode b_X_array 107 = .ok (.invokestatic 177, 3) := by decide +kernel
theorem d_X_array_110 : decode b_X_array 110 = .ok (.ldc2_w 145, 3) := by decide +kernel
theorem d_X_array_113 : decode b_X_array 113 = .ok (.invokevirtual 180, 3) := by decide +kernel
theorem d_X_array_116 : decode b_X_array 116 = .ok (.aload_n 0, 1) := by decide +kernel
theorem d_X_array_117 : decode b_X_array 117 = .ok (.getfield 45, 3) := by decide +kernel
theorem d_X_array_120 : decode b_X_array 120 = .ok (.invokevirtual 183, 3) := by decide +kernel
theorem d_X_array_123 : decode b_X_array 123 = .ok (.ifCond .eq 7, 3) := by decide +kernel
theorem d_X_array_126 : decode b_X_array 126 = .ok (.iconst 0, 1) := by decide +kernel
theorem d_X_array_127 : decode b_X_array 127 = .ok (.goto 4, 3) := by decide +kernel
theorem d_X_array_130 : decode b_X_array 130 = .ok (.iconst (-1), 1) := by decide +kernel
theorem d_X_array_131 : decode b_X_array 131 = .ok (.ireturn, 1) := by decide +kernel
theorem d_X_told_0 : decode b_X_told 0 = .ok (.iload_n 1, 1) := by decide +kernel
theorem d_X_told_1 : decode b_X_told 1 = .ok (.ifCond .lt 9, 3) := by decide +kernel
theorem d_X_told_4 : decode b_X_told 4 = .ok (.iload_n 1, 1) := by decide +kernel
theorem d_X_told_5 : decode b_X_told 5 = .ok (.bipush 9, 2) := by decide +kernel
theorem d_X_told_7 : decode b_X_told 7 = .ok (.if_icmp .le 13, 3) := by decide +kernel
theorem d_X_told_10 : decode b_X_told 10 = .ok (.new 163, 3) := by decide +kernel
theorem d_X_told_13 : decode b_X_told 13 = .ok (.dup, 1) := by decide +kernel
theorem d_X_told_14 : decode b_X_told 14 = .ok (.ldc 187, 2) := by decide +kernel
theorem d_X_told_16 : decode b_X_told 16 = .ok (.invokespecial 167, 3) := by decide +kernel
theorem d_X_told_19 : decode b_X_told 19 = .ok (.athrow, 1) := by decide +kernel
theorem d_X_told_20 : decode b_X_told 20 = .ok (.iload_n 1, 1) := by decide +kernel
theorem d_X_told_21 : decode b_X_told 21 = .ok (.ifCond .ne 8, 3) := by decide +kernel
theorem d_X_told_24 : decode b_X_told 24 = .ok (.aload_n 0, 1) := by decide +kernel
theorem d_X_told_25 : decode b_X_told 25 = .ok (.getfield 18, 3) := by decide +kernel
theorem d_X_told_28 : decode b_X_told 28 = .ok (.ireturn, 1) := by decide +kernel
theorem d_X_told_29 : decode b_X_told 29 = .ok (.iload_n 1, 1) := by decide +kernel
theorem d_X_told_30 : decode b_X_told 30 = .ok (.bipush 9, 2) := by decide +kernel
theorem d_X_told_32 : decode b_X_told 32 = .ok (.if_icmp .ne 10, 3) := by decide +kernel
theorem d_X_told_35 : decode b_X_told 35 = .ok (.aload_n 0, 1) := by decide +kernel
theorem d_X_told_36 : decode b_X_told 36 = .ok (.invokevirtual 189, 3) := by decide +kernel
theorem d_X_told_39 : decode b_X_told 39 = .ok (.goto 17, 3) := by decide +kernel
theorem d_X_told_42 : decode b_X_told 42 = .ok (.aload_n 0, 1) := by decide +kernel
theorem d_X_told_43 : decode b_X_told 43 = .ok (.getfield 27, 3) := by decide +kernel
theorem d_X_told_46 : decode b_X_told 46 = .ok (.iload_n 1, 1) := by decide +kernel
theorem d_X_told_47 : decode b_X_told 47 = .ok (.iconst 1, 1) := by decide +kernel
theorem d_X_told_48 : decode b_X_told 48 = .ok (.isub, 1) := by decide +kernel
theorem d_X_told_49 : decode b_X_told 49 = .ok (.aaload, 1) := by decide +kernel
theorem d_X_told_50 : decode b_X_told 50 = .ok (.getfield 89, 3) := by decide +kernel
theorem d_X_told_53 : decode b_X_told 53 = .ok (.invokevirtual 193, 3) := by decide +kernel
theorem d_X_told_56 : decode b_X_told 56 = .ok (.ireturn, 1) := by decide +kernel
theorem d_X_checkShape_0 : decode b_X_checkShape 0 = .ok (.iload_n 0, 1) := by decide +kernel
theorem d_X_checkShape_1 : decode b_X_checkShape 1 = .ok (.ifCond .lt 9, 3) := by decide +kernel
theorem d_X_checkShape_4 : decode b_X_checkShape 4 = .ok (.iload_n 0, 1) := by decide +kernel
theorem d_X_checkShape_5 : decode b_X_checkShape 5 = .ok (.bipush 8, 2) := by decide +kernel
theorem d_X_checkShape_7 : decode b_X_checkShape 7 = .ok (.if_icmp .lt 13, 3) := by decide +kernel
theorem d_X_checkShape_10 : decode b_X_checkShape 10 = .ok (.new 163, 3) := by decide +kernel
theorem d_X_checkShape_13 : decode b_X_checkShape 13 = .ok (.dup, 1) := by decide +kernel
theorem d_X_checkShape_14 : decode b_X_checkShape 14 = .ok (.ldc 196, 2) := by decide +kernel
theorem d_X_checkShape_16 : decode b_X_checkShape 16 = .ok (.invokespecial 167, 3) := by decide +kernel
theorem d_X_checkShape_19 : decode b_X_checkShape 19 = .ok (.athrow, 1) := by decide +kernel
theorem d_X_checkShape_20 : decode b_X_checkShape 20 = .ok (.return_, 1) := by decide +kernel
theorem d_X_checkShapes_0 : decode b_X_checkShapes 0 = .ok (.iload_n 0, 1) := by decide +kernel
theorem d_X_checkShapes_1 : decode b_X_checkShapes 1 = .ok (.invokestatic 58, 3) := by decide +kernel
theorem d_X_checkShapes_4 : decode b_X_checkShapes 4 = .ok (.iload_n 1, 1) := by decide +kernel
theorem d_X_checkShapes_5 : decode b_X_checkShapes 5 = .ok (.invokestatic 58, 3) := by decide +kernel
theorem d_X_checkShapes_8 : decode b_X_checkShapes 8 = .ok (.iload_n 2, 1) := by decide +kernel
theorem d_X_checkShapes_9 : decode b_X_checkShapes 9 = .ok (.invokestatic 58, 3) := by decide +kernel
theorem d_X_checkShapes_12 : decode b_X_checkShapes 12 = .ok (.return_, 1) := by decide +kernel
theorem d_X_checkName_0 : decode b_X_checkName 0 = .ok (.iload_n 1, 1) := by decide +kernel
theorem d_X_checkName_1 : decode b_X_checkName 1 = .ok (.iconst 1, 1) := by decide +kernel
theorem d_X_checkName_2 : decode b_X_checkName 2 = .ok (.if_icmp .lt 11, 3) := by decide +kernel
theorem d_X_checkName_5 : decode b_X_checkName 5 = .ok (.iload_n 1, 1) := by decide +kernel
theorem d_X_checkName_6 : decode b_X_checkName 6 = .ok (.aload_n 0, 1) := by decide +kernel
theorem d_X_checkName_7 : decode b_X_checkName 7 = .ok (.getfield 18, 3) := by decide +kernel
theorem d_X_checkName_10 : decode b_X_checkName 10 = .ok (.if_icmp .le 13, 3) := by decide +kernel
theorem d_X_checkName_13 : decode b_X_checkName 13 = .ok (.new 163, 3) := by decide +kernel
theorem d_X_checkName_16 : decode b_X_checkName 16 = .ok (.dup, 1) := by decide +kernel
theorem d_X_checkName_17 : decode b_X_checkName 17 = .ok (.ldc 198, 2) := by decide +kernel
theorem d_X_checkName_19 : decode b_X_checkName 19 = .ok (.invokespecial 167, 3) := by decide +kernel
theorem d_X_checkName_22 : decode b_X_checkName 22 = .ok (.athrow, 1) := by decide +kernel
theorem d_X_checkName_23 : decode b_X_checkName 23 = .ok (.return_, 1) := by decide +kernel
theorem d_X_checkTerm_0 : decode b_X_checkTerm 0 = .ok (.iload_n 1, 1) := by decide +kernel
theorem d_X_checkTerm_1 : decode b_X_checkTerm 1 = .ok (.aload_n 0, 1) := by decide +kernel
theorem d_X_checkTerm_2 : decode b_X_checkTerm 2 = .ok (.getfield 18, 3) := by decide +kernel
theorem d_X_checkTerm_5 : decode b_X_checkTerm 5 = .ok (.ineg, 1) := by decide +kernel
theorem d_X_checkTerm_6 : decode b_X_checkTerm 6 = .ok (.if_icmp .lt 11, 3) := by decide +kernel
theorem d_X_checkTerm_9 : decode b_X_checkTerm 9 = .ok (.iload_n 1, 1) := by decide +kernel
theorem d_X_checkTerm_10 : decode b_X_checkTerm 10 = .ok (.aload_n 0, 1) := by decide +kernel
theorem d_X_checkTerm_11 : decode b_X_checkTerm 11 = .ok (.getfield 18, 3) := by decide +kernel
theorem d_X_checkTerm_14 : decode b_X_checkTerm 14 = .ok (.if_icmp .le 13, 3) := by decide +kernel
theorem d_X_checkTerm_17 : decode b_X_checkTerm 17 = .ok (.new 163, 3) := by decide +kernel
theorem d_X_checkTerm_20 : decode b_X_checkTerm 20 = .ok (.dup, 1) := by decide +kernel
theorem d_X_checkTerm_21 : decode b_X_checkTerm 21 = .ok (.ldc 200, 2) := by decide +kernel
theorem d_X_checkTerm_23 : decode b_X_checkTerm 23 = .ok (.invokespecial 167, 3) := by decide +kernel
theorem d_X_checkTerm_26 : decode b_X_checkTerm 26 = .ok (.athrow, 1) := by decide +kernel
theorem d_X_checkTerm_27 : decode b_X_checkTerm 27 = .ok (.return_, 1) := by decide +kernel
theorem d_X_checkGiven_0 : decode b_X_checkGiven 0 = .ok (.lload_n 0, 1) := by decide +kernel
theorem d_X_checkGiven_1 : decode b_X_checkGiven 1 = .ok (.ldc2_w 202, 3) := by decide +kernel
theorem d_X_checkGiven_4 : decode b_X_checkGiven 4 = .ok (.lcmp, 1) := by decide +kernel
theorem d_X_checkGiven_5 : decode b_X_checkGiven 5 = .ok (.ifCond .lt 11, 3) := by decide +kernel
theorem d_X_checkGiven_8 : decode b_X_checkGiven 8 = .ok (.lload_n 0, 1) := by decide +kernel
theorem d_X_checkGiven_9 : decode b_X_checkGiven 9 = .ok (.ldc2_w 204, 3) := by decide +kernel
theorem d_X_checkGiven_12 : decode b_X_checkGiven 12 = .ok (.lcmp, 1) := by decide +kernel
theorem d_X_checkGiven_13 : decode b_X_checkGiven 13 = .ok (.ifCond .le 13, 3) := by decide +kernel
theorem d_X_checkGiven_16 : decode b_X_checkGiven 16 = .ok (.new 170, 3) := by decide +kernel
theorem d_X_checkGiven_19 : decode b_X_checkGiven 19 = .ok (.dup, 1) := by decide +kernel
theorem d_X_checkGiven_20 : decode b_X_checkGiven 20 = .ok (.ldc 206, 2) := by decide +kernel
theorem d_X_checkGiven_22 : decode b_X_checkGiven 22 = .ok (.invokespecial 174, 3) := by decide +kernel
theorem d_X_checkGiven_25 : decode b_X_checkGiven 25 = .ok (.athrow, 1) := by decide +kernel
theorem d_X_checkGiven_26 : decode b_X_checkGiven 26 = .ok (.return_, 1) := by decide +kernel
theorem d_X_placeOf_0 : decode b_X_placeOf 0 = .ok (.iload_n 0, 1) := by decide +kernel
theorem d_X_placeOf_1 : decode b_X_placeOf 1 = .ok (.ifCond .le 11, 3) := by decide +kernel
theorem d_X_placeOf_4 : decode b_X_placeOf 4 = .ok (.iconst 2, 1) := by decide +kernel
theorem d_X_placeOf_5 : decode b_X_placeOf 5 = .ok (.iload_n 0, 1) := by decide +kernel
theorem d_X_placeOf_6 : decode b_X_placeOf 6 = .ok (.iconst 1, 1) := by decide +kernel
theorem d_X_placeOf_7 : decode b_X_placeOf 7 = .ok (.isub, 1) := by decide +kernel
theorem d_X_placeOf_8 : decode b_X_placeOf 8 = .ok (.imul, 1) := by decide +kernel
theorem d_X_placeOf_9 : decode b_X_placeOf 9 = .ok (.goto 11, 3) := by decide +kernel
theorem d_X_placeOf_12 : decode b_X_placeOf 12 = .ok (.iconst 2, 1) := by decide +kernel
theorem d_X_placeOf_13 : decode b_X_placeOf 13 = .ok (.iload_n 0, 1) := by decide +kernel
theorem d_X_placeOf_14 : decode b_X_placeOf 14 = .ok (.ineg, 1) := by decide +kernel
theorem d_X_placeOf_15 : decode b_X_placeOf 15 = .ok (.iconst 1, 1) := by decide +kernel
theorem d_X_placeOf_16 : decode b_X_placeOf 16 = .ok (.isub, 1) := by decide +kernel
theorem d_X_placeOf_17 : decode b_X_placeOf 17 = .ok (.imul, 1) := by decide +kernel
theorem d_X_placeOf_18 : decode b_X_placeOf 18 = .ok (.iconst 1, 1) := by decide +kernel
theorem d_X_placeOf_19 : decode b_X_placeOf 19 = .ok (.iadd, 1) := by decide +kernel
theorem d_X_placeOf_20 : decode b_X_placeOf 20 = .ok (.ireturn, 1) := by decide +kernel
theorem d_X_termAt_0 : decode b_X_termAt 0 = .ok (.iload_n 0, 1) := by decide +kernel
theorem d_X_termAt_1 : decode b_X_termAt 1 = .ok (.iconst 2, 1) := by decide +kernel
theorem d_X_termAt_2 : decode b_X_termAt 2 = .ok (.idiv, 1) := by decide +kernel
theorem d_X_termAt_3 : decode b_X_termAt 3 = .ok (.iconst 1, 1) := by decide +kernel
theorem d_X_termAt_4 : decode b_X_termAt 4 = .ok (.iadd, 1) := by decide +kernel
theorem d_X_termAt_5 : decode b_X_termAt 5 = .ok (.istore_n 1, 1) := by decide +kernel
theorem d_X_termAt_6 : decode b_X_termAt 6 = .ok (.iload_n 0, 1) := by decide +kernel
theorem d_X_termAt_7 : decode b_X_termAt 7 = .ok (.iconst 2, 1) := by decide +kernel
theorem d_X_termAt_8 : decode b_X_termAt 8 = .ok (.irem, 1) := by decide +kernel
theorem d_X_termAt_9 : decode b_X_termAt 9 = .ok (.ifCond .ne 7, 3) := by decide +kernel
theorem d_X_termAt_12 : decode b_X_termAt 12 = .ok (.iload_n 1, 1) := by decide +kernel
theorem d_X_termAt_13 : decode b_X_termAt 13 = .ok (.goto 5, 3) := by decide +kernel
theorem d_X_termAt_16 : decode b_X_termAt 16 = .ok (.iload_n 1, 1) := by decide +kernel
theorem d_X_termAt_17 : decode b_X_termAt 17 = .ok (.ineg, 1) := by decide +kernel
theorem d_X_termAt_18 : decode b_X_termAt 18 = .ok (.ireturn, 1) := by decide +kernel
theorem d_X_placeOfNextName_0 : decode b_X_placeOfNextName 0 = .ok (.iload_n 0, 1) := by decide +kernel
theorem d_X_placeOfNextName_1 : decode b_X_placeOfNextName 1 = .ok (.iconst 1, 1) := by decide +kernel
theorem d_X_placeOfNextName_2 : decode b_X_placeOfNextName 2 = .ok (.ior, 1) := by decide +kernel
theorem d_X_placeOfNextName_3 : decode b_X_placeOfNextName 3 = .ok (.iconst 1, 1) := by decide +kernel
theorem d_X_placeOfNextName_4 : decode b_X_placeOfNextName 4 = .ok (.iadd, 1) := by decide +kernel
theorem d_X_placeOfNextName_5 : decode b_X_placeOfNextName 5 = .ok (.ireturn, 1) := by decide +kernel
theorem d_X_plus_0 : decode b_X_plus 0 = .ok (.lload_n 0, 1) := by decide +kernel
theorem d_X_plus_1 : decode b_X_plus 1 = .ok (.ldc2_w 87, 3) := by decide +kernel
theorem d_X_plus_4 : decode b_X_plus 4 = .ok (.lcmp, 1) := by decide +kernel
theorem d_X_plus_5 : decode b_X_plus 5 = .ok (.ifCond .eq 11, 3) := by decide +kernel
theorem d_X_plus_8 : decode b_X_plus 8 = .ok (.lload_n 2, 1) := by decide +kernel
theorem d_X_plus_9 : decode b_X_plus 9 = .ok (.ldc2_w 87, 3) := by decide +kernel
theorem d_X_plus_12 : decode b_X_plus 12 = .ok (.lcmp, 1) := by decide +kernel
theorem d_X_plus_13 : decode b_X_plus 13 = .ok (.ifCond .ne 9, 3) := by decide +kernel
theorem d_X_plus_16 : decode b_X_plus 16 = .ok (.ldc2_w 87, 3) := by decide +kernel
theorem d_X_plus_19 : decode b_X_plus 19 = .ok (.goto 6, 3) := by decide +kernel
theorem d_X_plus_22 : decode b_X_plus 22 = .ok (.lload_n 0, 1) := by decide +kernel
theorem d_X_plus_23 : decode b_X_plus 23 = .ok (.lload_n 2, 1) := by decide +kernel
theorem d_X_plus_24 : decode b_X_plus 24 = .ok (.ladd, 1) := by decide +kernel
theorem d_X_plus_25 : decode b_X_plus 25 = .ok (.lreturn, 1) := by decide +kernel
theorem d_X_takeMade_0 : decode b_X_takeMade 0 = .ok (.aload_n 0, 1) := by decide +kernel
theorem d_X_takeMade_1 : decode b_X_takeMade 1 = .ok (.getfield 34, 3) := by decide +kernel
theorem d_X_takeMade_4 : decode b_X_takeMade 4 = .ok (.getfield 123, 3) := by decide +kernel
theorem d_X_takeMade_7 : decode b_X_takeMade 7 = .ok (.ifCond .ne 26, 3) := by decide +kernel
theorem d_X_takeMade_10 : decode b_X_takeMade 10 = .ok (.aload_n 0, 1) := by decide +kernel
theorem d_X_takeMade_11 : decode b_X_takeMade 11 = .ok (.getfield 34, 3) := by decide +kernel
theorem d_X_takeMade_14 : decode b_X_takeMade 14 = .ok (.getfield 127, 3) := by decide +kernel
theorem d_X_takeMade_17 : decode b_X_takeMade 17 = .ok (.invokevirtual 208, 3) := by decide +kernel
theorem d_X_takeMade_20 : decode b_X_takeMade 20 = .ok (.ifCond .eq 13, 3) := by decide +kernel
theorem d_X_takeMade_23 : decode b_X_takeMade 23 = .ok (.new 211, 3) := by decide +kernel
theorem d_X_takeMade_26 : decode b_X_takeMade 26 = .ok (.dup, 1) := by decide +kernel
theorem d_X_takeMade_27 : decode b_X_takeMade 27 = .ok (.ldc 213, 2) := by decide +kernel
theorem d_X_takeMade_29 : decode b_X_takeMade 29 = .ok (.invokespecial 215, 3) := by decide +kernel
theorem d_X_takeMade_32 : decode b_X_takeMade 32 = .ok (.athrow, 1) := by decide +kernel
theorem d_X_takeMade_33 : decode b_X_takeMade 33 = .ok (.aload_n 0, 1) := by decide +kernel
theorem d_X_takeMade_34 : decode b_X_takeMade 34 = .ok (.getfield 27, 3) := by decide +kernel
theorem d_X_takeMade_37 : decode b_X_takeMade 37 = .ok (.iload_n 1, 1) := by decide +kernel
theorem d_X_takeMade_38 : decode b_X_takeMade 38 = .ok (.aaload, 1) := by decide +kernel
theorem d_X_takeMade_39 : decode b_X_takeMade 39 = .ok (.aload_n 0, 1) := by decide +kernel
theorem d_X_takeMade_40 : decode b_X_takeMade 40 = .ok (.getfield 34, 3) := by decide +kernel
theorem d_X_takeMade_43 : decode b_X_takeMade 43 = .ok (.invokevirtual 71, 3) := by decide +kernel
theorem d_X_takeMade_46 : decode b_X_takeMade 46 = .ok (.aload_n 0, 1) := by decide +kernel
theorem d_X_takeMade_47 : decode b_X_takeMade 47 = .ok (.getfield 34, 3) := by decide +kernel
theorem d_X_takeMade_50 : decode b_X_takeMade 50 = .ok (.getfield 123, 3) := by decide +kernel
theorem d_X_takeMade_53 : decode b_X_takeMade 53 = .ok (.ifCond .eq 7, 3) := by decide +kernel
theorem d_X_takeMade_56 : decode b_X_takeMade 56 = .ok (.iconst 0, 1) := by decide +kernel
theorem d_X_takeMade_57 : decode b_X_takeMade 57 = .ok (.goto 4, 3) := by decide +kernel
theorem d_X_takeMade_60 : decode b_X_takeMade 60 = .ok (.iconst 1, 1) := by decide +kernel
theorem d_X_takeMade_61 : decode b_X_takeMade 61 = .ok (.ireturn, 1) := by decide +kernel
theorem d_X_countEmpty_0 : decode b_X_countEmpty 0 = .ok (.iconst 0, 1) := by decide +kernel
theorem d_X_countEmpty_1 : decode b_X_countEmpty 1 = .ok (.istore_n 1, 1) := by decide +kernel
theorem d_X_countEmpty_2 : decode b_X_countEmpty 2 = .ok (.iconst 0, 1) := by decide +kernel
theorem d_X_countEmpty_3 : decode b_X_countEmpty 3 = .ok (.istore_n 2, 1) := by decide +kernel
theorem d_X_countEmpty_4 : decode b_X_countEmpty 4 = .ok (.iload_n 2, 1) := by decide +kernel
theorem d_X_countEmpty_5 : decode b_X_countEmpty 5 = .ok (.bipush 8, 2) := by decide +kernel
theorem d_X_countEmpty_7 : decode b_X_countEmpty 7 = .ok (.if_icmp .ge 29, 3) := by decide +kernel
theorem d_X_countEmpty_10 : decode b_X_countEmpty 10 = .ok (.iload_n 1, 1) := by decide +kernel
theorem d_X_countEmpty_11 : decode b_X_countEmpty 11 = .ok (.aload_n 0, 1) := by decide +kernel
theorem d_X_countEmpty_12 : decode b_X_countEmpty 12 = .ok (.getfield 27, 3) := by decide +kernel
theorem d_X_countEmpty_15 : decode b_X_countEmpty 15 = .ok (.iload_n 2, 1) := by decide +kernel
theorem d_X_countEmpty_16 : decode b_X_countEmpty 16 = .ok (.aaload, 1) := by decide +kernel
theorem d_X_countEmpty_17 : decode b_X_countEmpty 17 = .ok (.getfield 123, 3) := by decide +kernel
theorem d_X_countEmpty_20 : decode b_X_countEmpty 20 = .ok (.ifCond .eq 7, 3) := by decide +kernel
theorem d_X_countEmpty_23 : decode b_X_countEmpty 23 = .ok (.iconst 1, 1) := by decide +kernel
theorem d_X_countEmpty_24 : decode b_X_countEmpty 24 = .ok (.goto 4, 3) := by decide +kernel
theorem d_X_countEmpty_27 : decode b_X_countEmpty 27 = .ok (.iconst 0, 1) := by decide +kernel
theorem d_X_countEmpty_28 : decode b_X_countEmpty 28 = .ok (.iadd, 1) := by decide +kernel
theorem d_X_countEmpty_29 : decode b_X_countEmpty 29 = .ok (.istore_n 1, 1) := by decide +kernel
theorem d_X_countEmpty_30 : decode b_X_countEmpty 30 = .ok (.iinc 2 1, 3) := by decide +kernel
theorem d_X_countEmpty_33 : decode b_X_countEmpty 33 = .ok (.goto (-29), 3) := by decide +kernel
theorem d_X_countEmpty_36 : decode b_X_countEmpty 36 = .ok (.iload_n 1, 1) := by decide +kernel
theorem d_X_countEmpty_37 : decode b_X_countEmpty 37 = .ok (.ireturn, 1) := by decide +kernel
theorem d_X_numberAt_0 : decode b_X_numberAt 0 = .ok (.aload_n 0, 1) := by decide +kernel
theorem d_X_numberAt_1 : decode b_X_numberAt 1 = .ok (.getfield 48, 3) := by decide +kernel
theorem d_X_numberAt_4 : decode b_X_numberAt 4 = .ok (.iload_n 1, 1) := by decide +kernel
theorem d_X_numberAt_5 : decode b_X_numberAt 5 = .ok (.iconst 2, 1) := by decide +kernel
theorem d_X_numberAt_6 : decode b_X_numberAt 6 = .ok (.idiv, 1) := by decide +kernel
theorem d_X_numberAt_7 : decode b_X_numberAt 7 = .ok (.laload, 1) := by decide +kernel
theorem d_X_numberAt_8 : decode b_X_numberAt 8 = .ok (.lstore_n 2, 1) := by decide +kernel
theorem d_X_numberAt_9 : decode b_X_numberAt 9 = .ok (.iload_n 1, 1) := by decide +kernel
theorem d_X_numberAt_10 : decode b_X_numberAt 10 = .ok (.iconst 2, 1) := by decide +kernel
theorem d_X_numberAt_11 : decode b_X_numberAt 11 = .ok (.irem, 1) := by decide +kernel
theorem d_X_numberAt_12 : decode b_X_numberAt 12 = .ok (.ifCond .ne 7, 3) := by decide +kernel
theorem d_X_numberAt_15 : decode b_X_numberAt 15 = .ok (.lload_n 2, 1) := by decide +kernel
theorem d_X_numberAt_16 : decode b_X_numberAt 16 = .ok (.goto 5, 3) := by decide +kernel
theorem d_X_numberAt_19 : decode b_X_numberAt 19 = .ok (.lload_n 2, 1) := by decide +kernel
theorem d_X_numberAt_20 : decode b_X_numberAt 20 = .ok (.lneg, 1) := by decide +kernel
theorem d_X_numberAt_21 : decode b_X_numberAt 21 = .ok (.lreturn, 1) := by decide +kernel
theorem d_X_sampleNumber_0 : decode b_X_sampleNumber 0 = .ok (.aload_n 0, 1) := by decide +kernel
theorem d_X_sampleNumber_1 : decode b_X_sampleNumber 1 = .ok (.aload_n 1, 1) := by decide +kernel
theorem d_X_sampleNumber_2 : decode b_X_sampleNumber 2 = .ok (.iload_n 2, 1) := by decide +kernel
theorem d_X_sampleNumber_3 : decode b_X_sampleNumber 3 = .ok (.ineg, 1) := by decide +kernel
theorem d_X_sampleNumber_4 : decode b_X_sampleNumber 4 = .ok (.invokestatic 177, 3) := by decide +kernel
theorem d_X_sampleNumber_7 : decode b_X_sampleNumber 7 = .ok (.invokevirtual 216, 3) := by decide +kernel
theorem d_X_sampleNumber_10 : decode b_X_sampleNumber 10 = .ok (.lstore_n 3, 1) := by decide +kernel
theorem d_X_sampleNumber_11 : decode b_X_sampleNumber 11 = .ok (.lload_n 3, 1) := by decide +kernel
theorem d_X_sampleNumber_12 : decode b_X_sampleNumber 12 = .ok (.ldc2_w 87, 3) := by decide +kernel
theorem d_X_sampleNumber_15 : decode b_X_sampleNumber 15 = .ok (.lcmp, 1) := by decide +kernel
theorem d_X_sampleNumber_16 : decode b_X_sampleNumber 16 = .ok (.ifCond .eq 6, 3) := by decide +kernel
theorem d_X_sampleNumber_19 : decode b_X_sampleNumber 19 = .ok (.lload_n 3, 1) := by decide +kernel
theorem d_X_sampleNumber_20 : decode b_X_sampleNumber 20 = .ok (.lneg, 1) := by decide +kernel
theorem d_X_sampleNumber_21 : decode b_X_sampleNumber 21 = .ok (.lreturn, 1) := by decide +kernel
theorem d_X_sampleNumber_22 : decode b_X_sampleNumber 22 = .ok (.aload_n 0, 1) := by decide +kernel
theorem d_X_sampleNumber_23 : decode b_X_sampleNumber 23 = .ok (.aload_n 1, 1) := by decide +kernel
theorem d_X_sampleNumber_24 : decode b_X_sampleNumber 24 = .ok (.iload_n 2, 1) := by decide +kernel
theorem d_X_sampleNumber_25 : decode b_X_sampleNumber 25 = .ok (.invokestatic 177, 3) := by decide +kernel
theorem d_X_sampleNumber_28 : decode b_X_sampleNumber 28 = .ok (.invokevirtual 216, 3) := by decide +kernel
theorem d_X_sampleNumber_31 : decode b_X_sampleNumber 31 = .ok (.lstore 5, 2) := by decide +kernel
theorem d_X_sampleNumber_33 : decode b_X_sampleNumber 33 = .ok (.lload 5, 2) := by decide +kernel
theorem d_X_sampleNumber_35 : decode b_X_sampleNumber 35 = .ok (.ldc2_w 87, 3) := by decide +kernel
theorem d_X_sampleNumber_38 : decode b_X_sampleNumber 38 = .ok (.lcmp, 1) := by decide +kernel
theorem d_X_sampleNumber_39 : decode b_X_sampleNumber 39 = .ok (.ifCond .eq 8, 3) := by decide +kernel
theorem d_X_sampleNumber_42 : decode b_X_sampleNumber 42 = .ok (.lload 5, 2) := by decide +kernel
theorem d_X_sampleNumber_44 : decode b_X_sampleNumber 44 = .ok (.goto 4, 3) := by decide +kernel
theorem d_X_sampleNumber_47 : decode b_X_sampleNumber 47 = .ok (.lconst 0, 1) := by decide +kernel
theorem d_X_sampleNumber_48 : decode b_X_sampleNumber 48 = .ok (.lreturn, 1) := by decide +kernel
theorem d_X_greatestBeside_0 : decode b_X_greatestBeside 0 = .ok (.aload_n 1, 1) := by decide +kernel
theorem d_X_greatestBeside_1 : decode b_X_greatestBeside 1 = .ok (.iload_n 2, 1) := by decide +kernel
theorem d_X_greatestBeside_2 : decode b_X_greatestBeside 2 = .ok (.invokevirtual 219, 3) := by decide +kernel
theorem d_X_greatestBeside_5 : decode b_X_greatestBeside 5 = .ok (.lstore_n 3, 1) := by decide +kernel
theorem d_X_greatestBeside_6 : decode b_X_greatestBeside 6 = .ok (.iload_n 2, 1) := by decide +kernel
theorem d_X_greatestBeside_7 : decode b_X_greatestBeside 7 = .ok (.iload_n 2, 1) := by decide +kernel
theorem d_X_greatestBeside_8 : decode b_X_greatestBeside 8 = .ok (.iconst 2, 1) := by decide +kernel
theorem d_X_greatestBeside_9 : decode b_X_greatestBeside 9 = .ok (.irem, 1) := by decide +kernel
theorem d_X_greatestBeside_10 : decode b_X_greatestBeside 10 = .ok (.isub, 1) := by decide +kernel
theorem d_X_greatestBeside_11 : decode b_X_greatestBeside 11 = .ok (.istore 5, 2) := by decide +kernel
theorem d_X_greatestBeside_13 : decode b_X_greatestBeside 13 = .ok (.iconst 0, 1) := by decide +kernel
theorem d_X_greatestBeside_14 : decode b_X_greatestBeside 14 = .ok (.istore 6, 2) := by decide +kernel
theorem d_X_greatestBeside_16 : decode b_X_greatestBeside 16 = .ok (.iload 6, 2) := by decide +kernel
theorem d_X_greatestBeside_18 : decode b_X_greatestBeside 18 = .ok (.iload 5, 2) := by decide +kernel
theorem d_X_greatestBeside_20 : decode b_X_greatestBeside 20 = .ok (.if_icmp .ge 31, 3) := by decide +kernel
theorem d_X_greatestBeside_23 : decode b_X_greatestBeside 23 = .ok (.lload_n 3, 1) := by decide +kernel
theorem d_X_greatestBeside_24 : decode b_X_greatestBeside 24 = .ok (.aload_n 1, 1) := by decide +kernel
theorem d_X_greatestBeside_25 : decode b_X_greatestBeside 25 = .ok (.iload_n 2, 1) := by decide +kernel
theorem d_X_greatestBeside_26 : decode b_X_greatestBeside 26 = .ok (.iload 6, 2) := by decide +kernel
theorem d_X_greatestBeside_28 : decode b_X_greatestBeside 28 = .ok (.invokevirtual 138, 3) := by decide +kernel
theorem d_X_greatestBeside_31 : decode b_X_greatestBeside 31 = .ok (.aload_n 0, 1) := by decide +kernel
theorem d_X_greatestBeside_32 : decode b_X_greatestBeside 32 = .ok (.iload 6, 2) := by decide +kernel
theorem d_X_greatestBeside_34 : decode b_X_greatestBeside 34 = .ok (.invokevirtual 134, 3) := by decide +kernel
theorem d_X_greatestBeside_37 : decode b_X_greatestBeside 37 = .ok (.lneg, 1) := by decide +kernel
theorem d_X_greatestBeside_38 : decode b_X_greatestBeside 38 = .ok (.invokestatic 222, 3) := by decide +kernel
theorem d_X_greatestBeside_41 : decode b_X_greatestBeside 41 = .ok (.invokestatic 226, 3) := by decide +kernel
theorem d_X_greatestBeside_44 : decode b_X_greatestBeside 44 = .ok (.lstore_n 3, 1) := by decide +kernel
theorem d_X_greatestBeside_45 : decode b_X_greatestBeside 45 = .ok (.iinc 6 1, 3) := by decide +kernel
theorem d_X_greatestBeside_48 : decode b_X_greatestBeside 48 = .ok (.goto (-32), 3) := by decide +kernel
theorem d_X_greatestBeside_51 : decode b_X_greatestBeside 51 = .ok (.lload_n 3, 1) := by decide +kernel
theorem d_X_greatestBeside_52 : decode b_X_greatestBeside 52 = .ok (.lreturn, 1) := by decide +kernel
theorem d_X_leaveOutPairs_0 : decode b_X_leaveOutPairs 0 = .ok (.aload_n 0, 1) := by decide +kernel
theorem d_X_leaveOutPairs_1 : decode b_X_leaveOutPairs 1 = .ok (.getfield 22, 3) := by decide +kernel
theorem d_X_leaveOutPairs_4 : decode b_X_leaveOutPairs 4 = .ok (.iconst 1, 1) := by decide +kernel
theorem d_X_leaveOutPairs_5 : decode b_X_leaveOutPairs 5 = .ok (.isub, 1) := by decide +kernel
theorem d_X_leaveOutPairs_6 : decode b_X_leaveOutPairs 6 = .ok (.istore_n 1, 1) := by decide +kernel
theorem d_X_leaveOutPairs_7 : decode b_X_leaveOutPairs 7 = .ok (.iload_n 1, 1) := by decide +kernel
theorem d_X_leaveOutPairs_8 : decode b_X_leaveOutPairs 8 = .ok (.ifCond .lt 36, 3) := by decide +kernel
theorem d_X_leaveOutPairs_11 : decode b_X_leaveOutPairs 11 = .ok (.aload_n 0, 1) := by decide +kernel
theorem d_X_leaveOutPairs_12 : decode b_X_leaveOutPairs 12 = .ok (.getfield 22, 3) := by decide +kernel
theorem d_X_leaveOutPairs_15 : decode b_X_leaveOutPairs 15 = .ok (.iconst 1, 1) := by decide +kernel
theorem d_X_leaveOutPairs_16 : decode b_X_leaveOutPairs 16 = .ok (.isub, 1) := by decide +kernel
theorem d_X_leaveOutPairs_17 : decode b_X_leaveOutPairs 17 = .ok (.istore_n 2, 1) := by decide +kernel
theorem d_X_leaveOutPairs_18 : decode b_X_leaveOutPairs 18 = .ok (.iload_n 2, 1) := by decide +kernel
theorem d_X_leaveOutPairs_19 : decode b_X_leaveOutPairs 19 = .ok (.iload_n 1, 1) := by decide +kernel
theorem d_X_leaveOutPairs_20 : decode b_X_leaveOutPairs 20 = .ok (.invokestatic 228, 3) := by decide +kernel
theorem d_X_leaveOutPairs_23 : decode b_X_leaveOutPairs 23 = .ok (.if_icmp .lt 15, 3) := by decide +kernel
theorem d_X_leaveOutPairs_26 : decode b_X_leaveOutPairs 26 = .ok (.aload_n 0, 1) := by decide +kernel
theorem d_X_leaveOutPairs_27 : decode b_X_leaveOutPairs 27 = .ok (.iload_n 1, 1) := by decide +kernel
theorem d_X_leaveOutPairs_28 : decode b_X_leaveOutPairs 28 = .ok (.iload_n 2, 1) := by decide +kernel
theorem d_X_leaveOutPairs_29 : decode b_X_leaveOutPairs 29 = .ok (.invokevirtual 231, 3) := by decide +kernel
theorem d_X_leaveOutPairs_32 : decode b_X_leaveOutPairs 32 = .ok (.iinc 2 (-1), 3) := by decide +kernel
theorem d_X_leaveOutPairs_35 : decode b_X_leaveOutPairs 35 = .ok (.goto (-17), 3) := by decide +kernel
theorem d_X_leaveOutPairs_38 : decode b_X_leaveOutPairs 38 = .ok (.iinc 1 (-1), 3) := by decide +kernel
theorem d_X_leaveOutPairs_41 : decode b_X_leaveOutPairs 41 = .ok (.goto (-34), 3) := by decide +kernel
theorem d_X_leaveOutPairs_44 : decode b_X_leaveOutPairs 44 = .ok (.return_, 1) := by decide +kernel
theorem d_X_leaveOutSingles_0 : decode b_X_leaveOutSingles 0 = .ok (.aload_n 0, 1) := by decide +kernel
theorem d_X_leaveOutSingles_1 : decode b_X_leaveOutSingles 1 = .ok (.getfield 22, 3) := by decide +kernel
theorem d_X_leaveOutSingles_4 : decode b_X_leaveOutSingles 4 = .ok (.iconst 1, 1) := by decide +kernel
theorem d_X_leaveOutSingles_5 : decode b_X_leaveOutSingles 5 = .ok (.isub, 1) := by decide +kernel
theorem d_X_leaveOutSingles_6 : decode b_X_leaveOutSingles 6 = .ok (.istore_n 1, 1) := by decide +kernel
theorem d_X_leaveOutSingles_7 : decode b_X_leaveOutSingles 7 = .ok (.iload_n 1, 1) := by decide +kernel
theorem d_X_leaveOutSingles_8 : decode b_X_leaveOutSingles 8 = .ok (.ifCond .lt 15, 3) := by decide +kernel
theorem d_X_leaveOutSingles_11 : decode b_X_leaveOutSingles 11 = .ok (.aload_n 0, 1) := by decide +kernel
theorem d_X_leaveOutSingles_12 : decode b_X_leaveOutSingles 12 = .ok (.iload_n 1, 1) := by decide +kernel
theorem d_X_leaveOutSingles_13 : decode b_X_leaveOutSingles 13 = .ok (.iload_n 1, 1) := by decide +kernel
theorem d_X_leaveOutSingles_14 : decode b_X_leaveOutSingles 14 = .ok (.invokevirtual 231, 3) := by decide +kernel
theorem d_X_leaveOutSingles_17 : decode b_X_leaveOutSingles 17 = .ok (.iinc 1 (-1), 3) := by decide +kernel
theorem d_X_leaveOutSingles_20 : decode b_X_leaveOutSingles 20 = .ok (.goto (-13), 3) := by decide +kernel
theorem d_X_leaveOutSingles_23 : decode b_X_leaveOutSingles 23 = .ok (.return_, 1) := by decide +kernel
theorem d_X_leaveOutUnlessNeeded_0 : decode b_X_leaveOutUnlessNeeded 0 = .ok (.aload_n 0, 1) := by decide +kernel
theorem d_X_leaveOutUnlessNeeded_1 : decode b_X_leaveOutUnlessNeeded 1 = .ok (.getfield 41, 3) := by decide +kernel
theorem d_X_leaveOutUnlessNeeded_4 : decode b_X_leaveOutUnlessNeeded 4 = .ok (.iload_n 1, 1) := by decide +kernel
theorem d_X_leaveOutUnlessNeeded_5 : decode b_X_leaveOutUnlessNeeded 5 = .ok (.iload_n 2, 1) := by decide +kernel
theorem d_X_leaveOutUnlessNeeded_6 : decode b_X_leaveOutUnlessNeeded 6 = .ok (.invokevirtual 138, 3) := by decide +kernel
theorem d_X_leaveOutUnlessNeeded_9 : decode b_X_leaveOutUnlessNeeded 9 = .ok (.lstore_n 3, 1) := by decide +kernel
theorem d_X_leaveOutUnlessNeeded_10 : decode b_X_leaveOutUnlessNeeded 10 = .ok (.lload_n 3, 1) := by decide +kernel
theorem d_X_leaveOutUnlessNeeded_11 : decode b_X_leaveOutUnlessNeeded 11 = .ok (.ldc2_w 87, 3) := by decide +kernel
theorem d_X_leaveOutUnlessNeeded_14 : decode b_X_leaveOutUnlessNeeded 14 = .ok (.lcmp, 1) := by decide +kernel
theorem d_X_leaveOutUnlessNeeded_15 : decode b_X_leaveOutUnlessNeeded 15 = .ok (.ifCond .ne 4, 3) := by decide +kernel
theorem d_X_leaveOutUnlessNeeded_18 : decode b_X_leaveOutUnlessNeeded 18 = .ok (.return_, 1) := by decide +kernel
theorem d_X_leaveOutUnlessNeeded_19 : decode b_X_leaveOutUnlessNeeded 19 = .ok (.aload_n 0, 1) := by decide +kernel
theorem d_X_leaveOutUnlessNeeded_20 : decode b_X_leaveOutUnlessNeeded 20 = .ok (.getfield 41, 3) := by decide +kernel
theorem d_X_leaveOutUnlessNeeded_23 : decode b_X_leaveOutUnlessNeeded 23 = .ok (.iload_n 1, 1) := by decide +kernel
theorem d_X_leaveOutUnlessNeeded_24 : decode b_X_leaveOutUnlessNeeded 24 = .ok (.iload_n 2, 1) := by decide +kernel
theorem d_X_leaveOutUnlessNeeded_25 : decode b_X_leaveOutUnlessNeeded 25 = .ok (.ldc2_w 87, 3) := by decide +kernel
theorem d_X_leaveOutUnlessNeeded_28 : decode b_X_leaveOutUnlessNeeded 28 = .ok (.invokevirtual 235, 3) := by decide +kernel
theorem d_X_leaveOutUnlessNeeded_31 : decode b_X_leaveOutUnlessNeeded 31 = .ok (.aload_n 0, 1) := by decide +kernel
theorem d_X_leaveOutUnlessNeeded_32 : decode b_X_leaveOutUnlessNeeded 32 = .ok (.getfield 45, 3) := by decide +kernel
theorem d_X_leaveOutUnlessNeeded_35 : decode b_X_leaveOutUnlessNeeded 35 = .ok (.aload_n 0, 1) := by decide +kernel
theorem d_X_leaveOutUnlessNeeded_36 : decode b_X_leaveOutUnlessNeeded 36 = .ok (.getfield 41, 3) := by decide +kernel
theorem d_X_leaveOutUnlessNeeded_39 : decode b_X_leaveOutUnlessNeeded 39 = .ok (.invokevirtual 150, 3) := by decide +kernel
theorem d_X_leaveOutUnlessNeeded_42 : decode b_X_leaveOutUnlessNeeded 42 = .ok (.aload_n 0, 1) := by decide +kernel
theorem d_X_leaveOutUnlessNeeded_43 : decode b_X_leaveOutUnlessNeeded 43 = .ok (.getfield 45, 3) := by decide +kernel
theorem d_X_leaveOutUnlessNeeded_46 : decode b_X_leaveOutUnlessNeeded 46 = .ok (.invokevirtual 183, 3) := by decide +kernel
theorem d_X_leaveOutUnlessNeeded_49 : decode b_X_leaveOutUnlessNeeded 49 = .ok (.ifCond .eq 27, 3) := by decide +kernel
theorem d_X_leaveOutUnlessNeeded_52 : decode b_X_leaveOutUnlessNeeded 52 = .ok (.aload_n 0, 1) := by decide +kernel
theorem d_X_leaveOutUnlessNeeded_53 : decode b_X_leaveOutUnlessNeeded 53 = .ok (.getfield 45, 3) := by decide +kernel
theorem d_X_leaveOutUnlessNeeded_56 : decode b_X_leaveOutUnlessNeeded 56 = .ok (.iload_n 1, 1) := by decide +kernel
theorem d_X_leaveOutUnlessNeeded_57 : decode b_X_leaveOutUnlessNeeded 57 = .ok (.iload_n 2, 1) := by decide +kernel
theorem d_X_leaveOutUnlessNeeded_58 : decode b_X_leaveOutUnlessNeeded 58 = .ok (.invokevirtual 138, 3) := by decide +kernel
theorem d_X_leaveOutUnlessNeeded_61 : decode b_X_leaveOutUnlessNeeded 61 = .ok (.lload_n 3, 1) := by decide +kernel
theorem d_X_leaveOutUnlessNeeded_62 : decode b_X_leaveOutUnlessNeeded 62 = .ok (.lcmp, 1) := by decide +kernel
theorem d_X_leaveOutUnlessNeeded_63 : decode b_X_leaveOutUnlessNeeded 63 = .ok (.ifCond .le 13, 3) := by decide +kernel
theorem d_X_leaveOutUnlessNeeded_66 : decode b_X_leaveOutUnlessNeeded 66 = .ok (.aload_n 0, 1) := by decide +kernel
theorem d_X_leaveOutUnlessNeeded_67 : decode b_X_leaveOutUnlessNeeded 67 = .ok (.getfield 41, 3) := by decide +kernel
theorem d_X_leaveOutUnlessNeeded_70 : decode b_X_leaveOutUnlessNeeded 70 = .ok (.iload_n 1, 1) := by decide +kernel
theorem d_X_leaveOutUnlessNeeded_71 : decode b_X_leaveOutUnlessNeeded 71 = .ok (.iload_n 2, 1) := by decide +kernel
theorem d_X_leaveOutUnlessNeeded_72 : decode b_X_leaveOutUnlessNeeded 72 = .ok (.lload_n 3, 1) := by decide +kernel
theorem d_X_leaveOutUnlessNeeded_73 : decode b_X_leaveOutUnlessNeeded 73 = .ok (.invokevirtual 235, 3) := by decide +kernel
theorem d_X_leaveOutUnlessNeeded_76 : decode b_X_leaveOutUnlessNeeded 76 = .ok (.return_, 1) := by decide +kernel
theorem d_X_tellLeftRows_0 : decode b_X_tellLeftRows 0 = .ok (.iconst 0, 1) := by decide +kernel
theorem d_X_tellLeftRows_1 : decode b_X_tellLeftRows 1 = .ok (.istore_n 1, 1) := by decide +kernel
theorem d_X_tellLeftRows_2 : decode b_X_tellLeftRows 2 = .ok (.iload_n 1, 1) := by decide +kernel
theorem d_X_tellLeftRows_3 : decode b_X_tellLeftRows 3 = .ok (.aload_n 0, 1) := by decide +kernel
theorem d_X_tellLeftRows_4 : decode b_X_tellLeftRows 4 = .ok (.getfield 22, 3) := by decide +kernel
theorem d_X_tellLeftRows_7 : decode b_X_tellLeftRows 7 = .ok (.if_icmp .ge 42, 3) := by decide +kernel
theorem d_X_tellLeftRows_10 : decode b_X_tellLeftRows 10 = .ok (.aload_n 0, 1) := by decide +kernel
theorem d_X_tellLeftRows_11 : decode b_X_tellLeftRows 11 = .ok (.getfield 41, 3) := by decide +kernel
theorem d_X_tellLeftRows_14 : decode b_X_tellLeftRows 14 = .ok (.iload_n 1, 1) := by decide +kernel
theorem d_X_tellLeftRows_15 : decode b_X_tellLeftRows 15 = .ok (.iload_n 1, 1) := by decide +kernel
theorem d_X_tellLeftRows_16 : decode b_X_tellLeftRows 16 = .ok (.invokevirtual 138, 3) := by decide +kernel
theorem d_X_tellLeftRows_19 : decode b_X_tellLeftRows 19 = .ok (.ldc2_w 87, 3) := by decide +kernel
theorem d_X_tellLeftRows_22 : decode b_X_tellLeftRows 22 = .ok (.lcmp, 1) := by decide +kernel
theorem d_X_tellLeftRows_23 : decode b_X_tellLeftRows 23 = .ok (.ifCond .eq 20, 3) := by decide +kernel
theorem d_X_tellLeftRows_26 : decode b_X_tellLeftRows 26 = .ok (.aload_n 0, 1) := by decide +kernel
theorem d_X_tellLeftRows_27 : decode b_X_tellLeftRows 27 = .ok (.iload_n 1, 1) := by decide +kernel
theorem d_X_tellLeftRows_28 : decode b_X_tellLeftRows 28 = .ok (.invokestatic 238, 3) := by decide +kernel
theorem d_X_tellLeftRows_31 : decode b_X_tellLeftRows 31 = .ok (.iconst 0, 1) := by decide +kernel
theorem d_X_tellLeftRows_32 : decode b_X_tellLeftRows 32 = .ok (.aload_n 0, 1) := by decide +kernel
theorem d_X_tellLeftRows_33 : decode b_X_tellLeftRows 33 = .ok (.getfield 41, 3) := by decide +kernel
theorem d_X_tellLeftRows_36 : decode b_X_tellLeftRows 36 = .ok (.iload_n 1, 1) := by decide +kernel
theorem d_X_tellLeftRows_37 : decode b_X_tellLeftRows 37 = .ok (.invokevirtual 219, 3) := by decide +kernel
theorem d_X_tellLeftRows_40 : decode b_X_tellLeftRows 40 = .ok (.invokevirtual 147, 3) := by decide +kernel
theorem d_X_tellLeftRows_43 : decode b_X_tellLeftRows 43 = .ok (.iinc 1 1, 3) := by decide +kernel
theorem d_X_tellLeftRows_46 : decode b_X_tellLeftRows 46 = .ok (.goto (-44), 3) := by decide +kernel
theorem d_X_tellLeftRows_49 : decode b_X_tellLeftRows 49 = .ok (.iconst 0, 1) := by decide +kernel
theorem d_X_tellLeftRows_50 : decode b_X_tellLeftRows 50 = .ok (.istore_n 1, 1) := by decide +kernel
theorem d_X_tellLeftRows_51 : decode b_X_tellLeftRows 51 = .ok (.iload_n 1, 1) := by decide +kernel
theorem d_X_tellLeftRows_52 : decode b_X_tellLeftRows 52 = .ok (.aload_n 0, 1) := by decide +kernel
theorem d_X_tellLeftRows_53 : decode b_X_tellLeftRows 53 = .ok (.getfield 22, 3) := by decide +kernel
theorem d_X_tellLeftRows_56 : decode b_X_tellLeftRows 56 = .ok (.if_icmp .ge 65, 3) := by decide +kernel
theorem d_X_tellLeftRows_59 : decode b_X_tellLeftRows 59 = .ok (.iload_n 1, 1) := by decide +kernel
theorem d_X_tellLeftRows_60 : decode b_X_tellLeftRows 60 = .ok (.invokestatic 228, 3) := by decide +kernel
theorem d_X_tellLeftRows_63 : decode b_X_tellLeftRows 63 = .ok (.istore_n 2, 1) := by decide +kernel
theorem d_X_tellLeftRows_64 : decode b_X_tellLeftRows 64 = .ok (.iload_n 2, 1) := by decide +kernel
theorem d_X_tellLeftRows_65 : decode b_X_tellLeftRows 65 = .ok (.aload_n 0, 1) := by decide +kernel
theorem d_X_tellLeftRows_66 : decode b_X_tellLeftRows 66 = .ok (.getfield 22, 3) := by decide +kernel
theorem d_X_tellLeftRows_69 : decode b_X_tellLeftRows 69 = .ok (.if_icmp .ge 46, 3) := by decide +kernel
theorem d_X_tellLeftRows_72 : decode b_X_tellLeftRows 72 = .ok (.aload_n 0, 1) := by decide +kernel
theorem d_X_tellLeftRows_73 : decode b_X_tellLeftRows 73 = .ok (.getfield 41, 3) := by decide +kernel
theorem d_X_tellLeftRows_76 : decode b_X_tellLeftRows 76 = .ok (.iload_n 1, 1) := by decide +kernel
theorem d_X_tellLeftRows_77 : decode b_X_tellLeftRows 77 = .ok (.iload_n 2, 1) := by decide +kernel
theorem d_X_tellLeftRows_78 : decode b_X_tellLeftRows 78 = .ok (.invokevirtual 138, 3) := by decide +kernel
theorem d_X_tellLeftRows_81 : decode b_X_tellLeftRows 81 = .ok (.ldc2_w 87, 3) := by decide +kernel
theorem d_X_tellLeftRows_84 : decode b_X_tellLeftRows 84 = .ok (.lcmp, 1) := by decide +kernel
theorem d_X_tellLeftRows_85 : decode b_X_tellLeftRows 85 = .ok (.ifCond .eq 24, 3) := by decide +kernel
theorem d_X_tellLeftRows_88 : decode b_X_tellLeftRows 88 = .ok (.aload_n 0, 1) := by decide +kernel
theorem d_X_tellLeftRows_89 : decode b_X_tellLeftRows 89 = .ok (.iload_n 1, 1) := by decide +kernel
theorem d_X_tellLeftRows_90 : decode b_X_tellLeftRows 90 = .ok (.invokestatic 238, 3) := by decide +kernel
theorem d_X_tellLeftRows_93 : decode b_X_tellLeftRows 93 = .ok (.iload_n 2, 1) := by decide +kernel
theorem d_X_tellLeftRows_94 : decode b_X_tellLeftRows 94 = .ok (.invokestatic 238, 3) := by decide +kernel
theorem d_X_tellLeftRows_97 : decode b_X_tellLeftRows 97 = .ok (.aload_n 0, 1) := by decide +kernel
theorem d_X_tellLeftRows_98 : decode b_X_tellLeftRows 98 = .ok (.getfield 41, 3) := by decide +kernel
theorem d_X_tellLeftRows_101 : decode b_X_tellLeftRows 101 = .ok (.iload_n 1, 1) := by decide +kernel
theorem d_X_tellLeftRows_102 : decode b_X_tellLeftRows 102 = .ok (.iload_n 2, 1) := by decide +kernel
theorem d_X_tellLeftRows_103 : decode b_X_tellLeftRows 103 = .ok (.invokevirtual 138, 3) := by decide +kernel
theorem d_X_tellLeftRows_106 : decode b_X_tellLeftRows 106 = .ok (.invokevirtual 147, 3) := by decide +kernel
theorem d_X_tellLeftRows_109 : decode b_X_tellLeftRows 109 = .ok (.iinc 2 1, 3) := by decide +kernel
theorem d_X_tellLeftRows_112 : decode b_X_tellLeftRows 112 = .ok (.goto (-48), 3) := by decide +kernel
theorem d_X_tellLeftRows_115 : decode b_X_tellLeftRows 115 = .ok (.iinc 1 1, 3) := by decide +kernel
theorem d_X_tellLeftRows_118 : decode b_X_tellLeftRows 118 = .ok (.goto (-67), 3) := by decide +kernel
theorem d_X_tellLeftRows_121 : decode b_X_tellLeftRows 121 = .ok (.return_, 1) := by decide +kernel
theorem d_X_tellRow_0 : decode b_X_tellRow 0 = .ok (.iconst 3, 1) := by decide +kernel
theorem d_X_tellRow_1 : decode b_X_tellRow 1 = .ok (.aload_n 0, 1) := by decide +kernel
theorem d_X_tellRow_2 : decode b_X_tellRow 2 = .ok (.getfield 55, 3) := by decide +kernel
theorem d_X_tellRow_5 : decode b_X_tellRow 5 = .ok (.imul, 1) := by decide +kernel
theorem d_X_tellRow_6 : decode b_X_tellRow 6 = .ok (.istore 5, 2) := by decide +kernel
theorem d_X_tellRow_8 : decode b_X_tellRow 8 = .ok (.aload_n 0, 1) := by decide +kernel
theorem d_X_tellRow_9 : decode b_X_tellRow 9 = .ok (.getfield 52, 3) := by decide +kernel
theorem d_X_tellRow_12 : decode b_X_tellRow 12 = .ok (.iload 5, 2) := by decide +kernel
theorem d_X_tellRow_14 : decode b_X_tellRow 14 = .ok (.iload_n 1, 1) := by decide +kernel
theorem d_X_tellRow_15 : decode b_X_tellRow 15 = .ok (.i2l, 1) := by decide +kernel
theorem d_X_tellRow_16 : decode b_X_tellRow 16 = .ok (.lastore, 1) := by decide +kernel
theorem d_X_tellRow_17 : decode b_X_tellRow 17 = .ok (.aload_n 0, 1) := by decide +kernel
theorem d_X_tellRow_18 : decode b_X_tellRow 18 = .ok (.getfield 52, 3) := by decide +kernel
theorem d_X_tellRow_21 : decode b_X_tellRow 21 = .ok (.iload 5, 2) := by decide +kernel
theorem d_X_tellRow_23 : decode b_X_tellRow 23 = .ok (.iconst 1, 1) := by decide +kernel
theorem d_X_tellRow_24 : decode b_X_tellRow 24 = .ok (.iadd, 1) := by decide +kernel
theorem d_X_tellRow_25 : decode b_X_tellRow 25 = .ok (.iload_n 2, 1) := by decide +kernel
theorem d_X_tellRow_26 : decode b_X_tellRow 26 = .ok (.i2l, 1) := by decide +kernel
theorem d_X_tellRow_27 : decode b_X_tellRow 27 = .ok (.lastore, 1) := by decide +kernel
theorem d_X_tellRow_28 : decode b_X_tellRow 28 = .ok (.aload_n 0, 1) := by decide +kernel
theorem d_X_tellRow_29 : decode b_X_tellRow 29 = .ok (.getfield 52, 3) := by decide +kernel
theorem d_X_tellRow_32 : decode b_X_tellRow 32 = .ok (.iload 5, 2) := by decide +kernel
theorem d_X_tellRow_34 : decode b_X_tellRow 34 = .ok (.iconst 2, 1) := by decide +kernel
theorem d_X_tellRow_35 : decode b_X_tellRow 35 = .ok (.iadd, 1) := by decide +kernel
theorem d_X_tellRow_36 : decode b_X_tellRow 36 = .ok (.lload_n 3, 1) := by decide +kernel
theorem d_X_tellRow_37 : decode b_X_tellRow 37 = .ok (.lastore, 1) := by decide +kernel
theorem d_X_tellRow_38 : decode b_X_tellRow 38 = .ok (.aload_n 0, 1) := by decide +kernel
theorem d_X_tellRow_39 : decode b_X_tellRow 39 = .ok (.dup, 1) := by decide +kernel
theorem d_X_tellRow_40 : decode b_X_tellRow 40 = .ok (.getfield 55, 3) := by decide +kernel
theorem d_X_tellRow_43 : decode b_X_tellRow 43 = .ok (.iconst 1, 1) := by decide +kernel
theorem d_X_tellRow_44 : decode b_X_tellRow 44 = .ok (.iadd, 1) := by decide +kernel
theorem d_X_tellRow_45 : decode b_X_tellRow 45 = .ok (.putfield 55, 3) := by decide +kernel
theorem d_X_tellRow_48 : decode b_X_tellRow 48 = .ok (.return_, 1) := by decide +kernel
