theorem d_M_init_0 : decode b_M_init 0 = .ok (.aload_n 0, 1) := by decide +kernel
theorem d_M_init_1 : decode b_M_init 1 = .ok (.invokespecial 1, 3) := by decide +kernel
theorem d_M_init_4 : decode b_M_init 4 = .ok (.aload_n 0, 1) := by decide +kernel
theorem d_M_init_5 : decode b_M_init 5 = .ok (.sipush 800, 3) := by decide +kernel
theorem d_M_init_8 : decode b_M_init 8 = .ok (.newarray .long, 2) := by decide +kernel
theorem d_M_init_10 : decode b_M_init 10 = .ok (.putfield 7, 3) := by decide +kernel
theorem d_M_init_13 : decode b_M_init 13 = .ok (.aload_n 0, 1) := by decide +kernel
theorem d_M_init_14 : decode b_M_init 14 = .ok (.bipush 8, 2) := by decide +kernel
theorem d_M_init_16 : decode b_M_init 16 = .ok (.newarray .boolean, 2) := by decide +kernel
theorem d_M_init_18 : decode b_M_init 18 = .ok (.putfield 13, 3) := by decide +kernel
theorem d_M_init_21 : decode b_M_init 21 = .ok (.aload_n 0, 1) := by decide +kernel
theorem d_M_init_22 : decode b_M_init 22 = .ok (.bipush 100, 2) := by decide +kernel
theorem d_M_init_24 : decode b_M_init 24 = .ok (.newarray .long, 2) := by decide +kernel
theorem d_M_init_26 : decode b_M_init 26 = .ok (.putfield 17, 3) := by decide +kernel
theorem d_M_init_29 : decode b_M_init 29 = .ok (.aload_n 0, 1) := by decide +kernel
theorem d_M_init_30 : decode b_M_init 30 = .ok (.bipush 100, 2) := by decide +kernel
theorem d_M_init_32 : decode b_M_init 32 = .ok (.newarray .long, 2) := by decide +kernel
theorem d_M_init_34 : decode b_M_init 34 = .ok (.putfield 20, 3) := by decide +kernel
theorem d_M_init_37 : decode b_M_init 37 = .ok (.aload_n 0, 1) := by decide +kernel
theorem d_M_init_38 : decode b_M_init 38 = .ok (.bipush 100, 2) := by decide +kernel
theorem d_M_init_40 : decode b_M_init 40 = .ok (.newarray .long, 2) := by decide +kernel
theorem d_M_init_42 : decode b_M_init 42 = .ok (.putfield 23, 3) := by decide +kernel
theorem d_M_init_45 : decode b_M_init 45 = .ok (.aload_n 0, 1) := by decide +kernel
theorem d_M_init_46 : decode b_M_init 46 = .ok (.bipush 6, 2) := by decide +kernel
theorem d_M_init_48 : decode b_M_init 48 = .ok (.newarray .long, 2) := by decide +kernel
theorem d_M_init_50 : decode b_M_init 50 = .ok (.putfield 26, 3) := by decide +kernel
theorem d_M_init_53 : decode b_M_init 53 = .ok (.aload_n 0, 1) := by decide +kernel
theorem d_M_init_54 : decode b_M_init 54 = .ok (.bipush 60, 2) := by decide +kernel
theorem d_M_init_56 : decode b_M_init 56 = .ok (.newarray .int, 2) := by decide +kernel
theorem d_M_init_58 : decode b_M_init 58 = .ok (.putfield 29, 3) := by decide +kernel
theorem d_M_init_61 : decode b_M_init 61 = .ok (.aload_n 0, 1) := by decide +kernel
theorem d_M_init_62 : decode b_M_init 62 = .ok (.bipush 60, 2) := by decide +kernel
theorem d_M_init_64 : decode b_M_init 64 = .ok (.newarray .int, 2) := by decide +kernel
theorem d_M_init_66 : decode b_M_init 66 = .ok (.putfield 33, 3) := by decide +kernel
theorem d_M_init_69 : decode b_M_init 69 = .ok (.aload_n 0, 1) := by decide +kernel
theorem d_M_init_70 : decode b_M_init 70 = .ok (.bipush 60, 2) := by decide +kernel
theorem d_M_init_72 : decode b_M_init 72 = .ok (.newarray .long, 2) := by decide +kernel
theorem d_M_init_74 : decode b_M_init 74 = .ok (.putfield 36, 3) := by decide +kernel
theorem d_M_init_77 : decode b_M_init 77 = .ok (.aload_n 0, 1) := by decide +kernel
theorem d_M_init_78 : decode b_M_init 78 = .ok (.bipush 60, 2) := by decide +kernel
theorem d_M_init_80 : decode b_M_init 80 = .ok (.newarray .boolean, 2) := by decide +kernel
theorem d_M_init_82 : decode b_M_init 82 = .ok (.putfield 39, 3) := by decide +kernel
theorem d_M_init_85 : decode b_M_init 85 = .ok (.aload_n 0, 1) := by decide +kernel
theorem d_M_init_86 : decode b_M_init 86 = .ok (.iload_n 1, 1) := by decide +kernel
theorem d_M_init_87 : decode b_M_init 87 = .ok (.iconst 1, 1) := by decide +kernel
theorem d_M_init_88 : decode b_M_init 88 = .ok (.if_icmp .ge 7, 3) := by decide +kernel
theorem d_M_init_91 : decode b_M_init 91 = .ok (.iconst 1, 1) := by decide +kernel
theorem d_M_init_92 : decode b_M_init 92 = .ok (.goto 13, 3) := by decide +kernel
theorem d_M_init_95 : decode b_M_init 95 = .ok (.iload_n 1, 1) := by decide +kernel
theorem d_M_init_96 : decode b_M_init 96 = .ok (.iconst 5, 1) := by decide +kernel
theorem d_M_init_97 : decode b_M_init 97 = .ok (.if_icmp .le 7, 3) := by decide +kernel
theorem d_M_init_100 : decode b_M_init 100 = .ok (.iconst 5, 1) := by decide +kernel
theorem d_M_init_101 : decode b_M_init 101 = .ok (.goto 4, 3) := by decide +kernel
theorem d_M_init_104 : decode b_M_init 104 = .ok (.iload_n 1, 1) := by decide +kernel
theorem d_M_init_105 : decode b_M_init 105 = .ok (.putfield 42, 3) := by decide +kernel
theorem d_M_init_108 : decode b_M_init 108 = .ok (.iconst 0, 1) := by decide +kernel
theorem d_M_init_109 : decode b_M_init 109 = .ok (.istore_n 2, 1) := by decide +kernel
theorem d_M_init_110 : decode b_M_init 110 = .ok (.iload_n 2, 1) := by decide +kernel
theorem d_M_init_111 : decode b_M_init 111 = .ok (.sipush 800, 3) := by decide +kernel
theorem d_M_init_114 : decode b_M_init 114 = .ok (.if_icmp .ge 18, 3) := by decide +kernel
theorem d_M_init_117 : decode b_M_init 117 = .ok (.aload_n 0, 1) := by decide +kernel
theorem d_M_init_118 : decode b_M_init 118 = .ok (.getfield 7, 3) := by decide +kernel
theorem d_M_init_121 : decode b_M_init 121 = .ok (.iload_n 2, 1) := by decide +kernel
theorem d_M_init_122 : decode b_M_init 122 = .ok (.ldc2_w 46, 3) := by decide +kernel
theorem d_M_init_125 : decode b_M_init 125 = .ok (.lastore, 1) := by decide +kernel
theorem d_M_init_126 : decode b_M_init 126 = .ok (.iinc 2 1, 3) := by decide +kernel
theorem d_M_init_129 : decode b_M_init 129 = .ok (.goto (-19), 3) := by decide +kernel
theorem d_M_init_132 : decode b_M_init 132 = .ok (.return_, 1) := by decide +kernel
theorem d_M_thrown_0 : decode b_M_thrown 0 = .ok (.aload_n 0, 1) := by decide +kernel
theorem d_M_thrown_1 : decode b_M_thrown 1 = .ok (.getfield 48, 3) := by decide +kernel
theorem d_M_thrown_4 : decode b_M_thrown 4 = .ok (.ireturn, 1) := by decide +kernel
theorem d_M_isShape_0 : decode b_M_isShape 0 = .ok (.iload_n 1, 1) := by decide +kernel
theorem d_M_isShape_1 : decode b_M_isShape 1 = .ok (.ifCond .lt 13, 3) := by decide +kernel
theorem d_M_isShape_4 : decode b_M_isShape 4 = .ok (.iload_n 1, 1) := by decide +kernel
theorem d_M_isShape_5 : decode b_M_isShape 5 = .ok (.bipush 8, 2) := by decide +kernel
theorem d_M_isShape_7 : decode b_M_isShape 7 = .ok (.if_icmp .ge 7, 3) := by decide +kernel
theorem d_M_isShape_10 : decode b_M_isShape 10 = .ok (.iconst 1, 1) := by decide +kernel
theorem d_M_isShape_11 : decode b_M_isShape 11 = .ok (.goto 4, 3) := by decide +kernel
theorem d_M_isShape_14 : decode b_M_isShape 14 = .ok (.iconst 0, 1) := by decide +kernel
theorem d_M_isShape_15 : decode b_M_isShape 15 = .ok (.ireturn, 1) := by decide +kernel
theorem d_M_isName_0 : decode b_M_isName 0 = .ok (.iload_n 1, 1) := by decide +kernel
theorem d_M_isName_1 : decode b_M_isName 1 = .ok (.iconst 1, 1) := by decide +kernel
theorem d_M_isName_2 : decode b_M_isName 2 = .ok (.if_icmp .lt 15, 3) := by decide +kernel
theorem d_M_isName_5 : decode b_M_isName 5 = .ok (.iload_n 1, 1) := by decide +kernel
theorem d_M_isName_6 : decode b_M_isName 6 = .ok (.aload_n 0, 1) := by decide +kernel
theorem d_M_isName_7 : decode b_M_isName 7 = .ok (.getfield 42, 3) := by decide +kernel
theorem d_M_isName_10 : decode b_M_isName 10 = .ok (.if_icmp .gt 7, 3) := by decide +kernel
theorem d_M_isName_13 : decode b_M_isName 13 = .ok (.iconst 1, 1) := by decide +kernel
theorem d_M_isName_14 : decode b_M_isName 14 = .ok (.goto 4, 3) := by decide +kernel
theorem d_M_isName_17 : decode b_M_isName 17 = .ok (.iconst 0, 1) := by decide +kernel
theorem d_M_isName_18 : decode b_M_isName 18 = .ok (.ireturn, 1) := by decide +kernel
theorem d_M_isTerm_0 : decode b_M_isTerm 0 = .ok (.iload_n 1, 1) := by decide +kernel
theorem d_M_isTerm_1 : decode b_M_isTerm 1 = .ok (.aload_n 0, 1) := by decide +kernel
theorem d_M_isTerm_2 : decode b_M_isTerm 2 = .ok (.getfield 42, 3) := by decide +kernel
theorem d_M_isTerm_5 : decode b_M_isTerm 5 = .ok (.ineg, 1) := by decide +kernel
theorem d_M_isTerm_6 : decode b_M_isTerm 6 = .ok (.if_icmp .lt 15, 3) := by decide +kernel
theorem d_M_isTerm_9 : decode b_M_isTerm 9 = .ok (.iload_n 1, 1) := by decide +kernel
theorem d_M_isTerm_10 : decode b_M_isTerm 10 = .ok (.aload_n 0, 1) := by decide +kernel
theorem d_M_isTerm_11 : decode b_M_isTerm 11 = .ok (.getfield 42, 3) := by decide +kernel
theorem d_M_isTerm_14 : decode b_M_isTerm 14 = .ok (.if_icmp .gt 7, 3) := by decide +kernel
theorem d_M_isTerm_17 : decode b_M_isTerm 17 = .ok (.iconst 1, 1) := by decide +kernel
theorem d_M_isTerm_18 : decode b_M_isTerm 18 = .ok (.goto 4, 3) := by decide +kernel
theorem d_M_isTerm_21 : decode b_M_isTerm 21 = .ok (.iconst 0, 1) := by decide +kernel
theorem d_M_isTerm_22 : decode b_M_isTerm 22 = .ok (.ireturn, 1) := by decide +kernel
theorem d_M_at_0 : decode b_M_at 0 = .ok (.iload_n 0, 1) := by decide +kernel
theorem d_M_at_1 : decode b_M_at 1 = .ok (.ifCond .le 11, 3) := by decide +kernel
theorem d_M_at_4 : decode b_M_at 4 = .ok (.iconst 2, 1) := by decide +kernel
theorem d_M_at_5 : decode b_M_at 5 = .ok (.iload_n 0, 1) := by decide +kernel
theorem d_M_at_6 : decode b_M_at 6 = .ok (.imul, 1) := by decide +kernel
theorem d_M_at_7 : decode b_M_at 7 = .ok (.iconst 2, 1) := by decide +kernel
theorem d_M_at_8 : decode b_M_at 8 = .ok (.isub, 1) := by decide +kernel
theorem d_M_at_9 : decode b_M_at 9 = .ok (.goto 9, 3) := by decide +kernel
theorem d_M_at_12 : decode b_M_at 12 = .ok (.bipush (-2), 2) := by decide +kernel
theorem d_M_at_14 : decode b_M_at 14 = .ok (.iload_n 0, 1) := by decide +kernel
theorem d_M_at_15 : decode b_M_at 15 = .ok (.imul, 1) := by decide +kernel
theorem d_M_at_16 : decode b_M_at 16 = .ok (.iconst 1, 1) := by decide +kernel
theorem d_M_at_17 : decode b_M_at 17 = .ok (.isub, 1) := by decide +kernel
theorem d_M_at_18 : decode b_M_at 18 = .ok (.ireturn, 1) := by decide +kernel
theorem d_M_opposite_0 : decode b_M_opposite 0 = .ok (.iload_n 0, 1) := by decide +kernel
theorem d_M_opposite_1 : decode b_M_opposite 1 = .ok (.iconst 2, 1) := by decide +kernel
theorem d_M_opposite_2 : decode b_M_opposite 2 = .ok (.irem, 1) := by decide +kernel
theorem d_M_opposite_3 : decode b_M_opposite 3 = .ok (.ifCond .ne 9, 3) := by decide +kernel
theorem d_M_opposite_6 : decode b_M_opposite 6 = .ok (.iload_n 0, 1) := by decide +kernel
theorem d_M_opposite_7 : decode b_M_opposite 7 = .ok (.iconst 1, 1) := by decide +kernel
theorem d_M_opposite_8 : decode b_M_opposite 8 = .ok (.iadd, 1) := by decide +kernel
theorem d_M_opposite_9 : decode b_M_opposite 9 = .ok (.goto 6, 3) := by decide +kernel
theorem d_M_opposite_12 : decode b_M_opposite 12 = .ok (.iload_n 0, 1) := by decide +kernel
theorem d_M_opposite_13 : decode b_M_opposite 13 = .ok (.iconst 1, 1) := by decide +kernel
theorem d_M_opposite_14 : decode b_M_opposite 14 = .ok (.isub, 1) := by decide +kernel
theorem d_M_opposite_15 : decode b_M_opposite 15 = .ok (.ireturn, 1) := by decide +kernel
theorem d_M_half_0 : decode b_M_half 0 = .ok (.lload_n 0, 1) := by decide +kernel
theorem d_M_half_1 : decode b_M_half 1 = .ok (.lconst 0, 1) := by decide +kernel
theorem d_M_half_2 : decode b_M_half 2 = .ok (.lcmp, 1) := by decide +kernel
theorem d_M_half_3 : decode b_M_half 3 = .ok (.ifCond .lt 11, 3) := by decide +kernel
theorem d_M_half_6 : decode b_M_half 6 = .ok (.lload_n 0, 1) := by decide +kernel
theorem d_M_half_7 : decode b_M_half 7 = .ok (.ldc2_w 51, 3) := by decide +kernel
theorem d_M_half_10 : decode b_M_half 10 = .ok (.ldiv, 1) := by decide +kernel
theorem d_M_half_11 : decode b_M_half 11 = .ok (.goto 10, 3) := by decide +kernel
theorem d_M_half_14 : decode b_M_half 14 = .ok (.lload_n 0, 1) := by decide +kernel
theorem d_M_half_15 : decode b_M_half 15 = .ok (.lconst 1, 1) := by decide +kernel
theorem d_M_half_16 : decode b_M_half 16 = .ok (.lsub, 1) := by decide +kernel
theorem d_M_half_17 : decode b_M_half 17 = .ok (.ldc2_w 51, 3) := by decide +kernel
theorem d_M_half_20 : decode b_M_half 20 = .ok (.ldiv, 1) := by decide +kernel
theorem d_M_half_21 : decode b_M_half 21 = .ok (.lreturn, 1) := by decide +kernel
theorem d_M_sum_0 : decode b_M_sum 0 = .ok (.lload_n 0, 1) := by decide +kernel
theorem d_M_sum_1 : decode b_M_sum 1 = .ok (.ldc2_w 46, 3) := by decide +kernel
theorem d_M_sum_4 : decode b_M_sum 4 = .ok (.lcmp, 1) := by decide +kernel
theorem d_M_sum_5 : decode b_M_sum 5 = .ok (.ifCond .eq 11, 3) := by decide +kernel
theorem d_M_sum_8 : decode b_M_sum 8 = .ok (.lload_n 2, 1) := by decide +kernel
theorem d_M_sum_9 : decode b_M_sum 9 = .ok (.ldc2_w 46, 3) := by decide +kernel
theorem d_M_sum_12 : decode b_M_sum 12 = .ok (.lcmp, 1) := by decide +kernel
theorem d_M_sum_13 : decode b_M_sum 13 = .ok (.ifCond .ne 9, 3) := by decide +kernel
theorem d_M_sum_16 : decode b_M_sum 16 = .ok (.ldc2_w 46, 3) := by decide +kernel
theorem d_M_sum_19 : decode b_M_sum 19 = .ok (.goto 6, 3) := by decide +kernel
theorem d_M_sum_22 : decode b_M_sum 22 = .ok (.lload_n 0, 1) := by decide +kernel
theorem d_M_sum_23 : decode b_M_sum 23 = .ok (.lload_n 2, 1) := by decide +kernel
theorem d_M_sum_24 : decode b_M_sum 24 = .ok (.ladd, 1) := by decide +kernel
theorem d_M_sum_25 : decode b_M_sum 25 = .ok (.lreturn, 1) := by decide +kernel
theorem d_M_loadRows_0 : decode b_M_loadRows 0 = .ok (.iconst 0, 1) := by decide +kernel
theorem d_M_loadRows_1 : decode b_M_loadRows 1 = .ok (.istore_n 2, 1) := by decide +kernel
theorem d_M_loadRows_2 : decode b_M_loadRows 2 = .ok (.iload_n 2, 1) := by decide +kernel
theorem d_M_loadRows_3 : decode b_M_loadRows 3 = .ok (.bipush 100, 2) := by decide +kernel
theorem d_M_loadRows_5 : decode b_M_loadRows 5 = .ok (.if_icmp .ge 26, 3) := by decide +kernel
theorem d_M_loadRows_8 : decode b_M_loadRows 8 = .ok (.aload_n 0, 1) := by decide +kernel
theorem d_M_loadRows_9 : decode b_M_loadRows 9 = .ok (.getfield 17, 3) := by decide +kernel
theorem d_M_loadRows_12 : decode b_M_loadRows 12 = .ok (.iload_n 2, 1) := by decide +kernel
theorem d_M_loadRows_13 : decode b_M_loadRows 13 = .ok (.aload_n 0, 1) := by decide +kernel
theorem d_M_loadRows_14 : decode b_M_loadRows 14 = .ok (.getfield 7, 3) := by decide +kernel
theorem d_M_loadRows_17 : decode b_M_loadRows 17 = .ok (.bipush 100, 2) := by decide +kernel
theorem d_M_loadRows_19 : decode b_M_loadRows 19 = .ok (.iload_n 1, 1) := by decide +kernel
theorem d_M_loadRows_20 : decode b_M_loadRows 20 = .ok (.imul, 1) := by decide +kernel
theorem d_M_loadRows_21 : decode b_M_loadRows 21 = .ok (.iload_n 2, 1) := by decide +kernel
theorem d_M_loadRows_22 : decode b_M_loadRows 22 = .ok (.iadd, 1) := by decide +kernel
theorem d_M_loadRows_23 : decode b_M_loadRows 23 = .ok (.laload, 1) := by decide +kernel
theorem d_M_loadRows_24 : decode b_M_loadRows 24 = .ok (.lastore, 1) := by decide +kernel
theorem d_M_loadRows_25 : decode b_M_loadRows 25 = .ok (.iinc 2 1, 3) := by decide +kernel
theorem d_M_loadRows_28 : decode b_M_loadRows 28 = .ok (.goto (-26), 3) := by decide +kernel
theorem d_M_loadRows_31 : decode b_M_loadRows 31 = .ok (.iconst 0, 1) := by decide +kernel
theorem d_M_loadRows_32 : decode b_M_loadRows 32 = .ok (.istore_n 2, 1) := by decide +kernel
theorem d_M_loadRows_33 : decode b_M_loadRows 33 = .ok (.iload_n 2, 1) := by decide +kernel
theorem d_M_loadRows_34 : decode b_M_loadRows 34 = .ok (.bipush 10, 2) := by decide +kernel
theorem d_M_loadRows_36 : decode b_M_loadRows 36 = .ok (.if_icmp .ge 53, 3) := by decide +kernel
theorem d_M_loadRows_39 : decode b_M_loadRows 39 = .ok (.aload_n 0, 1) := by decide +kernel
theorem d_M_loadRows_40 : decode b_M_loadRows 40 = .ok (.getfield 17, 3) := by decide +kernel
theorem d_M_loadRows_43 : decode b_M_loadRows 43 = .ok (.bipush 11, 2) := by decide +kernel
theorem d_M_loadRows_45 : decode b_M_loadRows 45 = .ok (.iload_n 2, 1) := by decide +kernel
theorem d_M_loadRows_46 : decode b_M_loadRows 46 = .ok (.imul, 1) := by decide +kernel
theorem d_M_loadRows_47 : decode b_M_loadRows 47 = .ok (.aload_n 0, 1) := by decide +kernel
theorem d_M_loadRows_48 : decode b_M_loadRows 48 = .ok (.getfield 17, 3) := by decide +kernel
theorem d_M_loadRows_51 : decode b_M_loadRows 51 = .ok (.bipush 11, 2) := by decide +kernel
theorem d_M_loadRows_53 : decode b_M_loadRows 53 = .ok (.iload_n 2, 1) := by decide +kernel
theorem d_M_loadRows_54 : decode b_M_loadRows 54 = .ok (.imul, 1) := by decide +kernel
theorem d_M_loadRows_55 : decode b_M_loadRows 55 = .ok (.laload, 1) := by decide +kernel
theorem d_M_loadRows_56 : decode b_M_loadRows 56 = .ok (.ldc2_w 46, 3) := by decide +kernel
theorem d_M_loadRows_59 : decode b_M_loadRows 59 = .ok (.lcmp, 1) := by decide +kernel
theorem d_M_loadRows_60 : decode b_M_loadRows 60 = .ok (.ifCond .ne 9, 3) := by decide +kernel
theorem d_M_loadRows_63 : decode b_M_loadRows 63 = .ok (.ldc2_w 46, 3) := by decide +kernel
theorem d_M_loadRows_66 : decode b_M_loadRows 66 = .ok (.goto 16, 3) := by decide +kernel
theorem d_M_loadRows_69 : decode b_M_loadRows 69 = .ok (.ldc2_w 51, 3) := by decide +kernel
theorem d_M_loadRows_72 : decode b_M_loadRows 72 = .ok (.aload_n 0, 1) := by decide +kernel
theorem d_M_loadRows_73 : decode b_M_loadRows 73 = .ok (.getfield 17, 3) := by decide +kernel
theorem d_M_loadRows_76 : decode b_M_loadRows 76 = .ok (.bipush 11, 2) := by decide +kernel
theorem d_M_loadRows_78 : decode b_M_loadRows 78 = .ok (.iload_n 2, 1) := by decide +kernel
theorem d_M_loadRows_79 : decode b_M_loadRows 79 = .ok (.imul, 1) := by decide +kernel
theorem d_M_loadRows_80 : decode b_M_loadRows 80 = .ok (.laload, 1) := by decide +kernel
theorem d_M_loadRows_81 : decode b_M_loadRows 81 = .ok (.lmul, 1) := by decide +kernel
theorem d_M_loadRows_82 : decode b_M_loadRows 82 = .ok (.lastore, 1) := by decide +kernel
theorem d_M_loadRows_83 : decode b_M_loadRows 83 = .ok (.iinc 2 1, 3) := by decide +kernel
theorem d_M_loadRows_86 : decode b_M_loadRows 86 = .ok (.goto (-53), 3) := by decide +kernel
theorem d_M_loadRows_89 : decode b_M_loadRows 89 = .ok (.return_, 1) := by decide +kernel
theorem d_M_close_0 : decode b_M_close 0 = .ok (.iconst 2, 1) := by decide +kernel
theorem d_M_close_1 : decode b_M_close 1 = .ok (.aload_n 0, 1) := by decide +kernel
theorem d_M_close_2 : decode b_M_close 2 = .ok (.getfield 42, 3) := by decide +kernel
theorem d_M_close_5 : decode b_M_close 5 = .ok (.imul, 1) := by decide +kernel
theorem d_M_close_6 : decode b_M_close 6 = .ok (.istore_n 1, 1) := by decide +kernel
theorem d_M_close_7 : decode b_M_close 7 = .ok (.iconst 0, 1) := by decide +kernel
theorem d_M_close_8 : decode b_M_close 8 = .ok (.istore_n 2, 1) := by decide +kernel
theorem d_M_close_9 : decode b_M_close 9 = .ok (.iload_n 2, 1) := by decide +kernel
theorem d_M_close_10 : decode b_M_close 10 = .ok (.iload_n 1, 1) := by decide +kernel
theorem d_M_close_11 : decode b_M_close 11 = .ok (.if_icmp .ge 46, 3) := by decide +kernel
theorem d_M_close_14 : decode b_M_close 14 = .ok (.bipush 10, 2) := by decide +kernel
theorem d_M_close_16 : decode b_M_close 16 = .ok (.iload_n 2, 1) := by decide +kernel
theorem d_M_close_17 : decode b_M_close 17 = .ok (.imul, 1) := by decide +kernel
theorem d_M_close_18 : decode b_M_close 18 = .ok (.iload_n 2, 1) := by decide +kernel
theorem d_M_close_19 : decode b_M_close 19 = .ok (.invokestatic 53, 3) := by decide +kernel
theorem d_M_close_22 : decode b_M_close 22 = .ok (.iadd, 1) := by decide +kernel
theorem d_M_close_23 : decode b_M_close 23 = .ok (.istore_n 3, 1) := by decide +kernel
theorem d_M_close_24 : decode b_M_close 24 = .ok (.aload_n 0, 1) := by decide +kernel
theorem d_M_close_25 : decode b_M_close 25 = .ok (.getfield 17, 3) := by decide +kernel
theorem d_M_close_28 : decode b_M_close 28 = .ok (.iload_n 3, 1) := by decide +kernel
theorem d_M_close_29 : decode b_M_close 29 = .ok (.aload_n 0, 1) := by decide +kernel
theorem d_M_close_30 : decode b_M_close 30 = .ok (.getfield 17, 3) := by decide +kernel
theorem d_M_close_33 : decode b_M_close 33 = .ok (.iload_n 3, 1) := by decide +kernel
theorem d_M_close_34 : decode b_M_close 34 = .ok (.laload, 1) := by decide +kernel
theorem d_M_close_35 : decode b_M_close 35 = .ok (.lconst 0, 1) := by decide +kernel
theorem d_M_close_36 : decode b_M_close 36 = .ok (.lcmp, 1) := by decide +kernel
theorem d_M_close_37 : decode b_M_close 37 = .ok (.ifCond .ge 12, 3) := by decide +kernel
theorem d_M_close_40 : decode b_M_close 40 = .ok (.aload_n 0, 1) := by decide +kernel
theorem d_M_close_41 : decode b_M_close 41 = .ok (.getfield 17, 3) := by decide +kernel
theorem d_M_close_44 : decode b_M_close 44 = .ok (.iload_n 3, 1) := by decide +kernel
theorem d_M_close_45 : decode b_M_close 45 = .ok (.laload, 1) := by decide +kernel
theorem d_M_close_46 : decode b_M_close 46 = .ok (.goto 4, 3) := by decide +kernel
theorem d_M_close_49 : decode b_M_close 49 = .ok (.lconst 0, 1) := by decide +kernel
theorem d_M_close_50 : decode b_M_close 50 = .ok (.lastore, 1) := by decide +kernel
theorem d_M_close_51 : decode b_M_close 51 = .ok (.iinc 2 1, 3) := by decide +kernel
theorem d_M_close_54 : decode b_M_close 54 = .ok (.goto (-45), 3) := by decide +kernel
theorem d_M_close_57 : decode b_M_close 57 = .ok (.iconst 1, 1) := by decide +kernel
theorem d_M_close_58 : decode b_M_close 58 = .ok (.istore_n 2, 1) := by decide +kernel
theorem d_M_close_59 : decode b_M_close 59 = .ok (.iload_n 2, 1) := by decide +kernel
theorem d_M_close_60 : decode b_M_close 60 = .ok (.ifCond .eq 422, 3) := by decide +kernel
theorem d_M_close_63 : decode b_M_close 63 = .ok (.iconst 0, 1) := by decide +kernel
theorem d_M_close_64 : decode b_M_close 64 = .ok (.istore_n 2, 1) := by decide +kernel
theorem d_M_close_65 : decode b_M_close 65 = .ok (.iconst 0, 1) := by decide +kernel
theorem d_M_close_66 : decode b_M_close 66 = .ok (.istore_n 3, 1) := by decide +kernel
theorem d_M_close_67 : decode b_M_close 67 = .ok (.iload_n 3, 1) := by decide +kernel
theorem d_M_close_68 : decode b_M_close 68 = .ok (.iload_n 1, 1) := by decide +kernel
theorem d_M_close_69 : decode b_M_close 69 = .ok (.if_icmp .ge 160, 3) := by decide +kernel
theorem d_M_close_72 : decode b_M_close 72 = .ok (.iconst 0, 1) := by decide +kernel
theorem d_M_close_73 : decode b_M_close 73 = .ok (.istore 4, 2) := by decide +kernel
theorem d_M_close_75 : decode b_M_close 75 = .ok (.iload 4, 2) := by decide +kernel
theorem d_M_close_77 : decode b_M_close 77 = .ok (.iload_n 1, 1) := by decide +kernel
theorem d_M_close_78 : decode b_M_close 78 = .ok (.if_icmp .ge 107, 3) := by decide +kernel
theorem d_M_close_81 : decode b_M_close 81 = .ok (.iconst 0, 1) := by decide +kernel
theorem d_M_close_82 : decode b_M_close 82 = .ok (.istore 5, 2) := by decide +kernel
theorem d_M_close_84 : decode b_M_close 84 = .ok (.iload 5, 2) := by decide +kernel
theorem d_M_close_86 : decode b_M_close 86 = .ok (.iload_n 1, 1) := by decide +kernel
theorem d_M_close_87 : decode b_M_close 87 = .ok (.if_icmp .ge 92, 3) := by decide +kernel
theorem d_M_close_90 : decode b_M_close 90 = .ok (.aload_n 0, 1) := by decide +kernel
theorem d_M_close_91 : decode b_M_close 91 = .ok (.getfield 17, 3) := by decide +kernel
theorem d_M_close_94 : decode b_M_close 94 = .ok (.bipush 10, 2) := by decide +kernel
theorem d_M_close_96 : decode b_M_close 96 = .ok (.iload 4, 2) := by decide +kernel
theorem d_M_close_98 : decode b_M_close 98 = .ok (.imul, 1) := by decide +kernel
theorem d_M_close_99 : decode b_M_close 99 = .ok (.iload_n 3, 1) := by decide +kernel
theorem d_M_close_100 : decode b_M_close 100 = .ok (.iadd, 1) := by decide +kernel
theorem d_M_close_101 : decode b_M_close 101 = .ok (.laload, 1) := by decide +kernel
theorem d_M_close_102 : decode b_M_close 102 = .ok (.aload_n 0, 1) := by decide +kernel
theorem d_M_close_103 : decode b_M_close 103 = .ok (.getfield 17, 3) := by decide +kernel
theorem d_M_close_106 : decode b_M_close 106 = .ok (.bipush 10, 2) := by decide +kernel
theorem d_M_close_108 : decode b_M_close 108 = .ok (.iload_n 3, 1) := by decide +kernel
theorem d_M_close_109 : decode b_M_close 109 = .ok (.invokestatic 53, 3) := by decide +kernel
theorem d_M_close_112 : decode b_M_close 112 = .ok (.imul, 1) := by decide +kernel
theorem d_M_close_113 : decode b_M_close 113 = .ok (.iload 5, 2) := by decide +kernel
theorem d_M_close_115 : decode b_M_close 115 = .ok (.iadd, 1) := by decide +kernel
theorem d_M_close_116 : decode b_M_close 116 = .ok (.laload, 1) := by decide +kernel
theorem d_M_close_117 : decode b_M_close 117 = .ok (.invokestatic 57, 3) := by decide +kernel
theorem d_M_close_120 : decode b_M_close 120 = .ok (.lstore 6, 2) := by decide +kernel
theorem d_M_close_122 : decode b_M_close 122 = .ok (.lload 6, 2) := by decide +kernel
theorem d_M_close_124 : decode b_M_close 124 = .ok (.aload_n 0, 1) := by decide +kernel
theorem d_M_close_125 : decode b_M_close 125 = .ok (.getfield 17, 3) := by decide +kernel
theorem d_M_close_128 : decode b_M_close 128 = .ok (.bipush 10, 2) := by decide +kernel
theorem d_M_close_130 : decode b_M_close 130 = .ok (.iload 4, 2) := by decide +kernel
theorem d_M_close_132 : decode b_M_close 132 = .ok (.imul, 1) := by decide +kernel
theorem d_M_close_133 : decode b_M_close 133 = .ok (.iload 5, 2) := by decide +kernel
theorem d_M_close_135 : decode b_M_close 135 = .ok (.iadd, 1) := by decide +kernel
theorem d_M_close_136 : decode b_M_close 136 = .ok (.laload, 1) := by decide +kernel
theorem d_M_close_137 : decode b_M_close 137 = .ok (.lcmp, 1) := by decide +kernel
theorem d_M_close_138 : decode b_M_close 138 = .ok (.ifCond .ge 35, 3) := by decide +kernel
theorem d_M_close_141 : decode b_M_close 141 = .ok (.aload_n 0, 1) := by decide +kernel
theorem d_M_close_142 : decode b_M_close 142 = .ok (.getfield 17, 3) := by decide +kernel
theorem d_M_close_145 : decode b_M_close 145 = .ok (.bipush 10, 2) := by decide +kernel
theorem d_M_close_147 : decode b_M_close 147 = .ok (.iload 4, 2) := by decide +kernel
theorem d_M_close_149 : decode b_M_close 149 = .ok (.imul, 1) := by decide +kernel
theorem d_M_close_150 : decode b_M_close 150 = .ok (.iload 5, 2) := by decide +kernel
theorem d_M_close_152 : decode b_M_close 152 = .ok (.iadd, 1) := by decide +kernel
theorem d_M_close_153 : decode b_M_close 153 = .ok (.lload 6, 2) := by decide +kernel
theorem d_M_close_155 : decode b_M_close 155 = .ok (.lastore, 1) := by decide +kernel
theorem d_M_close_156 : decode b_M_close 156 = .ok (.aload_n 0, 1) := by decide +kernel
theorem d_M_close_157 : decode b_M_close 157 = .ok (.getfield 17, 3) := by decide +kernel
theorem d_M_close_160 : decode b_M_close 160 = .ok (.bipush 10, 2) := by decide +kernel
theorem d_M_close_162 : decode b_M_close 162 = .ok (.iload 5, 2) := by decide +kernel
theorem d_M_close_164 : decode b_M_close 164 = .ok (.imul, 1) := by decide +kernel
theorem d_M_close_165 : decode b_M_close 165 = .ok (.iload 4, 2) := by decide +kernel
theorem d_M_close_167 : decode b_M_close 167 = .ok (.iadd, 1) := by decide +kernel
theorem d_M_close_168 : decode b_M_close 168 = .ok (.lload 6, 2) := by decide +kernel
theorem d_M_close_170 : decode b_M_close 170 = .ok (.lastore, 1) := by decide +kernel
theorem d_M_close_171 : decode b_M_close 171 = .ok (.iconst 1, 1) := by decide +kernel
theorem d_M_close_172 : decode b_M_close 172 = .ok (.istore_n 2, 1) := by decide +kernel
theorem d_M_close_173 : decode b_M_close 173 = .ok (.iinc 5 1, 3) := by decide +kernel
theorem d_M_close_176 : decode b_M_close 176 = .ok (.goto (-92), 3) := by decide +kernel
theorem d_M_close_179 : decode b_M_close 179 = .ok (.iinc 4 1, 3) := by decide +kernel
theorem d_M_close_182 : decode b_M_close 182 = .ok (.goto (-107), 3) := by decide +kernel
theorem d_M_close_185 : decode b_M_close 185 = .ok (.iconst 0, 1) := by decide +kernel
theorem d_M_close_186 : decode b_M_close 186 = .ok (.istore 4, 2) := by decide +kernel
theorem d_M_close_188 : decode b_M_close 188 = .ok (.iload 4, 2) := by decide +kernel
theorem d_M_close_190 : decode b_M_close 190 = .ok (.iload_n 1, 1) := by decide +kernel
theorem d_M_close_191 : decode b_M_close 191 = .ok (.if_icmp .ge 32, 3) := by decide +kernel
theorem d_M_close_194 : decode b_M_close 194 = .ok (.aload_n 0, 1) := by decide +kernel
theorem d_M_close_195 : decode b_M_close 195 = .ok (.getfield 17, 3) := by decide +kernel
theorem d_M_close_198 : decode b_M_close 198 = .ok (.bipush 10, 2) := by decide +kernel
theorem d_M_close_200 : decode b_M_close 200 = .ok (.iload 4, 2) := by decide +kernel
theorem d_M_close_202 : decode b_M_close 202 = .ok (.imul, 1) := by decide +kernel
theorem d_M_close_203 : decode b_M_close 203 = .ok (.iload 4, 2) := by decide +kernel
theorem d_M_close_205 : decode b_M_close 205 = .ok (.invokestatic 53, 3) := by decide +kernel
theorem d_M_close_208 : decode b_M_close 208 = .ok (.iadd, 1) := by decide +kernel
theorem d_M_close_209 : decode b_M_close 209 = .ok (.laload, 1) := by decide +kernel
theorem d_M_close_210 : decode b_M_close 210 = .ok (.lconst 0, 1) := by decide +kernel
theorem d_M_close_211 : decode b_M_close 211 = .ok (.lcmp, 1) := by decide +kernel
theorem d_M_close_212 : decode b_M_close 212 = .ok (.ifCond .ge 5, 3) := by decide +kernel
theorem d_M_close_215 : decode b_M_close 215 = .ok (.iconst 0, 1) := by decide +kernel
theorem d_M_close_216 : decode b_M_close 216 = .ok (.ireturn, 1) := by decide +kernel
theorem d_M_close_217 : decode b_M_close 217 = .ok (.iinc 4 1, 3) := by decide +kernel
theorem d_M_close_220 : decode b_M_close 220 = .ok (.goto (-32), 3) := by decide +kernel
theorem d_M_close_223 : decode b_M_close 223 = .ok (.iinc 3 1, 3) := by decide +kernel
theorem d_M_close_226 : decode b_M_close 226 = .ok (.goto (-159), 3) := by decide +kernel
theorem d_M_close_229 : decode b_M_close 229 = .ok (.iconst 0, 1) := by decide +kernel
theorem d_M_close_230 : decode b_M_close 230 = .ok (.istore_n 3, 1) := by decide +kernel
theorem d_M_close_231 : decode b_M_close 231 = .ok (.iload_n 3, 1) := by decide +kernel
theorem d_M_close_232 : decode b_M_close 232 = .ok (.iload_n 1, 1) := by decide +kernel
theorem d_M_close_233 : decode b_M_close 233 = .ok (.if_icmp .ge 70, 3) := by decide +kernel
theorem d_M_close_236 : decode b_M_close 236 = .ok (.aload_n 0, 1) := by decide +kernel
theorem d_M_close_237 : decode b_M_close 237 = .ok (.getfield 17, 3) := by decide +kernel
theorem d_M_close_240 : decode b_M_close 240 = .ok (.bipush 11, 2) := by decide +kernel
theorem d_M_close_242 : decode b_M_close 242 = .ok (.iload_n 3, 1) := by decide +kernel
theorem d_M_close_243 : decode b_M_close 243 = .ok (.imul, 1) := by decide +kernel
theorem d_M_close_244 : decode b_M_close 244 = .ok (.laload, 1) := by decide +kernel
theorem d_M_close_245 : decode b_M_close 245 = .ok (.ldc2_w 46, 3) := by decide +kernel
theorem d_M_close_248 : decode b_M_close 248 = .ok (.lcmp, 1) := by decide +kernel
theorem d_M_close_249 : decode b_M_close 249 = .ok (.ifCond .eq 48, 3) := by decide +kernel
theorem d_M_close_252 : decode b_M_close 252 = .ok (.aload_n 0, 1) := by decide +kernel
theorem d_M_close_253 : decode b_M_close 253 = .ok (.getfield 17, 3) := by decide +kernel
theorem d_M_close_256 : decode b_M_close 256 = .ok (.bipush 11, 2) := by decide +kernel
theorem d_M_close_258 : decode b_M_close 258 = .ok (.iload_n 3, 1) := by decide +kernel
theorem d_M_close_259 : decode b_M_close 259 = .ok (.imul, 1) := by decide +kernel
theorem d_M_close_260 : decode b_M_close 260 = .ok (.laload, 1) := by decide +kernel
theorem d_M_close_261 : decode b_M_close 261 = .ok (.ldc2_w 51, 3) := by decide +kernel
theorem d_M_close_264 : decode b_M_close 264 = .ok (.lrem, 1) := by decide +kernel
theorem d_M_close_265 : decode b_M_close 265 = .ok (.lconst 0, 1) := by decide +kernel
theorem d_M_close_266 : decode b_M_close 266 = .ok (.lcmp, 1) := by decide +kernel
theorem d_M_close_267 : decode b_M_close 267 = .ok (.ifCond .eq 30, 3) := by decide +kernel
theorem d_M_close_270 : decode b_M_close 270 = .ok (.aload_n 0, 1) := by decide +kernel
theorem d_M_close_271 : decode b_M_close 271 = .ok (.getfield 17, 3) := by decide +kernel
theorem d_M_close_274 : decode b_M_close 274 = .ok (.bipush 11, 2) := by decide +kernel
theorem d_M_close_276 : decode b_M_close 276 = .ok (.iload_n 3, 1) := by decide +kernel
theorem d_M_close_277 : decode b_M_close 277 = .ok (.imul, 1) := by decide +kernel
theorem d_M_close_278 : decode b_M_close 278 = .ok (.ldc2_w 51, 3) := by decide +kernel
theorem d_M_close_281 : decode b_M_close 281 = .ok (.aload_n 0, 1) := by decide +kernel
theorem d_M_close_282 : decode b_M_close 282 = .ok (.getfield 17, 3) := by decide +kernel
theorem d_M_close_285 : decode b_M_close 285 = .ok (.bipush 11, 2) := by decide +kernel
theorem d_M_close_287 : decode b_M_close 287 = .ok (.iload_n 3, 1) := by decide +kernel
theorem d_M_close_288 : decode b_M_close 288 = .ok (.imul, 1) := by decide +kernel
theorem d_M_close_289 : decode b_M_close 289 = .ok (.laload, 1) := by decide +kernel
theorem d_M_close_290 : decode b_M_close 290 = .ok (.invokestatic 61, 3) := by decide +kernel
theorem d_M_close_293 : decode b_M_close 293 = .ok (.lmul, 1) := by decide +kernel
theorem d_M_close_294 : decode b_M_close 294 = .ok (.lastore, 1) := by decide +kernel
theorem d_M_close_295 : decode b_M_close 295 = .ok (.iconst 1, 1) := by decide +kernel
theorem d_M_close_296 : decode b_M_close 296 = .ok (.istore_n 2, 1) := by decide +kernel
theorem d_M_close_297 : decode b_M_close 297 = .ok (.iinc 3 1, 3) := by decide +kernel
theorem d_M_close_300 : decode b_M_close 300 = .ok (.goto (-69), 3) := by decide +kernel
theorem d_M_close_303 : decode b_M_close 303 = .ok (.iconst 0, 1) := by decide +kernel
theorem d_M_close_304 : decode b_M_close 304 = .ok (.istore_n 3, 1) := by decide +kernel
theorem d_M_close_305 : decode b_M_close 305 = .ok (.iload_n 3, 1) := by decide +kernel
theorem d_M_close_306 : decode b_M_close 306 = .ok (.iload_n 1, 1) := by decide +kernel
theorem d_M_close_307 : decode b_M_close 307 = .ok (.if_icmp .ge 172, 3) := by decide +kernel
theorem d_M_close_310 : decode b_M_close 310 = .ok (.aload_n 0, 1) := by decide +kernel
theorem d_M_close_311 : decode b_M_close 311 = .ok (.getfield 17, 3) := by decide +kernel
theorem d_M_close_314 : decode b_M_close 314 = .ok (.bipush 11, 2) := by decide +kernel
theorem d_M_close_316 : decode b_M_close 316 = .ok (.iload_n 3, 1) := by decide +kernel
theorem d_M_close_317 : decode b_M_close 317 = .ok (.imul, 1) := by decide +kernel
theorem d_M_close_318 : decode b_M_close 318 = .ok (.laload, 1) := by decide +kernel
theorem d_M_close_319 : decode b_M_close 319 = .ok (.aload_n 0, 1) := by decide +kernel
theorem d_M_close_320 : decode b_M_close 320 = .ok (.getfield 17, 3) := by decide +kernel
theorem d_M_close_323 : decode b_M_close 323 = .ok (.bipush 11, 2) := by decide +kernel
theorem d_M_close_325 : decode b_M_close 325 = .ok (.iload_n 3, 1) := by decide +kernel
theorem d_M_close_326 : decode b_M_close 326 = .ok (.invokestatic 53, 3) := by decide +kernel
theorem d_M_close_329 : decode b_M_close 329 = .ok (.imul, 1) := by decide +kernel
theorem d_M_close_330 : decode b_M_close 330 = .ok (.laload, 1) := by decide +kernel
theorem d_M_close_331 : decode b_M_close 331 = .ok (.invokestatic 57, 3) := by decide +kernel
theorem d_M_close_334 : decode b_M_close 334 = .ok (.lconst 0, 1) := by decide +kernel
theorem d_M_close_335 : decode b_M_close 335 = .ok (.lcmp, 1) := by decide +kernel
theorem d_M_close_336 : decode b_M_close 336 = .ok (.ifCond .ge 5, 3) := by decide +kernel
theorem d_M_close_339 : decode b_M_close 339 = .ok (.iconst 0, 1) := by decide +kernel
theorem d_M_close_340 : decode b_M_close 340 = .ok (.ireturn, 1) := by decide +kernel
theorem d_M_close_341 : decode b_M_close 341 = .ok (.iconst 0, 1) := by decide +kernel
theorem d_M_close_342 : decode b_M_close 342 = .ok (.istore 4, 2) := by decide +kernel
theorem d_M_close_344 : decode b_M_close 344 = .ok (.iload 4, 2) := by decide +kernel
theorem d_M_close_346 : decode b_M_close 346 = .ok (.iload_n 1, 1) := by decide +kernel
theorem d_M_close_347 : decode b_M_close 347 = .ok (.if_icmp .ge 126, 3) := by decide +kernel
theorem d_M_close_350 : decode b_M_close 350 = .ok (.aload_n 0, 1) := by decide +kernel
theorem d_M_close_351 : decode b_M_close 351 = .ok (.getfield 17, 3) := by decide +kernel
theorem d_M_close_354 : decode b_M_close 354 = .ok (.bipush 11, 2) := by decide +kernel
theorem d_M_close_356 : decode b_M_close 356 = .ok (.iload_n 3, 1) := by decide +kernel
theorem d_M_close_357 : decode b_M_close 357 = .ok (.imul, 1) := by decide +kernel
theorem d_M_close_358 : decode b_M_close 358 = .ok (.laload, 1) := by decide +kernel
theorem d_M_close_359 : decode b_M_close 359 = .ok (.ldc2_w 46, 3) := by decide +kernel
theorem d_M_close_362 : decode b_M_close 362 = .ok (.lcmp, 1) := by decide +kernel
theorem d_M_close_363 : decode b_M_close 363 = .ok (.ifCond .eq 20, 3) := by decide +kernel
theorem d_M_close_366 : decode b_M_close 366 = .ok (.aload_n 0, 1) := by decide +kernel
theorem d_M_close_367 : decode b_M_close 367 = .ok (.getfield 17, 3) := by decide +kernel
theorem d_M_close_370 : decode b_M_close 370 = .ok (.bipush 11, 2) := by decide +kernel
theorem d_M_close_372 : decode b_M_close 372 = .ok (.iload 4, 2) := by decide +kernel
theorem d_M_close_374 : decode b_M_close 374 = .ok (.imul, 1) := by decide +kernel
theorem d_M_close_375 : decode b_M_close 375 = .ok (.laload, 1) := by decide +kernel
theorem d_M_close_376 : decode b_M_close 376 = .ok (.ldc2_w 46, 3) := by decide +kernel
theorem d_M_close_379 : decode b_M_close 379 = .ok (.lcmp, 1) := by decide +kernel
theorem d_M_close_380 : decode b_M_close 380 = .ok (.ifCond .ne 9, 3) := by decide +kernel
theorem d_M_close_383 : decode b_M_close 383 = .ok (.ldc2_w 46, 3) := by decide +kernel
theorem d_M_close_386 : decode b_M_close 386 = .ok (.goto 31, 3) := by decide +kernel
theorem d_M_close_389 : decode b_M_close 389 = .ok (.aload_n 0, 1) := by decide +kernel
theorem d_M_close_390 : decode b_M_close 390 = .ok (.getfield 17, 3) := by decide +kernel
theorem d_M_close_393 : decode b_M_close 393 = .ok (.bipush 11, 2) := by decide +kernel
theorem d_M_close_395 : decode b_M_close 395 = .ok (.iload_n 3, 1) := by decide +kernel
theorem d_M_close_396 : decode b_M_close 396 = .ok (.imul, 1) := by decide +kernel
theorem d_M_close_397 : decode b_M_close 397 = .ok (.laload, 1) := by decide +kernel
theorem d_M_close_398 : decode b_M_close 398 = .ok (.ldc2_w 51, 3) := by decide +kernel
theorem d_M_close_401 : decode b_M_close 401 = .ok (.ldiv, 1) := by decide +kernel
theorem d_M_close_402 : decode b_M_close 402 = .ok (.aload_n 0, 1) := by decide +kernel
theorem d_M_close_403 : decode b_M_close 403 = .ok (.getfield 17, 3) := by decide +kernel
theorem d_M_close_406 : decode b_M_close 406 = .ok (.bipush 11, 2) := by decide +kernel
theorem d_M_close_408 : decode b_M_close 408 = .ok (.iload 4, 2) := by decide +kernel
theorem d_M_close_410 : decode b_M_close 410 = .ok (.imul, 1) := by decide +kernel
theorem d_M_close_411 : decode b_M_close 411 = .ok (.laload, 1) := by decide +kernel
theorem d_M_close_412 : decode b_M_close 412 = .ok (.ldc2_w 51, 3) := by decide +kernel
theorem d_M_close_415 : decode b_M_close 415 = .ok (.ldiv, 1) := by decide +kernel
theorem d_M_close_416 : decode b_M_close 416 = .ok (.ladd, 1) := by decide +kernel
theorem d_M_close_417 : decode b_M_close 417 = .ok (.lstore 5, 2) := by decide +kernel
theorem d_M_close_419 : decode b_M_close 419 = .ok (.lload 5, 2) := by decide +kernel
theorem d_M_close_421 : decode b_M_close 421 = .ok (.aload_n 0, 1) := by decide +kernel
theorem d_M_close_422 : decode b_M_close 422 = .ok (.getfield 17, 3) := by decide +kernel
theorem d_M_close_425 : decode b_M_close 425 = .ok (.bipush 10, 2) := by decide +kernel
theorem d_M_close_427 : decode b_M_close 427 = .ok (.iload_n 3, 1) := by decide +kernel
theorem d_M_close_428 : decode b_M_close 428 = .ok (.imul, 1) := by decide +kernel
theorem d_M_close_429 : decode b_M_close 429 = .ok (.iload 4, 2) := by decide +kernel
theorem d_M_close_431 : decode b_M_close 431 = .ok (.iadd, 1) := by decide +kernel
theorem d_M_close_432 : decode b_M_close 432 = .ok (.laload, 1) := by decide +kernel
theorem d_M_close_433 : decode b_M_close 433 = .ok (.lcmp, 1) := by decide +kernel
theorem d_M_close_434 : decode b_M_close 434 = .ok (.ifCond .ge 33, 3) := by decide +kernel
theorem d_M_close_437 : decode b_M_close 437 = .ok (.aload_n 0, 1) := by decide +kernel
theorem d_M_close_438 : decode b_M_close 438 = .ok (.getfield 17, 3) := by decide +kernel
theorem d_M_close_441 : decode b_M_close 441 = .ok (.bipush 10, 2) := by decide +kernel
theorem d_M_close_443 : decode b_M_close 443 = .ok (.iload_n 3, 1) := by decide +kernel
theorem d_M_close_444 : decode b_M_close 444 = .ok (.imul, 1) := by decide +kernel
theorem d_M_close_445 : decode b_M_close 445 = .ok (.iload 4, 2) := by decide +kernel
theorem d_M_close_447 : decode b_M_close 447 = .ok (.iadd, 1) := by decide +kernel
theorem d_M_close_448 : decode b_M_close 448 = .ok (.lload 5, 2) := by decide +kernel
theorem d_M_close_450 : decode b_M_close 450 = .ok (.lastore, 1) := by decide +kernel
theorem d_M_close_451 : decode b_M_close 451 = .ok (.aload_n 0, 1) := by decide +kernel
theorem d_M_close_452 : decode b_M_close 452 = .ok (.getfield 17, 3) := by decide +kernel
theorem d_M_close_455 : decode b_M_close 455 = .ok (.bipush 10, 2) := by decide +kernel
theorem d_M_close_457 : decode b_M_close 457 = .ok (.iload 4, 2) := by decide +kernel
theorem d_M_close_459 : decode b_M_close 459 = .ok (.imul, 1) := by decide +kernel
theorem d_M_close_460 : decode b_M_close 460 = .ok (.iload_n 3, 1) := by decide +kernel
theorem d_M_close_461 : decode b_M_close 461 = .ok (.iadd, 1) := by decide +kernel
theorem d_M_close_462 : decode b_M_close 462 = .ok (.lload 5, 2) := by decide +kernel
theorem d_M_close_464 : decode b_M_close 464 = .ok (.lastore, 1) := by decide +kernel
theorem d_M_close_465 : decode b_M_close 465 = .ok (.iconst 1, 1) := by decide +kernel
theorem d_M_close_466 : decode b_M_close 466 = .ok (.istore_n 2, 1) := by decide +kernel
theorem d_M_close_467 : decode b_M_close 467 = .ok (.iinc 4 1, 3) := by decide +kernel
theorem d_M_close_470 : decode b_M_close 470 = .ok (.goto (-126), 3) := by decide +kernel
theorem d_M_close_473 : decode b_M_close 473 = .ok (.iinc 3 1, 3) := by decide +kernel
theorem d_M_close_476 : decode b_M_close 476 = .ok (.goto (-171), 3) := by decide +kernel
theorem d_M_close_479 : decode b_M_close 479 = .ok (.goto (-420), 3) := by decide +kernel
theorem d_M_close_482 : decode b_M_close 482 = .ok (.iconst 1, 1) := by decide +kernel
theorem d_M_close_483 : decode b_M_close 483 = .ok (.ireturn, 1) := by decide +kernel
theorem d_M_isFar_0 : decode b_M_isFar 0 = .ok (.iconst 0, 1) := by decide +kernel
theorem d_M_isFar_1 : decode b_M_isFar 1 = .ok (.istore_n 1, 1) := by decide +kernel
theorem d_M_isFar_2 : decode b_M_isFar 2 = .ok (.iload_n 1, 1) := by decide +kernel
theorem d_M_isFar_3 : decode b_M_isFar 3 = .ok (.iconst 2, 1) := by decide +kernel
theorem d_M_isFar_4 : decode b_M_isFar 4 = .ok (.aload_n 0, 1) := by decide +kernel
theorem d_M_isFar_5 : decode b_M_isFar 5 = .ok (.getfield 42, 3) := by decide +kernel
theorem d_M_isFar_8 : decode b_M_isFar 8 = .ok (.imul, 1) := by decide +kernel
theorem d_M_isFar_9 : decode b_M_isFar 9 = .ok (.if_icmp .ge 91, 3) := by decide +kernel
theorem d_M_isFar_12 : decode b_M_isFar 12 = .ok (.iconst 0, 1) := by decide +kernel
theorem d_M_isFar_13 : decode b_M_isFar 13 = .ok (.istore_n 2, 1) := by decide +kernel
theorem d_M_isFar_14 : decode b_M_isFar 14 = .ok (.iload_n 2, 1) := by decide +kernel
theorem d_M_isFar_15 : decode b_M_isFar 15 = .ok (.iconst 2, 1) := by decide +kernel
theorem d_M_isFar_16 : decode b_M_isFar 16 = .ok (.aload_n 0, 1) := by decide +kernel
theorem d_M_isFar_17 : decode b_M_isFar 17 = .ok (.getfield 42, 3) := by decide +kernel
theorem d_M_isFar_20 : decode b_M_isFar 20 = .ok (.imul, 1) := by decide +kernel
theorem d_M_isFar_21 : decode b_M_isFar 21 = .ok (.if_icmp .ge 73, 3) := by decide +kernel
theorem d_M_isFar_24 : decode b_M_isFar 24 = .ok (.aload_n 0, 1) := by decide +kernel
theorem d_M_isFar_25 : decode b_M_isFar 25 = .ok (.getfield 17, 3) := by decide +kernel
theorem d_M_isFar_28 : decode b_M_isFar 28 = .ok (.bipush 10, 2) := by decide +kernel
theorem d_M_isFar_30 : decode b_M_isFar 30 = .ok (.iload_n 1, 1) := by decide +kernel
theorem d_M_isFar_31 : decode b_M_isFar 31 = .ok (.imul, 1) := by decide +kernel
theorem d_M_isFar_32 : decode b_M_isFar 32 = .ok (.iload_n 2, 1) := by decide +kernel
theorem d_M_isFar_33 : decode b_M_isFar 33 = .ok (.iadd, 1) := by decide +kernel
theorem d_M_isFar_34 : decode b_M_isFar 34 = .ok (.laload, 1) := by decide +kernel
theorem d_M_isFar_35 : decode b_M_isFar 35 = .ok (.lstore_n 3, 1) := by decide +kernel
theorem d_M_isFar_36 : decode b_M_isFar 36 = .ok (.iload_n 1, 1) := by decide +kernel
theorem d_M_isFar_37 : decode b_M_isFar 37 = .ok (.iload_n 2, 1) := by decide +kernel
theorem d_M_isFar_38 : decode b_M_isFar 38 = .ok (.if_icmp .ne 11, 3) := by decide +kernel
theorem d_M_isFar_41 : decode b_M_isFar 41 = .ok (.lload_n 3, 1) := by decide +kernel
theorem d_M_isFar_42 : decode b_M_isFar 42 = .ok (.ldc2_w 51, 3) := by decide +kernel
theorem d_M_isFar_45 : decode b_M_isFar 45 = .ok (.ldiv, 1) := by decide +kernel
theorem d_M_isFar_46 : decode b_M_isFar 46 = .ok (.goto 4, 3) := by decide +kernel
theorem d_M_isFar_49 : decode b_M_isFar 49 = .ok (.lload_n 3, 1) := by decide +kernel
theorem d_M_isFar_50 : decode b_M_isFar 50 = .ok (.lstore 5, 2) := by decide +kernel
theorem d_M_isFar_52 : decode b_M_isFar 52 = .ok (.iload_n 2, 1) := by decide +kernel
theorem d_M_isFar_53 : decode b_M_isFar 53 = .ok (.iload_n 1, 1) := by decide +kernel
theorem d_M_isFar_54 : decode b_M_isFar 54 = .ok (.invokestatic 53, 3) := by decide +kernel
theorem d_M_isFar_57 : decode b_M_isFar 57 = .ok (.if_icmp .eq 31, 3) := by decide +kernel
theorem d_M_isFar_60 : decode b_M_isFar 60 = .ok (.lload_n 3, 1) := by decide +kernel
theorem d_M_isFar_61 : decode b_M_isFar 61 = .ok (.ldc2_w 46, 3) := by decide +kernel
theorem d_M_isFar_64 : decode b_M_isFar 64 = .ok (.lcmp, 1) := by decide +kernel
theorem d_M_isFar_65 : decode b_M_isFar 65 = .ok (.ifCond .eq 23, 3) := by decide +kernel
theorem d_M_isFar_68 : decode b_M_isFar 68 = .ok (.lload 5, 2) := by decide +kernel
theorem d_M_isFar_70 : decode b_M_isFar 70 = .ok (.ldc2_w 65, 3) := by decide +kernel
theorem d_M_isFar_73 : decode b_M_isFar 73 = .ok (.lcmp, 1) := by decide +kernel
theorem d_M_isFar_74 : decode b_M_isFar 74 = .ok (.ifCond .gt 12, 3) := by decide +kernel
theorem d_M_isFar_77 : decode b_M_isFar 77 = .ok (.lload 5, 2) := by decide +kernel
theorem d_M_isFar_79 : decode b_M_isFar 79 = .ok (.ldc2_w 67, 3) := by decide +kernel
theorem d_M_isFar_82 : decode b_M_isFar 82 = .ok (.lcmp, 1) := by decide +kernel
theorem d_M_isFar_83 : decode b_M_isFar 83 = .ok (.ifCond .ge 5, 3) := by decide +kernel
theorem d_M_isFar_86 : decode b_M_isFar 86 = .ok (.iconst 1, 1) := by decide +kernel
theorem d_M_isFar_87 : decode b_M_isFar 87 = .ok (.ireturn, 1) := by decide +kernel
theorem d_M_isFar_88 : decode b_M_isFar 88 = .ok (.iinc 2 1, 3) := by decide +kernel
theorem d_M_isFar_91 : decode b_M_isFar 91 = .ok (.goto (-77), 3) := by decide +kernel
theorem d_M_isFar_94 : decode b_M_isFar 94 = .ok (.iinc 1 1, 3) := by decide +kernel
theorem d_M_isFar_97 : decode b_M_isFar 97 = .ok (.goto (-95), 3) := by decide +kernel
theorem d_M_isFar_100 : decode b_M_isFar 100 = .ok (.iconst 0, 1) := by decide +kernel
theorem d_M_isFar_101 : decode b_M_isFar 101 = .ok (.ireturn, 1) := by decide +kernel
theorem d_M_closeMade_0 : decode b_M_closeMade 0 = .ok (.iconst 0, 1) := by decide +kernel
theorem d_M_closeMade_1 : decode b_M_closeMade 1 = .ok (.istore_n 1, 1) := by decide +kernel
theorem d_M_closeMade_2 : decode b_M_closeMade 2 = .ok (.iload_n 1, 1) := by decide +kernel
theorem d_M_closeMade_3 : decode b_M_closeMade 3 = .ok (.iconst 2, 1) := by decide +kernel
theorem d_M_closeMade_4 : decode b_M_closeMade 4 = .ok (.aload_n 0, 1) := by decide +kernel
theorem d_M_closeMade_5 : decode b_M_closeMade 5 = .ok (.getfield 42, 3) := by decide +kernel
theorem d_M_closeMade_8 : decode b_M_closeMade 8 = .ok (.imul, 1) := by decide +kernel
theorem d_M_closeMade_9 : decode b_M_closeMade 9 = .ok (.if_icmp .ge 72, 3) := by decide +kernel
theorem d_M_closeMade_12 : decode b_M_closeMade 12 = .ok (.iconst 0, 1) := by decide +kernel
theorem d_M_closeMade_13 : decode b_M_closeMade 13 = .ok (.istore_n 2, 1) := by decide +kernel
theorem d_M_closeMade_14 : decode b_M_closeMade 14 = .ok (.iload_n 2, 1) := by decide +kernel
theorem d_M_closeMade_15 : decode b_M_closeMade 15 = .ok (.iconst 2, 1) := by decide +kernel
theorem d_M_closeMade_16 : decode b_M_closeMade 16 = .ok (.aload_n 0, 1) := by decide +kernel
theorem d_M_closeMade_17 : decode b_M_closeMade 17 = .ok (.getfield 42, 3) := by decide +kernel
theorem d_M_closeMade_20 : decode b_M_closeMade 20 = .ok (.imul, 1) := by decide +kernel
theorem d_M_closeMade_21 : decode b_M_closeMade 21 = .ok (.if_icmp .ge 54, 3) := by decide +kernel
theorem d_M_closeMade_24 : decode b_M_closeMade 24 = .ok (.aload_n 0, 1) := by decide +kernel
theorem d_M_closeMade_25 : decode b_M_closeMade 25 = .ok (.getfield 23, 3) := by decide +kernel
theorem d_M_closeMade_28 : decode b_M_closeMade 28 = .ok (.bipush 10, 2) := by decide +kernel
theorem d_M_closeMade_30 : decode b_M_closeMade 30 = .ok (.iload_n 1, 1) := by decide +kernel
theorem d_M_closeMade_31 : decode b_M_closeMade 31 = .ok (.imul, 1) := by decide +kernel
theorem d_M_closeMade_32 : decode b_M_closeMade 32 = .ok (.iload_n 2, 1) := by decide +kernel
theorem d_M_closeMade_33 : decode b_M_closeMade 33 = .ok (.iadd, 1) := by decide +kernel
theorem d_M_closeMade_34 : decode b_M_closeMade 34 = .ok (.laload, 1) := by decide +kernel
theorem d_M_closeMade_35 : decode b_M_closeMade 35 = .ok (.lstore_n 3, 1) := by decide +kernel
theorem d_M_closeMade_36 : decode b_M_closeMade 36 = .ok (.aload_n 0, 1) := by decide +kernel
theorem d_M_closeMade_37 : decode b_M_closeMade 37 = .ok (.getfield 17, 3) := by decide +kernel
theorem d_M_closeMade_40 : decode b_M_closeMade 40 = .ok (.bipush 10, 2) := by decide +kernel
theorem d_M_closeMade_42 : decode b_M_closeMade 42 = .ok (.iload_n 1, 1) := by decide +kernel
theorem d_M_closeMade_43 : decode b_M_closeMade 43 = .ok (.imul, 1) := by decide +kernel
theorem d_M_closeMade_44 : decode b_M_closeMade 44 = .ok (.iload_n 2, 1) := by decide +kernel
theorem d_M_closeMade_45 : decode b_M_closeMade 45 = .ok (.iadd, 1) := by decide +kernel
theorem d_M_closeMade_46 : decode b_M_closeMade 46 = .ok (.iload_n 1, 1) := by decide +kernel
theorem d_M_closeMade_47 : decode b_M_closeMade 47 = .ok (.iload_n 2, 1) := by decide +kernel
theorem d_M_closeMade_48 : decode b_M_closeMade 48 = .ok (.if_icmp .ne 19, 3) := by decide +kernel
theorem d_M_closeMade_51 : decode b_M_closeMade 51 = .ok (.lload_n 3, 1) := by decide +kernel
theorem d_M_closeMade_52 : decode b_M_closeMade 52 = .ok (.ldc2_w 46, 3) := by decide +kernel
theorem d_M_closeMade_55 : decode b_M_closeMade 55 = .ok (.lcmp, 1) := by decide +kernel
theorem d_M_closeMade_56 : decode b_M_closeMade 56 = .ok (.ifCond .eq 11, 3) := by decide +kernel
theorem d_M_closeMade_59 : decode b_M_closeMade 59 = .ok (.ldc2_w 51, 3) := by decide +kernel
theorem d_M_closeMade_62 : decode b_M_closeMade 62 = .ok (.lload_n 3, 1) := by decide +kernel
theorem d_M_closeMade_63 : decode b_M_closeMade 63 = .ok (.lmul, 1) := by decide +kernel
theorem d_M_closeMade_64 : decode b_M_closeMade 64 = .ok (.goto 4, 3) := by decide +kernel
theorem d_M_closeMade_67 : decode b_M_closeMade 67 = .ok (.lload_n 3, 1) := by decide +kernel
theorem d_M_closeMade_68 : decode b_M_closeMade 68 = .ok (.lastore, 1) := by decide +kernel
theorem d_M_closeMade_69 : decode b_M_closeMade 69 = .ok (.iinc 2 1, 3) := by decide +kernel
theorem d_M_closeMade_72 : decode b_M_closeMade 72 = .ok (.goto (-58), 3) := by decide +kernel
theorem d_M_closeMade_75 : decode b_M_closeMade 75 = .ok (.iinc 1 1, 3) := by decide +kernel
theorem d_M_closeMade_78 : decode b_M_closeMade 78 = .ok (.goto (-76), 3) := by decide +kernel
theorem d_M_closeMade_81 : decode b_M_closeMade 81 = .ok (.aload_n 0, 1) := by decide +kernel
theorem d_M_closeMade_82 : decode b_M_closeMade 82 = .ok (.invokevirtual 69, 3) := by decide +kernel
theorem d_M_closeMade_85 : decode b_M_closeMade 85 = .ok (.ireturn, 1) := by decide +kernel
theorem d_M_keepMade_0 : decode b_M_keepMade 0 = .ok (.aload_n 0, 1) := by decide +kernel
theorem d_M_keepMade_1 : decode b_M_keepMade 1 = .ok (.iload_n 1, 1) := by decide +kernel
theorem d_M_keepMade_2 : decode b_M_keepMade 2 = .ok (.invokevirtual 73, 3) := by decide +kernel
theorem d_M_keepMade_5 : decode b_M_keepMade 5 = .ok (.aload_n 0, 1) := by decide +kernel
theorem d_M_keepMade_6 : decode b_M_keepMade 6 = .ok (.getfield 13, 3) := by decide +kernel
theorem d_M_keepMade_9 : decode b_M_keepMade 9 = .ok (.iload_n 1, 1) := by decide +kernel
theorem d_M_keepMade_10 : decode b_M_keepMade 10 = .ok (.iconst 0, 1) := by decide +kernel
theorem d_M_keepMade_11 : decode b_M_keepMade 11 = .ok (.bastore, 1) := by decide +kernel
theorem d_M_keepMade_12 : decode b_M_keepMade 12 = .ok (.iconst 0, 1) := by decide +kernel
theorem d_M_keepMade_13 : decode b_M_keepMade 13 = .ok (.istore_n 2, 1) := by decide +kernel
theorem d_M_keepMade_14 : decode b_M_keepMade 14 = .ok (.iload_n 2, 1) := by decide +kernel
theorem d_M_keepMade_15 : decode b_M_keepMade 15 = .ok (.iconst 2, 1) := by decide +kernel
theorem d_M_keepMade_16 : decode b_M_keepMade 16 = .ok (.aload_n 0, 1) := by decide +kernel
theorem d_M_keepMade_17 : decode b_M_keepMade 17 = .ok (.getfield 42, 3) := by decide +kernel
theorem d_M_keepMade_20 : decode b_M_keepMade 20 = .ok (.imul, 1) := by decide +kernel
theorem d_M_keepMade_21 : decode b_M_keepMade 21 = .ok (.if_icmp .ge 54, 3) := by decide +kernel
theorem d_M_keepMade_24 : decode b_M_keepMade 24 = .ok (.iconst 0, 1) := by decide +kernel
theorem d_M_keepMade_25 : decode b_M_keepMade 25 = .ok (.istore_n 3, 1) := by decide +kernel
theorem d_M_keepMade_26 : decode b_M_keepMade 26 = .ok (.iload_n 3, 1) := by decide +kernel
theorem d_M_keepMade_27 : decode b_M_keepMade 27 = .ok (.iconst 2, 1) := by decide +kernel
theorem d_M_keepMade_28 : decode b_M_keepMade 28 = .ok (.aload_n 0, 1) := by decide +kernel
theorem d_M_keepMade_29 : decode b_M_keepMade 29 = .ok (.getfield 42, 3) := by decide +kernel
theorem d_M_keepMade_32 : decode b_M_keepMade 32 = .ok (.imul, 1) := by decide +kernel
theorem d_M_keepMade_33 : decode b_M_keepMade 33 = .ok (.if_icmp .ge 36, 3) := by decide +kernel
theorem d_M_keepMade_36 : decode b_M_keepMade 36 = .ok (.aload_n 0, 1) := by decide +kernel
theorem d_M_keepMade_37 : decode b_M_keepMade 37 = .ok (.getfield 7, 3) := by decide +kernel
theorem d_M_keepMade_40 : decode b_M_keepMade 40 = .ok (.bipush 100, 2) := by decide +kernel
theorem d_M_keepMade_42 : decode b_M_keepMade 42 = .ok (.iload_n 1, 1) := by decide +kernel
theorem d_M_keepMade_43 : decode b_M_keepMade 43 = .ok (.imul, 1) := by decide +kernel
theorem d_M_keepMade_44 : decode b_M_keepMade 44 = .ok (.bipush 10, 2) := by decide +kernel
theorem d_M_keepMade_46 : decode b_M_keepMade 46 = .ok (.iload_n 2, 1) := by decide +kernel
theorem d_M_keepMade_47 : decode b_M_keepMade 47 = .ok (.imul, 1) := by decide +kernel
theorem d_M_keepMade_48 : decode b_M_keepMade 48 = .ok (.iadd, 1) := by decide +kernel
theorem d_M_keepMade_49 : decode b_M_keepMade 49 = .ok (.iload_n 3, 1) := by decide +kernel
theorem d_M_keepMade_50 : decode b_M_keepMade 50 = .ok (.iadd, 1) := by decide +kernel
theorem d_M_keepMade_51 : decode b_M_keepMade 51 = .ok (.aload_n 0, 1) := by decide +kernel
theorem d_M_keepMade_52 : decode b_M_keepMade 52 = .ok (.getfield 23, 3) := by decide +kernel
theorem d_M_keepMade_55 : decode b_M_keepMade 55 = .ok (.bipush 10, 2) := by decide +kernel
theorem d_M_keepMade_57 : decode b_M_keepMade 57 = .ok (.iload_n 2, 1) := by decide +kernel
theorem d_M_keepMade_58 : decode b_M_keepMade 58 = .ok (.imul, 1) := by decide +kernel
theorem d_M_keepMade_59 : decode b_M_keepMade 59 = .ok (.iload_n 3, 1) := by decide +kernel
theorem d_M_keepMade_60 : decode b_M_keepMade 60 = .ok (.iadd, 1) := by decide +kernel
theorem d_M_keepMade_61 : decode b_M_keepMade 61 = .ok (.laload, 1) := by decide +kernel
theorem d_M_keepMade_62 : decode b_M_keepMade 62 = .ok (.lastore, 1) := by decide +kernel
theorem d_M_keepMade_63 : decode b_M_keepMade 63 = .ok (.iinc 3 1, 3) := by decide +kernel
theorem d_M_keepMade_66 : decode b_M_keepMade 66 = .ok (.goto (-40), 3) := by decide +kernel
theorem d_M_keepMade_69 : decode b_M_keepMade 69 = .ok (.iinc 2 1, 3) := by decide +kernel
theorem d_M_keepMade_72 : decode b_M_keepMade 72 = .ok (.goto (-58), 3) := by decide +kernel
theorem d_M_keepMade_75 : decode b_M_keepMade 75 = .ok (.return_, 1) := by decide +kernel
theorem d_M_closeShape_0 : decode b_M_closeShape 0 = .ok (.aload_n 0, 1) := by decide +kernel
theorem d_M_closeShape_1 : decode b_M_closeShape 1 = .ok (.getfield 13, 3) := by decide +kernel
theorem d_M_closeShape_4 : decode b_M_closeShape 4 = .ok (.iload_n 1, 1) := by decide +kernel
theorem d_M_closeShape_5 : decode b_M_closeShape 5 = .ok (.baload, 1) := by decide +kernel
theorem d_M_closeShape_6 : decode b_M_closeShape 6 = .ok (.ifCond .eq 5, 3) := by decide +kernel
theorem d_M_closeShape_9 : decode b_M_closeShape 9 = .ok (.iconst 0, 1) := by decide +kernel
theorem d_M_closeShape_10 : decode b_M_closeShape 10 = .ok (.ireturn, 1) := by decide +kernel
theorem d_M_closeShape_11 : decode b_M_closeShape 11 = .ok (.aload_n 0, 1) := by decide +kernel
theorem d_M_closeShape_12 : decode b_M_closeShape 12 = .ok (.iload_n 1, 1) := by decide +kernel
theorem d_M_closeShape_13 : decode b_M_closeShape 13 = .ok (.invokevirtual 77, 3) := by decide +kernel
theorem d_M_closeShape_16 : decode b_M_closeShape 16 = .ok (.aload_n 0, 1) := by decide +kernel
theorem d_M_closeShape_17 : decode b_M_closeShape 17 = .ok (.invokevirtual 69, 3) := by decide +kernel
theorem d_M_closeShape_20 : decode b_M_closeShape 20 = .ok (.ireturn, 1) := by decide +kernel
theorem d_M_copyTable_0 : decode b_M_copyTable 0 = .ok (.iconst 0, 1) := by decide +kernel
theorem d_M_copyTable_1 : decode b_M_copyTable 1 = .ok (.istore_n 2, 1) := by decide +kernel
theorem d_M_copyTable_2 : decode b_M_copyTable 2 = .ok (.iload_n 2, 1) := by decide +kernel
theorem d_M_copyTable_3 : decode b_M_copyTable 3 = .ok (.bipush 100, 2) := by decide +kernel
theorem d_M_copyTable_5 : decode b_M_copyTable 5 = .ok (.if_icmp .ge 40, 3) := by decide +kernel
theorem d_M_copyTable_8 : decode b_M_copyTable 8 = .ok (.iload_n 1, 1) := by decide +kernel
theorem d_M_copyTable_9 : decode b_M_copyTable 9 = .ok (.ifCond .eq 18, 3) := by decide +kernel
theorem d_M_copyTable_12 : decode b_M_copyTable 12 = .ok (.aload_n 0, 1) := by decide +kernel
theorem d_M_copyTable_13 : decode b_M_copyTable 13 = .ok (.getfield 20, 3) := by decide +kernel
theorem d_M_copyTable_16 : decode b_M_copyTable 16 = .ok (.iload_n 2, 1) := by decide +kernel
theorem d_M_copyTable_17 : decode b_M_copyTable 17 = .ok (.aload_n 0, 1) := by decide +kernel
theorem d_M_copyTable_18 : decode b_M_copyTable 18 = .ok (.getfield 17, 3) := by decide +kernel
theorem d_M_copyTable_21 : decode b_M_copyTable 21 = .ok (.iload_n 2, 1) := by decide +kernel
theorem d_M_copyTable_22 : decode b_M_copyTable 22 = .ok (.laload, 1) := by decide +kernel
theorem d_M_copyTable_23 : decode b_M_copyTable 23 = .ok (.lastore, 1) := by decide +kernel
theorem d_M_copyTable_24 : decode b_M_copyTable 24 = .ok (.goto 15, 3) := by decide +kernel
theorem d_M_copyTable_27 : decode b_M_copyTable 27 = .ok (.aload_n 0, 1) := by decide +kernel
theorem d_M_copyTable_28 : decode b_M_copyTable 28 = .ok (.getfield 17, 3) := by decide +kernel
theorem d_M_copyTable_31 : decode b_M_copyTable 31 = .ok (.iload_n 2, 1) := by decide +kernel
theorem d_M_copyTable_32 : decode b_M_copyTable 32 = .ok (.aload_n 0, 1) := by decide +kernel
theorem d_M_copyTable_33 : decode b_M_copyTable 33 = .ok (.getfield 20, 3) := by decide +kernel
theorem d_M_copyTable_36 : decode b_M_copyTable 36 = .ok (.iload_n 2, 1) := by decide +kernel
theorem d_M_copyTable_37 : decode b_M_copyTable 37 = .ok (.laload, 1) := by decide +kernel
theorem d_M_copyTable_38 : decode b_M_copyTable 38 = .ok (.lastore, 1) := by decide +kernel
theorem d_M_copyTable_39 : decode b_M_copyTable 39 = .ok (.iinc 2 1, 3) := by decide +kernel
theorem d_M_copyTable_42 : decode b_M_copyTable 42 = .ok (.goto (-40), 3) := by decide +kernel
theorem d_M_copyTable_45 : decode b_M_copyTable 45 = .ok (.return_, 1) := by decide +kernel
theorem d_M_none_0 : decode b_M_none 0 = .ok (.iconst 0, 1) := by decide +kernel
theorem d_M_none_1 : decode b_M_none 1 = .ok (.istore_n 2, 1) := by decide +kernel
theorem d_M_none_2 : decode b_M_none 2 = .ok (.iload_n 2, 1) := by decide +kernel
theorem d_M_none_3 : decode b_M_none 3 = .ok (.bipush 100, 2) := by decide +kernel
theorem d_M_none_5 : decode b_M_none 5 = .ok (.if_icmp .ge 23, 3) := by decide +kernel
theorem d_M_none_8 : decode b_M_none 8 = .ok (.aload_n 0, 1) := by decide +kernel
theorem d_M_none_9 : decode b_M_none 9 = .ok (.getfield 7, 3) := by decide +kernel
theorem d_M_none_12 : decode b_M_none 12 = .ok (.bipush 100, 2) := by decide +kernel
theorem d_M_none_14 : decode b_M_none 14 = .ok (.iload_n 1, 1) := by decide +kernel
theorem d_M_none_15 : decode b_M_none 15 = .ok (.imul, 1) := by decide +kernel
theorem d_M_none_16 : decode b_M_none 16 = .ok (.iload_n 2, 1) := by decide +kernel
theorem d_M_none_17 : decode b_M_none 17 = .ok (.iadd, 1) := by decide +kernel
theorem d_M_none_18 : decode b_M_none 18 = .ok (.ldc2_w 46, 3) := by decide +kernel
theorem d_M_none_21 : decode b_M_none 21 = .ok (.lastore, 1) := by decide +kernel
theorem d_M_none_22 : decode b_M_none 22 = .ok (.iinc 2 1, 3) := by decide +kernel
theorem d_M_none_25 : decode b_M_none 25 = .ok (.goto (-23), 3) := by decide +kernel
theorem d_M_none_28 : decode b_M_none 28 = .ok (.aload_n 0, 1) := by decide +kernel
theorem d_M_none_29 : decode b_M_none 29 = .ok (.getfield 13, 3) := by decide +kernel
theorem d_M_none_32 : decode b_M_none 32 = .ok (.iload_n 1, 1) := by decide +kernel
theorem d_M_none_33 : decode b_M_none 33 = .ok (.iconst 1, 1) := by decide +kernel
theorem d_M_none_34 : decode b_M_none 34 = .ok (.bastore, 1) := by decide +kernel
theorem d_M_none_35 : decode b_M_none 35 = .ok (.return_, 1) := by decide +kernel
theorem d_M_keepClosed_0 : decode b_M_keepClosed 0 = .ok (.aload_n 0, 1) := by decide +kernel
theorem d_M_keepClosed_1 : decode b_M_keepClosed 1 = .ok (.iload_n 1, 1) := by decide +kernel
theorem d_M_keepClosed_2 : decode b_M_keepClosed 2 = .ok (.invokevirtual 73, 3) := by decide +kernel
theorem d_M_keepClosed_5 : decode b_M_keepClosed 5 = .ok (.aload_n 0, 1) := by decide +kernel
theorem d_M_keepClosed_6 : decode b_M_keepClosed 6 = .ok (.getfield 13, 3) := by decide +kernel
theorem d_M_keepClosed_9 : decode b_M_keepClosed 9 = .ok (.iload_n 1, 1) := by decide +kernel
theorem d_M_keepClosed_10 : decode b_M_keepClosed 10 = .ok (.iload_n 2, 1) := by decide +kernel
theorem d_M_keepClosed_11 : decode b_M_keepClosed 11 = .ok (.ifCond .ne 7, 3) := by decide +kernel
theorem d_M_keepClosed_14 : decode b_M_keepClosed 14 = .ok (.iconst 1, 1) := by decide +kernel
theorem d_M_keepClosed_15 : decode b_M_keepClosed 15 = .ok (.goto 4, 3) := by decide +kernel
theorem d_M_keepClosed_18 : decode b_M_keepClosed 18 = .ok (.iconst 0, 1) := by decide +kernel
theorem d_M_keepClosed_19 : decode b_M_keepClosed 19 = .ok (.bastore, 1) := by decide +kernel
theorem d_M_keepClosed_20 : decode b_M_keepClosed 20 = .ok (.iconst 0, 1) := by decide +kernel
theorem d_M_keepClosed_21 : decode b_M_keepClosed 21 = .ok (.istore_n 3, 1) := by decide +kernel
theorem d_M_keepClosed_22 : decode b_M_keepClosed 22 = .ok (.iload_n 3, 1) := by decide +kernel
theorem d_M_keepClosed_23 : decode b_M_keepClosed 23 = .ok (.iconst 2, 1) := by decide +kernel
theorem d_M_keepClosed_24 : decode b_M_keepClosed 24 = .ok (.aload_n 0, 1) := by decide +kernel
theorem d_M_keepClosed_25 : decode b_M_keepClosed 25 = .ok (.getfield 42, 3) := by decide +kernel
theorem d_M_keepClosed_28 : decode b_M_keepClosed 28 = .ok (.imul, 1) := by decide +kernel
theorem d_M_keepClosed_29 : decode b_M_keepClosed 29 = .ok (.if_icmp .ge 99, 3) := by decide +kernel
theorem d_M_keepClosed_32 : decode b_M_keepClosed 32 = .ok (.iload_n 2, 1) := by decide +kernel
theorem d_M_keepClosed_33 : decode b_M_keepClosed 33 = .ok (.ifCond .eq 95, 3) := by decide +kernel
theorem d_M_keepClosed_36 : decode b_M_keepClosed 36 = .ok (.iconst 0, 1) := by decide +kernel
theorem d_M_keepClosed_37 : decode b_M_keepClosed 37 = .ok (.istore 4, 2) := by decide +kernel
theorem d_M_keepClosed_39 : decode b_M_keepClosed 39 = .ok (.iload 4, 2) := by decide +kernel
theorem d_M_keepClosed_41 : decode b_M_keepClosed 41 = .ok (.iconst 2, 1) := by decide +kernel
theorem d_M_keepClosed_42 : decode b_M_keepClosed 42 = .ok (.aload_n 0, 1) := by decide +kernel
theorem d_M_keepClosed_43 : decode b_M_keepClosed 43 = .ok (.getfield 42, 3) := by decide +kernel
theorem d_M_keepClosed_46 : decode b_M_keepClosed 46 = .ok (.imul, 1) := by decide +kernel
theorem d_M_keepClosed_47 : decode b_M_keepClosed 47 = .ok (.if_icmp .ge 75, 3) := by decide +kernel
theorem d_M_keepClosed_50 : decode b_M_keepClosed 50 = .ok (.iload 4, 2) := by decide +kernel
theorem d_M_keepClosed_52 : decode b_M_keepClosed 52 = .ok (.iload_n 3, 1) := by decide +kernel
theorem d_M_keepClosed_53 : decode b_M_keepClosed 53 = .ok (.invokestatic 53, 3) := by decide +kernel
theorem d_M_keepClosed_56 : decode b_M_keepClosed 56 = .ok (.if_icmp .eq 60, 3) := by decide +kernel
theorem d_M_keepClosed_59 : decode b_M_keepClosed 59 = .ok (.aload_n 0, 1) := by decide +kernel
theorem d_M_keepClosed_60 : decode b_M_keepClosed 60 = .ok (.getfield 17, 3) := by decide +kernel
theorem d_M_keepClosed_63 : decode b_M_keepClosed 63 = .ok (.bipush 10, 2) := by decide +kernel
theorem d_M_keepClosed_65 : decode b_M_keepClosed 65 = .ok (.iload_n 3, 1) := by decide +kernel
theorem d_M_keepClosed_66 : decode b_M_keepClosed 66 = .ok (.imul, 1) := by decide +kernel
theorem d_M_keepClosed_67 : decode b_M_keepClosed 67 = .ok (.iload 4, 2) := by decide +kernel
theorem d_M_keepClosed_69 : decode b_M_keepClosed 69 = .ok (.iadd, 1) := by decide +kernel
theorem d_M_keepClosed_70 : decode b_M_keepClosed 70 = .ok (.laload, 1) := by decide +kernel
theorem d_M_keepClosed_71 : decode b_M_keepClosed 71 = .ok (.lstore 5, 2) := by decide +kernel
theorem d_M_keepClosed_73 : decode b_M_keepClosed 73 = .ok (.aload_n 0, 1) := by decide +kernel
theorem d_M_keepClosed_74 : decode b_M_keepClosed 74 = .ok (.getfield 7, 3) := by decide +kernel
theorem d_M_keepClosed_77 : decode b_M_keepClosed 77 = .ok (.bipush 100, 2) := by decide +kernel
theorem d_M_keepClosed_79 : decode b_M_keepClosed 79 = .ok (.iload_n 1, 1) := by decide +kernel
theorem d_M_keepClosed_80 : decode b_M_keepClosed 80 = .ok (.imul, 1) := by decide +kernel
theorem d_M_keepClosed_81 : decode b_M_keepClosed 81 = .ok (.bipush 10, 2) := by decide +kernel
theorem d_M_keepClosed_83 : decode b_M_keepClosed 83 = .ok (.iload_n 3, 1) := by decide +kernel
theorem d_M_keepClosed_84 : decode b_M_keepClosed 84 = .ok (.imul, 1) := by decide +kernel
theorem d_M_keepClosed_85 : decode b_M_keepClosed 85 = .ok (.iadd, 1) := by decide +kernel
theorem d_M_keepClosed_86 : decode b_M_keepClosed 86 = .ok (.iload 4, 2) := by decide +kernel
theorem d_M_keepClosed_88 : decode b_M_keepClosed 88 = .ok (.iadd, 1) := by decide +kernel
theorem d_M_keepClosed_89 : decode b_M_keepClosed 89 = .ok (.iload_n 3, 1) := by decide +kernel
theorem d_M_keepClosed_90 : decode b_M_keepClosed 90 = .ok (.iload 4, 2) := by decide +kernel
theorem d_M_keepClosed_92 : decode b_M_keepClosed 92 = .ok (.if_icmp .ne 21, 3) := by decide +kernel
theorem d_M_keepClosed_95 : decode b_M_keepClosed 95 = .ok (.lload 5, 2) := by decide +kernel
theorem d_M_keepClosed_97 : decode b_M_keepClosed 97 = .ok (.ldc2_w 46, 3) := by decide +kernel
theorem d_M_keepClosed_100 : decode b_M_keepClosed 100 = .ok (.lcmp, 1) := by decide +kernel
theorem d_M_keepClosed_101 : decode b_M_keepClosed 101 = .ok (.ifCond .eq 12, 3) := by decide +kernel
theorem d_M_keepClosed_104 : decode b_M_keepClosed 104 = .ok (.lload 5, 2) := by decide +kernel
theorem d_M_keepClosed_106 : decode b_M_keepClosed 106 = .ok (.ldc2_w 51, 3) := by decide +kernel
theorem d_M_keepClosed_109 : decode b_M_keepClosed 109 = .ok (.ldiv, 1) := by decide +kernel
theorem d_M_keepClosed_110 : decode b_M_keepClosed 110 = .ok (.goto 5, 3) := by decide +kernel
theorem d_M_keepClosed_113 : decode b_M_keepClosed 113 = .ok (.lload 5, 2) := by decide +kernel
theorem d_M_keepClosed_115 : decode b_M_keepClosed 115 = .ok (.lastore, 1) := by decide +kernel
theorem d_M_keepClosed_116 : decode b_M_keepClosed 116 = .ok (.iinc 4 1, 3) := by decide +kernel
theorem d_M_keepClosed_119 : decode b_M_keepClosed 119 = .ok (.goto (-80), 3) := by decide +kernel
theorem d_M_keepClosed_122 : decode b_M_keepClosed 122 = .ok (.iinc 3 1, 3) := by decide +kernel
theorem d_M_keepClosed_125 : decode b_M_keepClosed 125 = .ok (.goto (-103), 3) := by decide +kernel
theorem d_M_keepClosed_128 : decode b_M_keepClosed 128 = .ok (.iload_n 2, 1) := by decide +kernel
theorem d_M_keepClosed_129 : decode b_M_keepClosed 129 = .ok (.ifCond .eq 7, 3) := by decide +kernel
theorem d_M_keepClosed_132 : decode b_M_keepClosed 132 = .ok (.iconst 1, 1) := by decide +kernel
theorem d_M_keepClosed_133 : decode b_M_keepClosed 133 = .ok (.goto 4, 3) := by decide +kernel
theorem d_M_keepClosed_136 : decode b_M_keepClosed 136 = .ok (.iconst 0, 1) := by decide +kernel
theorem d_M_keepClosed_137 : decode b_M_keepClosed 137 = .ok (.ireturn, 1) := by decide +kernel
theorem d_M_addRow_0 : decode b_M_addRow 0 = .ok (.iload_n 1, 1) := by decide +kernel
theorem d_M_addRow_1 : decode b_M_addRow 1 = .ok (.ifCond .ne 48, 3) := by decide +kernel
theorem d_M_addRow_4 : decode b_M_addRow 4 = .ok (.iload_n 2, 1) := by decide +kernel
theorem d_M_addRow_5 : decode b_M_addRow 5 = .ok (.ifCond .ne 44, 3) := by decide +kernel
theorem d_M_addRow_8 : decode b_M_addRow 8 = .ok (.aload_n 0, 1) := by decide +kernel
theorem d_M_addRow_9 : decode b_M_addRow 9 = .ok (.getfield 17, 3) := by decide +kernel
theorem d_M_addRow_12 : decode b_M_addRow 12 = .ok (.iconst 1, 1) := by decide +kernel
theorem d_M_addRow_13 : decode b_M_addRow 13 = .ok (.lload_n 3, 1) := by decide +kernel
theorem d_M_addRow_14 : decode b_M_addRow 14 = .ok (.aload_n 0, 1) := by decide +kernel
theorem d_M_addRow_15 : decode b_M_addRow 15 = .ok (.getfield 17, 3) := by decide +kernel
theorem d_M_addRow_18 : decode b_M_addRow 18 = .ok (.iconst 1, 1) := by decide +kernel
theorem d_M_addRow_19 : decode b_M_addRow 19 = .ok (.laload, 1) := by decide +kernel
theorem d_M_addRow_20 : decode b_M_addRow 20 = .ok (.lcmp, 1) := by decide +kernel
theorem d_M_addRow_21 : decode b_M_addRow 21 = .ok (.ifCond .ge 7, 3) := by decide +kernel
theorem d_M_addRow_24 : decode b_M_addRow 24 = .ok (.lload_n 3, 1) := by decide +kernel
theorem d_M_addRow_25 : decode b_M_addRow 25 = .ok (.goto 9, 3) := by decide +kernel
theorem d_M_addRow_28 : decode b_M_addRow 28 = .ok (.aload_n 0, 1) := by decide +kernel
theorem d_M_addRow_29 : decode b_M_addRow 29 = .ok (.getfield 17, 3) := by decide +kernel
theorem d_M_addRow_32 : decode b_M_addRow 32 = .ok (.iconst 1, 1) := by decide +kernel
theorem d_M_addRow_33 : decode b_M_addRow 33 = .ok (.laload, 1) := by decide +kernel
theorem d_M_addRow_34 : decode b_M_addRow 34 = .ok (.lastore, 1) := by decide +kernel
theorem d_M_addRow_35 : decode b_M_addRow 35 = .ok (.aload_n 0, 1) := by decide +kernel
theorem d_M_addRow_36 : decode b_M_addRow 36 = .ok (.getfield 17, 3) := by decide +kernel
theorem d_M_addRow_39 : decode b_M_addRow 39 = .ok (.bipush 10, 2) := by decide +kernel
theorem d_M_addRow_41 : decode b_M_addRow 41 = .ok (.aload_n 0, 1) := by decide +kernel
theorem d_M_addRow_42 : decode b_M_addRow 42 = .ok (.getfield 17, 3) := by decide +kernel
theorem d_M_addRow_45 : decode b_M_addRow 45 = .ok (.iconst 1, 1) := by decide +kernel
theorem d_M_addRow_46 : decode b_M_addRow 46 = .ok (.laload, 1) := by decide +kernel
theorem d_M_addRow_47 : decode b_M_addRow 47 = .ok (.lastore, 1) := by decide +kernel
theorem d_M_addRow_48 : decode b_M_addRow 48 = .ok (.return_, 1) := by decide +kernel
theorem d_M_addRow_49 : decode b_M_addRow 49 = .ok (.iload_n 1, 1) := by decide +kernel
theorem d_M_addRow_50 : decode b_M_addRow 50 = .ok (.ifCond .ne 7, 3) := by decide +kernel
theorem d_M_addRow_53 : decode b_M_addRow 53 = .ok (.iload_n 2, 1) := by decide +kernel
theorem d_M_addRow_54 : decode b_M_addRow 54 = .ok (.goto 4, 3) := by decide +kernel
theorem d_M_addRow_57 : decode b_M_addRow 57 = .ok (.iload_n 1, 1) := by decide +kernel
theorem d_M_addRow_58 : decode b_M_addRow 58 = .ok (.invokestatic 80, 3) := by decide +kernel
theorem d_M_addRow_61 : decode b_M_addRow 61 = .ok (.istore 5, 2) := by decide +kernel
theorem d_M_addRow_63 : decode b_M_addRow 63 = .ok (.iload_n 2, 1) := by decide +kernel
theorem d_M_addRow_64 : decode b_M_addRow 64 = .ok (.ifCond .ne 7, 3) := by decide +kernel
theorem d_M_addRow_67 : decode b_M_addRow 67 = .ok (.iload_n 1, 1) := by decide +kernel
theorem d_M_addRow_68 : decode b_M_addRow 68 = .ok (.goto 4, 3) := by decide +kernel
theorem d_M_addRow_71 : decode b_M_addRow 71 = .ok (.iload_n 2, 1) := by decide +kernel
theorem d_M_addRow_72 : decode b_M_addRow 72 = .ok (.invokestatic 80, 3) := by decide +kernel
theorem d_M_addRow_75 : decode b_M_addRow 75 = .ok (.istore 6, 2) := by decide +kernel
theorem d_M_addRow_77 : decode b_M_addRow 77 = .ok (.iload_n 1, 1) := by decide +kernel
theorem d_M_addRow_78 : decode b_M_addRow 78 = .ok (.ifCond .eq 7, 3) := by decide +kernel
theorem d_M_addRow_81 : decode b_M_addRow 81 = .ok (.iload_n 2, 1) := by decide +kernel
theorem d_M_addRow_82 : decode b_M_addRow 82 = .ok (.ifCond .ne 11, 3) := by decide +kernel
theorem d_M_addRow_85 : decode b_M_addRow 85 = .ok (.ldc2_w 51, 3) := by decide +kernel
theorem d_M_addRow_88 : decode b_M_addRow 88 = .ok (.lload_n 3, 1) := by decide +kernel
theorem d_M_addRow_89 : decode b_M_addRow 89 = .ok (.lmul, 1) := by decide +kernel
theorem d_M_addRow_90 : decode b_M_addRow 90 = .ok (.goto 4, 3) := by decide +kernel
theorem d_M_addRow_93 : decode b_M_addRow 93 = .ok (.lload_n 3, 1) := by decide +kernel
theorem d_M_addRow_94 : decode b_M_addRow 94 = .ok (.lstore 7, 2) := by decide +kernel
theorem d_M_addRow_96 : decode b_M_addRow 96 = .ok (.lload 7, 2) := by decide +kernel
theorem d_M_addRow_98 : decode b_M_addRow 98 = .ok (.aload_n 0, 1) := by decide +kernel
theorem d_M_addRow_99 : decode b_M_addRow 99 = .ok (.getfield 17, 3) := by decide +kernel
theorem d_M_addRow_102 : decode b_M_addRow 102 = .ok (.bipush 10, 2) := by decide +kernel
theorem d_M_addRow_104 : decode b_M_addRow 104 = .ok (.iload 5, 2) := by decide +kernel
theorem d_M_addRow_106 : decode b_M_addRow 106 = .ok (.imul, 1) := by decide +kernel
theorem d_M_addRow_107 : decode b_M_addRow 107 = .ok (.iload 6, 2) := by decide +kernel
theorem d_M_addRow_109 : decode b_M_addRow 109 = .ok (.iadd, 1) := by decide +kernel
theorem d_M_addRow_110 : decode b_M_addRow 110 = .ok (.laload, 1) := by decide +kernel
theorem d_M_addRow_111 : decode b_M_addRow 111 = .ok (.lcmp, 1) := by decide +kernel
theorem d_M_addRow_112 : decode b_M_addRow 112 = .ok (.ifCond .ge 33, 3) := by decide +kernel
theorem d_M_addRow_115 : decode b_M_addRow 115 = .ok (.aload_n 0, 1) := by decide +kernel
theorem d_M_addRow_116 : decode b_M_addRow 116 = .ok (.getfield 17, 3) := by decide +kernel
theorem d_M_addRow_119 : decode b_M_addRow 119 = .ok (.bipush 10, 2) := by decide +kernel
theorem d_M_addRow_121 : decode b_M_addRow 121 = .ok (.iload 5, 2) := by decide +kernel
theorem d_M_addRow_123 : decode b_M_addRow 123 = .ok (.imul, 1) := by decide +kernel
theorem d_M_addRow_124 : decode b_M_addRow 124 = .ok (.iload 6, 2) := by decide +kernel
theorem d_M_addRow_126 : decode b_M_addRow 126 = .ok (.iadd, 1) := by decide +kernel
theorem d_M_addRow_127 : decode b_M_addRow 127 = .ok (.lload 7, 2) := by decide +kernel
theorem d_M_addRow_129 : decode b_M_addRow 129 = .ok (.lastore, 1) := by decide +kernel
theorem d_M_addRow_130 : decode b_M_addRow 130 = .ok (.aload_n 0, 1) := by decide +kernel
theorem d_M_addRow_131 : decode b_M_addRow 131 = .ok (.getfield 17, 3) := by decide +kernel
theorem d_M_addRow_134 : decode b_M_addRow 134 = .ok (.bipush 10, 2) := by decide +kernel
theorem d_M_addRow_136 : decode b_M_addRow 136 = .ok (.iload 6, 2) := by decide +kernel
theorem d_M_addRow_138 : decode b_M_addRow 138 = .ok (.imul, 1) := by decide +kernel
theorem d_M_addRow_139 : decode b_M_addRow 139 = .ok (.iload 5, 2) := by decide +kernel
theorem d_M_addRow_141 : decode b_M_addRow 141 = .ok (.iadd, 1) := by decide +kernel
theorem d_M_addRow_142 : decode b_M_addRow 142 = .ok (.lload 7, 2) := by decide +kernel
theorem d_M_addRow_144 : decode b_M_addRow 144 = .ok (.lastore, 1) := by decide +kernel
theorem d_M_addRow_145 : decode b_M_addRow 145 = .ok (.return_, 1) := by decide +kernel
theorem d_M_boundOf_0 : decode b_M_boundOf 0 = .ok (.iload_n 1, 1) := by decide +kernel
theorem d_M_boundOf_1 : decode b_M_boundOf 1 = .ok (.ifCond .ne 7, 3) := by decide +kernel
theorem d_M_boundOf_4 : decode b_M_boundOf 4 = .ok (.iload_n 2, 1) := by decide +kernel
theorem d_M_boundOf_5 : decode b_M_boundOf 5 = .ok (.ifCond .eq 9, 3) := by decide +kernel
theorem d_M_boundOf_8 : decode b_M_boundOf 8 = .ok (.iload_n 1, 1) := by decide +kernel
theorem d_M_boundOf_9 : decode b_M_boundOf 9 = .ok (.iload_n 2, 1) := by decide +kernel
theorem d_M_boundOf_10 : decode b_M_boundOf 10 = .ok (.ineg, 1) := by decide +kernel
theorem d_M_boundOf_11 : decode b_M_boundOf 11 = .ok (.if_icmp .ne 5, 3) := by decide +kernel
theorem d_M_boundOf_14 : decode b_M_boundOf 14 = .ok (.lconst 0, 1) := by decide +kernel
theorem d_M_boundOf_15 : decode b_M_boundOf 15 = .ok (.lreturn, 1) := by decide +kernel
theorem d_M_boundOf_16 : decode b_M_boundOf 16 = .ok (.iload_n 1, 1) := by decide +kernel
theorem d_M_boundOf_17 : decode b_M_boundOf 17 = .ok (.ifCond .eq 7, 3) := by decide +kernel
theorem d_M_boundOf_20 : decode b_M_boundOf 20 = .ok (.iload_n 2, 1) := by decide +kernel
theorem d_M_boundOf_21 : decode b_M_boundOf 21 = .ok (.ifCond .ne 44, 3) := by decide +kernel
theorem d_M_boundOf_24 : decode b_M_boundOf 24 = .ok (.aload_n 0, 1) := by decide +kernel
theorem d_M_boundOf_25 : decode b_M_boundOf 25 = .ok (.getfield 17, 3) := by decide +kernel
theorem d_M_boundOf_28 : decode b_M_boundOf 28 = .ok (.bipush 11, 2) := by decide +kernel
theorem d_M_boundOf_30 : decode b_M_boundOf 30 = .ok (.iload_n 1, 1) := by decide +kernel
theorem d_M_boundOf_31 : decode b_M_boundOf 31 = .ok (.ifCond .ne 7, 3) := by decide +kernel
theorem d_M_boundOf_34 : decode b_M_boundOf 34 = .ok (.iload_n 2, 1) := by decide +kernel
theorem d_M_boundOf_35 : decode b_M_boundOf 35 = .ok (.goto 4, 3) := by decide +kernel
theorem d_M_boundOf_38 : decode b_M_boundOf 38 = .ok (.iload_n 1, 1) := by decide +kernel
theorem d_M_boundOf_39 : decode b_M_boundOf 39 = .ok (.invokestatic 80, 3) := by decide +kernel
theorem d_M_boundOf_42 : decode b_M_boundOf 42 = .ok (.imul, 1) := by decide +kernel
theorem d_M_boundOf_43 : decode b_M_boundOf 43 = .ok (.laload, 1) := by decide +kernel
theorem d_M_boundOf_44 : decode b_M_boundOf 44 = .ok (.lstore_n 3, 1) := by decide +kernel
theorem d_M_boundOf_45 : decode b_M_boundOf 45 = .ok (.lload_n 3, 1) := by decide +kernel
theorem d_M_boundOf_46 : decode b_M_boundOf 46 = .ok (.ldc2_w 46, 3) := by decide +kernel
theorem d_M_boundOf_49 : decode b_M_boundOf 49 = .ok (.lcmp, 1) := by decide +kernel
theorem d_M_boundOf_50 : decode b_M_boundOf 50 = .ok (.ifCond .ne 9, 3) := by decide +kernel
theorem d_M_boundOf_53 : decode b_M_boundOf 53 = .ok (.ldc2_w 46, 3) := by decide +kernel
theorem d_M_boundOf_56 : decode b_M_boundOf 56 = .ok (.goto 8, 3) := by decide +kernel
theorem d_M_boundOf_59 : decode b_M_boundOf 59 = .ok (.lload_n 3, 1) := by decide +kernel
theorem d_M_boundOf_60 : decode b_M_boundOf 60 = .ok (.ldc2_w 51, 3) := by decide +kernel
theorem d_M_boundOf_63 : decode b_M_boundOf 63 = .ok (.ldiv, 1) := by decide +kernel
theorem d_M_boundOf_64 : decode b_M_boundOf 64 = .ok (.lreturn, 1) := by decide +kernel
theorem d_M_boundOf_65 : decode b_M_boundOf 65 = .ok (.aload_n 0, 1) := by decide +kernel
theorem d_M_boundOf_66 : decode b_M_boundOf 66 = .ok (.getfield 17, 3) := by decide +kernel
theorem d_M_boundOf_69 : decode b_M_boundOf 69 = .ok (.bipush 10, 2) := by decide +kernel
theorem d_M_boundOf_71 : decode b_M_boundOf 71 = .ok (.iload_n 1, 1) := by decide +kernel
theorem d_M_boundOf_72 : decode b_M_boundOf 72 = .ok (.invokestatic 80, 3) := by decide +kernel
theorem d_M_boundOf_75 : decode b_M_boundOf 75 = .ok (.imul, 1) := by decide +kernel
theorem d_M_boundOf_76 : decode b_M_boundOf 76 = .ok (.iload_n 2, 1) := by decide +kernel
theorem d_M_boundOf_77 : decode b_M_boundOf 77 = .ok (.invokestatic 80, 3) := by decide +kernel
theorem d_M_boundOf_80 : decode b_M_boundOf 80 = .ok (.iadd, 1) := by decide +kernel
theorem d_M_boundOf_81 : decode b_M_boundOf 81 = .ok (.laload, 1) := by decide +kernel
theorem d_M_boundOf_82 : decode b_M_boundOf 82 = .ok (.lreturn, 1) := by decide +kernel
theorem d_M_all_0 : decode b_M_all 0 = .ok (.aload_n 0, 1) := by decide +kernel
theorem d_M_all_1 : decode b_M_all 1 = .ok (.aload_n 0, 1) := by decide +kernel
theorem d_M_all_2 : decode b_M_all 2 = .ok (.iload_n 1, 1) := by decide +kernel
theorem d_M_all_3 : decode b_M_all 3 = .ok (.invokevirtual 83, 3) := by decide +kernel
theorem d_M_all_6 : decode b_M_all 6 = .ok (.ifCond .eq 7, 3) := by decide +kernel
theorem d_M_all_9 : decode b_M_all 9 = .ok (.iconst 0, 1) := by decide +kernel
theorem d_M_all_10 : decode b_M_all 10 = .ok (.goto 4, 3) := by decide +kernel
theorem d_M_all_13 : decode b_M_all 13 = .ok (.iconst 1, 1) := by decide +kernel
theorem d_M_all_14 : decode b_M_all 14 = .ok (.putfield 48, 3) := by decide +kernel
theorem d_M_all_17 : decode b_M_all 17 = .ok (.aload_n 0, 1) := by decide +kernel
theorem d_M_all_18 : decode b_M_all 18 = .ok (.getfield 48, 3) := by decide +kernel
theorem d_M_all_21 : decode b_M_all 21 = .ok (.ifCond .ne 15, 3) := by decide +kernel
theorem d_M_all_24 : decode b_M_all 24 = .ok (.aload_n 0, 1) := by decide +kernel
theorem d_M_all_25 : decode b_M_all 25 = .ok (.iload_n 1, 1) := by decide +kernel
theorem d_M_all_26 : decode b_M_all 26 = .ok (.invokevirtual 73, 3) := by decide +kernel
theorem d_M_all_29 : decode b_M_all 29 = .ok (.aload_n 0, 1) := by decide +kernel
theorem d_M_all_30 : decode b_M_all 30 = .ok (.getfield 13, 3) := by decide +kernel
theorem d_M_all_33 : decode b_M_all 33 = .ok (.iload_n 1, 1) := by decide +kernel
theorem d_M_all_34 : decode b_M_all 34 = .ok (.iconst 0, 1) := by decide +kernel
theorem d_M_all_35 : decode b_M_all 35 = .ok (.bastore, 1) := by decide +kernel
theorem d_M_all_36 : decode b_M_all 36 = .ok (.return_, 1) := by decide +kernel
theorem d_M_isSmall_0 : decode b_M_isSmall 0 = .ok (.lload_n 0, 1) := by decide +kernel
theorem d_M_isSmall_1 : decode b_M_isSmall 1 = .ok (.ldc2_w 87, 3) := by decide +kernel
theorem d_M_isSmall_4 : decode b_M_isSmall 4 = .ok (.lcmp, 1) := by decide +kernel
theorem d_M_isSmall_5 : decode b_M_isSmall 5 = .ok (.ifCond .lt 15, 3) := by decide +kernel
theorem d_M_isSmall_8 : decode b_M_isSmall 8 = .ok (.lload_n 0, 1) := by decide +kernel
theorem d_M_isSmall_9 : decode b_M_isSmall 9 = .ok (.ldc2_w 89, 3) := by decide +kernel
theorem d_M_isSmall_12 : decode b_M_isSmall 12 = .ok (.lcmp, 1) := by decide +kernel
theorem d_M_isSmall_13 : decode b_M_isSmall 13 = .ok (.ifCond .gt 7, 3) := by decide +kernel
theorem d_M_isSmall_16 : decode b_M_isSmall 16 = .ok (.iconst 1, 1) := by decide +kernel
theorem d_M_isSmall_17 : decode b_M_isSmall 17 = .ok (.goto 4, 3) := by decide +kernel
theorem d_M_isSmall_20 : decode b_M_isSmall 20 = .ok (.iconst 0, 1) := by decide +kernel
theorem d_M_isSmall_21 : decode b_M_isSmall 21 = .ok (.ireturn, 1) := by decide +kernel
theorem d_M_row_0 : decode b_M_row 0 = .ok (.aload_n 0, 1) := by decide +kernel
theorem d_M_row_1 : decode b_M_row 1 = .ok (.aload_n 0, 1) := by decide +kernel
theorem d_M_row_2 : decode b_M_row 2 = .ok (.iload_n 1, 1) := by decide +kernel
theorem d_M_row_3 : decode b_M_row 3 = .ok (.invokevirtual 83, 3) := by decide +kernel
theorem d_M_row_6 : decode b_M_row 6 = .ok (.ifCond .eq 19, 3) := by decide +kernel
theorem d_M_row_9 : decode b_M_row 9 = .ok (.aload_n 0, 1) := by decide +kernel
theorem d_M_row_10 : decode b_M_row 10 = .ok (.iload_n 2, 1) := by decide +kernel
theorem d_M_row_11 : decode b_M_row 11 = .ok (.invokevirtual 91, 3) := by decide +kernel
theorem d_M_row_14 : decode b_M_row 14 = .ok (.ifCond .eq 11, 3) := by decide +kernel
theorem d_M_row_17 : decode b_M_row 17 = .ok (.aload_n 0, 1) := by decide +kernel
theorem d_M_row_18 : decode b_M_row 18 = .ok (.iload_n 3, 1) := by decide +kernel
theorem d_M_row_19 : decode b_M_row 19 = .ok (.invokevirtual 91, 3) := by decide +kernel
theorem d_M_row_22 : decode b_M_row 22 = .ok (.ifCond .ne 7, 3) := by decide +kernel
theorem d_M_row_25 : decode b_M_row 25 = .ok (.iconst 1, 1) := by decide +kernel
theorem d_M_row_26 : decode b_M_row 26 = .ok (.goto 16, 3) := by decide +kernel
theorem d_M_row_29 : decode b_M_row 29 = .ok (.lload 4, 2) := by decide +kernel
theorem d_M_row_31 : decode b_M_row 31 = .ok (.invokestatic 94, 3) := by decide +kernel
theorem d_M_row_34 : decode b_M_row 34 = .ok (.ifCond .ne 7, 3) := by decide +kernel
theorem d_M_row_37 : decode b_M_row 37 = .ok (.iconst 2, 1) := by decide +kernel
theorem d_M_row_38 : decode b_M_row 38 = .ok (.goto 4, 3) := by decide +kernel
theorem d_M_row_41 : decode b_M_row 41 = .ok (.iconst 0, 1) := by decide +kernel
theorem d_M_row_42 : decode b_M_row 42 = .ok (.putfield 48, 3) := by decide +kernel
theorem d_M_row_45 : decode b_M_row 45 = .ok (.aload_n 0, 1) := by decide +kernel
theorem d_M_row_46 : decode b_M_row 46 = .ok (.getfield 48, 3) := by decide +kernel
theorem d_M_row_49 : decode b_M_row 49 = .ok (.ifCond .gt 12, 3) := by decide +kernel
theorem d_M_row_52 : decode b_M_row 52 = .ok (.aload_n 0, 1) := by decide +kernel
theorem d_M_row_53 : decode b_M_row 53 = .ok (.getfield 13, 3) := by decide +kernel
theorem d_M_row_56 : decode b_M_row 56 = .ok (.iload_n 1, 1) := by decide +kernel
theorem d_M_row_57 : decode b_M_row 57 = .ok (.baload, 1) := by decide +kernel
theorem d_M_row_58 : decode b_M_row 58 = .ok (.ifCond .eq 5, 3) := by decide +kernel
theorem d_M_row_61 : decode b_M_row 61 = .ok (.iconst 0, 1) := by decide +kernel
theorem d_M_row_62 : decode b_M_row 62 = .ok (.ireturn, 1) := by decide +kernel
theorem d_M_row_63 : decode b_M_row 63 = .ok (.iload_n 2, 1) := by decide +kernel
theorem d_M_row_64 : decode b_M_row 64 = .ok (.iload_n 3, 1) := by decide +kernel
theorem d_M_row_65 : decode b_M_row 65 = .ok (.ineg, 1) := by decide +kernel
theorem d_M_row_66 : decode b_M_row 66 = .ok (.if_icmp .ne 30, 3) := by decide +kernel
theorem d_M_row_69 : decode b_M_row 69 = .ok (.lload 4, 2) := by decide +kernel
theorem d_M_row_71 : decode b_M_row 71 = .ok (.lconst 0, 1) := by decide +kernel
theorem d_M_row_72 : decode b_M_row 72 = .ok (.lcmp, 1) := by decide +kernel
theorem d_M_row_73 : decode b_M_row 73 = .ok (.ifCond .ge 8, 3) := by decide +kernel
theorem d_M_row_76 : decode b_M_row 76 = .ok (.aload_n 0, 1) := by decide +kernel
theorem d_M_row_77 : decode b_M_row 77 = .ok (.iload_n 1, 1) := by decide +kernel
theorem d_M_row_78 : decode b_M_row 78 = .ok (.invokevirtual 73, 3) := by decide +kernel
theorem d_M_row_81 : decode b_M_row 81 = .ok (.aload_n 0, 1) := by decide +kernel
theorem d_M_row_82 : decode b_M_row 82 = .ok (.getfield 13, 3) := by decide +kernel
theorem d_M_row_85 : decode b_M_row 85 = .ok (.iload_n 1, 1) := by decide +kernel
theorem d_M_row_86 : decode b_M_row 86 = .ok (.baload, 1) := by decide +kernel
theorem d_M_row_87 : decode b_M_row 87 = .ok (.ifCond .eq 7, 3) := by decide +kernel
theorem d_M_row_90 : decode b_M_row 90 = .ok (.iconst 0, 1) := by decide +kernel
theorem d_M_row_91 : decode b_M_row 91 = .ok (.goto 4, 3) := by decide +kernel
theorem d_M_row_94 : decode b_M_row 94 = .ok (.iconst 1, 1) := by decide +kernel
theorem d_M_row_95 : decode b_M_row 95 = .ok (.ireturn, 1) := by decide +kernel
theorem d_M_row_96 : decode b_M_row 96 = .ok (.iload_n 2, 1) := by decide +kernel
theorem d_M_row_97 : decode b_M_row 97 = .ok (.ifCond .ne 7, 3) := by decide +kernel
theorem d_M_row_100 : decode b_M_row 100 = .ok (.iload_n 3, 1) := by decide +kernel
theorem d_M_row_101 : decode b_M_row 101 = .ok (.goto 4, 3) := by decide +kernel
theorem d_M_row_104 : decode b_M_row 104 = .ok (.iload_n 2, 1) := by decide +kernel
theorem d_M_row_105 : decode b_M_row 105 = .ok (.invokestatic 80, 3) := by decide +kernel
theorem d_M_row_108 : decode b_M_row 108 = .ok (.istore 6, 2) := by decide +kernel
theorem d_M_row_110 : decode b_M_row 110 = .ok (.iload_n 3, 1) := by decide +kernel
theorem d_M_row_111 : decode b_M_row 111 = .ok (.ifCond .ne 7, 3) := by decide +kernel
theorem d_M_row_114 : decode b_M_row 114 = .ok (.iload_n 2, 1) := by decide +kernel
theorem d_M_row_115 : decode b_M_row 115 = .ok (.goto 4, 3) := by decide +kernel
theorem d_M_row_118 : decode b_M_row 118 = .ok (.iload_n 3, 1) := by decide +kernel
theorem d_M_row_119 : decode b_M_row 119 = .ok (.invokestatic 80, 3) := by decide +kernel
theorem d_M_row_122 : decode b_M_row 122 = .ok (.istore 7, 2) := by decide +kernel
theorem d_M_row_124 : decode b_M_row 124 = .ok (.iload_n 2, 1) := by decide +kernel
theorem d_M_row_125 : decode b_M_row 125 = .ok (.iload_n 3, 1) := by decide +kernel
theorem d_M_row_126 : decode b_M_row 126 = .ok (.if_icmp .ne 11, 3) := by decide +kernel
theorem d_M_row_129 : decode b_M_row 129 = .ok (.lload 4, 2) := by decide +kernel
theorem d_M_row_131 : decode b_M_row 131 = .ok (.invokestatic 61, 3) := by decide +kernel
theorem d_M_row_134 : decode b_M_row 134 = .ok (.goto 5, 3) := by decide +kernel
theorem d_M_row_137 : decode b_M_row 137 = .ok (.lload 4, 2) := by decide +kernel
theorem d_M_row_139 : decode b_M_row 139 = .ok (.lstore 8, 2) := by decide +kernel
theorem d_M_row_141 : decode b_M_row 141 = .ok (.aload_n 0, 1) := by decide +kernel
theorem d_M_row_142 : decode b_M_row 142 = .ok (.getfield 7, 3) := by decide +kernel
theorem d_M_row_145 : decode b_M_row 145 = .ok (.bipush 100, 2) := by decide +kernel
theorem d_M_row_147 : decode b_M_row 147 = .ok (.iload_n 1, 1) := by decide +kernel
theorem d_M_row_148 : decode b_M_row 148 = .ok (.imul, 1) := by decide +kernel
theorem d_M_row_149 : decode b_M_row 149 = .ok (.bipush 10, 2) := by decide +kernel
theorem d_M_row_151 : decode b_M_row 151 = .ok (.iload 6, 2) := by decide +kernel
theorem d_M_row_153 : decode b_M_row 153 = .ok (.imul, 1) := by decide +kernel
theorem d_M_row_154 : decode b_M_row 154 = .ok (.iadd, 1) := by decide +kernel
theorem d_M_row_155 : decode b_M_row 155 = .ok (.iload 7, 2) := by decide +kernel
theorem d_M_row_157 : decode b_M_row 157 = .ok (.iadd, 1) := by decide +kernel
theorem d_M_row_158 : decode b_M_row 158 = .ok (.laload, 1) := by decide +kernel
theorem d_M_row_159 : decode b_M_row 159 = .ok (.lstore 10, 2) := by decide +kernel
theorem d_M_row_161 : decode b_M_row 161 = .ok (.lload 8, 2) := by decide +kernel
theorem d_M_row_163 : decode b_M_row 163 = .ok (.lload 10, 2) := by decide +kernel
theorem d_M_row_165 : decode b_M_row 165 = .ok (.lcmp, 1) := by decide +kernel
theorem d_M_row_166 : decode b_M_row 166 = .ok (.ifCond .ge 43, 3) := by decide +kernel
theorem d_M_row_169 : decode b_M_row 169 = .ok (.aload_n 0, 1) := by decide +kernel
theorem d_M_row_170 : decode b_M_row 170 = .ok (.getfield 7, 3) := by decide +kernel
theorem d_M_row_173 : decode b_M_row 173 = .ok (.bipush 100, 2) := by decide +kernel
theorem d_M_row_175 : decode b_M_row 175 = .ok (.iload_n 1, 1) := by decide +kernel
theorem d_M_row_176 : decode b_M_row 176 = .ok (.imul, 1) := by decide +kernel
theorem d_M_row_177 : decode b_M_row 177 = .ok (.bipush 10, 2) := by decide +kernel
theorem d_M_row_179 : decode b_M_row 179 = .ok (.iload 6, 2) := by decide +kernel
theorem d_M_row_181 : decode b_M_row 181 = .ok (.imul, 1) := by decide +kernel
theorem d_M_row_182 : decode b_M_row 182 = .ok (.iadd, 1) := by decide +kernel
theorem d_M_row_183 : decode b_M_row 183 = .ok (.iload 7, 2) := by decide +kernel
theorem d_M_row_185 : decode b_M_row 185 = .ok (.iadd, 1) := by decide +kernel
theorem d_M_row_186 : decode b_M_row 186 = .ok (.lload 8, 2) := by decide +kernel
theorem d_M_row_188 : decode b_M_row 188 = .ok (.lastore, 1) := by decide +kernel
theorem d_M_row_189 : decode b_M_row 189 = .ok (.aload_n 0, 1) := by decide +kernel
theorem d_M_row_190 : decode b_M_row 190 = .ok (.getfield 7, 3) := by decide +kernel
theorem d_M_row_193 : decode b_M_row 193 = .ok (.bipush 100, 2) := by decide +kernel
theorem d_M_row_195 : decode b_M_row 195 = .ok (.iload_n 1, 1) := by decide +kernel
theorem d_M_row_196 : decode b_M_row 196 = .ok (.imul, 1) := by decide +kernel
theorem d_M_row_197 : decode b_M_row 197 = .ok (.bipush 10, 2) := by decide +kernel
theorem d_M_row_199 : decode b_M_row 199 = .ok (.iload 7, 2) := by decide +kernel
theorem d_M_row_201 : decode b_M_row 201 = .ok (.imul, 1) := by decide +kernel
theorem d_M_row_202 : decode b_M_row 202 = .ok (.iadd, 1) := by decide +kernel
theorem d_M_row_203 : decode b_M_row 203 = .ok (.iload 6, 2) := by decide +kernel
theorem d_M_row_205 : decode b_M_row 205 = .ok (.iadd, 1) := by decide +kernel
theorem d_M_row_206 : decode b_M_row 206 = .ok (.lload 8, 2) := by decide +kernel
theorem d_M_row_208 : decode b_M_row 208 = .ok (.lastore, 1) := by decide +kernel
theorem d_M_row_209 : decode b_M_row 209 = .ok (.aload_n 0, 1) := by decide +kernel
theorem d_M_row_210 : decode b_M_row 210 = .ok (.iload_n 1, 1) := by decide +kernel
theorem d_M_row_211 : decode b_M_row 211 = .ok (.invokevirtual 98, 3) := by decide +kernel
theorem d_M_row_214 : decode b_M_row 214 = .ok (.ifCond .ne 10, 3) := by decide +kernel
theorem d_M_row_217 : decode b_M_row 217 = .ok (.aload_n 0, 1) := by decide +kernel
theorem d_M_row_218 : decode b_M_row 218 = .ok (.iload_n 1, 1) := by decide +kernel
theorem d_M_row_219 : decode b_M_row 219 = .ok (.invokevirtual 73, 3) := by decide +kernel
theorem d_M_row_222 : decode b_M_row 222 = .ok (.iconst 0, 1) := by decide +kernel
theorem d_M_row_223 : decode b_M_row 223 = .ok (.ireturn, 1) := by decide +kernel
theorem d_M_row_224 : decode b_M_row 224 = .ok (.aload_n 0, 1) := by decide +kernel
theorem d_M_row_225 : decode b_M_row 225 = .ok (.invokevirtual 101, 3) := by decide +kernel
theorem d_M_row_228 : decode b_M_row 228 = .ok (.ifCond .eq 50, 3) := by decide +kernel
theorem d_M_row_231 : decode b_M_row 231 = .ok (.aload_n 0, 1) := by decide +kernel
theorem d_M_row_232 : decode b_M_row 232 = .ok (.getfield 7, 3) := by decide +kernel
theorem d_M_row_235 : decode b_M_row 235 = .ok (.bipush 100, 2) := by decide +kernel
theorem d_M_row_237 : decode b_M_row 237 = .ok (.iload_n 1, 1) := by decide +kernel
theorem d_M_row_238 : decode b_M_row 238 = .ok (.imul, 1) := by decide +kernel
theorem d_M_row_239 : decode b_M_row 239 = .ok (.bipush 10, 2) := by decide +kernel
theorem d_M_row_241 : decode b_M_row 241 = .ok (.iload 6, 2) := by decide +kernel
theorem d_M_row_243 : decode b_M_row 243 = .ok (.imul, 1) := by decide +kernel
theorem d_M_row_244 : decode b_M_row 244 = .ok (.iadd, 1) := by decide +kernel
theorem d_M_row_245 : decode b_M_row 245 = .ok (.iload 7, 2) := by decide +kernel
theorem d_M_row_247 : decode b_M_row 247 = .ok (.iadd, 1) := by decide +kernel
theorem d_M_row_248 : decode b_M_row 248 = .ok (.lload 10, 2) := by decide +kernel
theorem d_M_row_250 : decode b_M_row 250 = .ok (.lastore, 1) := by decide +kernel
theorem d_M_row_251 : decode b_M_row 251 = .ok (.aload_n 0, 1) := by decide +kernel
theorem d_M_row_252 : decode b_M_row 252 = .ok (.getfield 7, 3) := by decide +kernel
theorem d_M_row_255 : decode b_M_row 255 = .ok (.bipush 100, 2) := by decide +kernel
theorem d_M_row_257 : decode b_M_row 257 = .ok (.iload_n 1, 1) := by decide +kernel
theorem d_M_row_258 : decode b_M_row 258 = .ok (.imul, 1) := by decide +kernel
theorem d_M_row_259 : decode b_M_row 259 = .ok (.bipush 10, 2) := by decide +kernel
theorem d_M_row_261 : decode b_M_row 261 = .ok (.iload 7, 2) := by decide +kernel
theorem d_M_row_263 : decode b_M_row 263 = .ok (.imul, 1) := by decide +kernel
theorem d_M_row_264 : decode b_M_row 264 = .ok (.iadd, 1) := by decide +kernel
theorem d_M_row_265 : decode b_M_row 265 = .ok (.iload 6, 2) := by decide +kernel
theorem d_M_row_267 : decode b_M_row 267 = .ok (.iadd, 1) := by decide +kernel
theorem d_M_row_268 : decode b_M_row 268 = .ok (.lload 10, 2) := by decide +kernel
theorem d_M_row_270 : decode b_M_row 270 = .ok (.lastore, 1) := by decide +kernel
theorem d_M_row_271 : decode b_M_row 271 = .ok (.aload_n 0, 1) := by decide +kernel
theorem d_M_row_272 : decode b_M_row 272 = .ok (.iconst 3, 1) := by decide +kernel
theorem d_M_row_273 : decode b_M_row 273 = .ok (.putfield 48, 3) := by decide +kernel
theorem d_M_row_276 : decode b_M_row 276 = .ok (.iconst 0, 1) := by decide +kernel
theorem d_M_row_277 : decode b_M_row 277 = .ok (.ireturn, 1) := by decide +kernel
theorem d_M_row_278 : decode b_M_row 278 = .ok (.iconst 1, 1) := by decide +kernel
theorem d_M_row_279 : decode b_M_row 279 = .ok (.ireturn, 1) := by decide +kernel
theorem d_M_bound_0 : decode b_M_bound 0 = .ok (.aload_n 0, 1) := by decide +kernel
theorem d_M_bound_1 : decode b_M_bound 1 = .ok (.aload_n 0, 1) := by decide +kernel
theorem d_M_bound_2 : decode b_M_bound 2 = .ok (.iload_n 1, 1) := by decide +kernel
theorem d_M_bound_3 : decode b_M_bound 3 = .ok (.invokevirtual 83, 3) := by decide +kernel
theorem d_M_bound_6 : decode b_M_bound 6 = .ok (.ifCond .eq 23, 3) := by decide +kernel
theorem d_M_bound_9 : decode b_M_bound 9 = .ok (.aload_n 0, 1) := by decide +kernel
theorem d_M_bound_10 : decode b_M_bound 10 = .ok (.iload_n 2, 1) := by decide +kernel
theorem d_M_bound_11 : decode b_M_bound 11 = .ok (.invokevirtual 91, 3) := by decide +kernel
theorem d_M_bound_14 : decode b_M_bound 14 = .ok (.ifCond .eq 15, 3) := by decide +kernel
theorem d_M_bound_17 : decode b_M_bound 17 = .ok (.aload_n 0, 1) := by decide +kernel
theorem d_M_bound_18 : decode b_M_bound 18 = .ok (.iload_n 3, 1) := by decide +kernel
theorem d_M_bound_19 : decode b_M_bound 19 = .ok (.invokevirtual 91, 3) := by decide +kernel
theorem d_M_bound_22 : decode b_M_bound 22 = .ok (.ifCond .eq 7, 3) := by decide +kernel
theorem d_M_bound_25 : decode b_M_bound 25 = .ok (.iconst 0, 1) := by decide +kernel
theorem d_M_bound_26 : decode b_M_bound 26 = .ok (.goto 4, 3) := by decide +kernel
theorem d_M_bound_29 : decode b_M_bound 29 = .ok (.iconst 1, 1) := by decide +kernel
theorem d_M_bound_30 : decode b_M_bound 30 = .ok (.putfield 48, 3) := by decide +kernel
theorem d_M_bound_33 : decode b_M_bound 33 = .ok (.aload_n 0, 1) := by decide +kernel
theorem d_M_bound_34 : decode b_M_bound 34 = .ok (.getfield 48, 3) := by decide +kernel
theorem d_M_bound_37 : decode b_M_bound 37 = .ok (.ifCond .le 5, 3) := by decide +kernel
theorem d_M_bound_40 : decode b_M_bound 40 = .ok (.lconst 0, 1) := by decide +kernel
theorem d_M_bound_41 : decode b_M_bound 41 = .ok (.lreturn, 1) := by decide +kernel
theorem d_M_bound_42 : decode b_M_bound 42 = .ok (.aload_n 0, 1) := by decide +kernel
theorem d_M_bound_43 : decode b_M_bound 43 = .ok (.iload_n 1, 1) := by decide +kernel
theorem d_M_bound_44 : decode b_M_bound 44 = .ok (.invokevirtual 98, 3) := by decide +kernel
theorem d_M_bound_47 : decode b_M_bound 47 = .ok (.ifCond .eq 12, 3) := by decide +kernel
theorem d_M_bound_50 : decode b_M_bound 50 = .ok (.aload_n 0, 1) := by decide +kernel
theorem d_M_bound_51 : decode b_M_bound 51 = .ok (.iload_n 2, 1) := by decide +kernel
theorem d_M_bound_52 : decode b_M_bound 52 = .ok (.iload_n 3, 1) := by decide +kernel
theorem d_M_bound_53 : decode b_M_bound 53 = .ok (.invokevirtual 104, 3) := by decide +kernel
theorem d_M_bound_56 : decode b_M_bound 56 = .ok (.goto 6, 3) := by decide +kernel
theorem d_M_bound_59 : decode b_M_bound 59 = .ok (.ldc2_w 108, 3) := by decide +kernel
theorem d_M_bound_62 : decode b_M_bound 62 = .ok (.lreturn, 1) := by decide +kernel
theorem d_M_kept_0 : decode b_M_kept 0 = .ok (.aload_n 0, 1) := by decide +kernel
theorem d_M_kept_1 : decode b_M_kept 1 = .ok (.aload_n 0, 1) := by decide +kernel
theorem d_M_kept_2 : decode b_M_kept 2 = .ok (.iload_n 1, 1) := by decide +kernel
theorem d_M_kept_3 : decode b_M_kept 3 = .ok (.invokevirtual 83, 3) := by decide +kernel
theorem d_M_kept_6 : decode b_M_kept 6 = .ok (.ifCond .eq 23, 3) := by decide +kernel
theorem d_M_kept_9 : decode b_M_kept 9 = .ok (.aload_n 0, 1) := by decide +kernel
theorem d_M_kept_10 : decode b_M_kept 10 = .ok (.iload_n 2, 1) := by decide +kernel
theorem d_M_kept_11 : decode b_M_kept 11 = .ok (.invokevirtual 91, 3) := by decide +kernel
theorem d_M_kept_14 : decode b_M_kept 14 = .ok (.ifCond .eq 15, 3) := by decide +kernel
theorem d_M_kept_17 : decode b_M_kept 17 = .ok (.aload_n 0, 1) := by decide +kernel
theorem d_M_kept_18 : decode b_M_kept 18 = .ok (.iload_n 3, 1) := by decide +kernel
theorem d_M_kept_19 : decode b_M_kept 19 = .ok (.invokevirtual 91, 3) := by decide +kernel
theorem d_M_kept_22 : decode b_M_kept 22 = .ok (.ifCond .eq 7, 3) := by decide +kernel
theorem d_M_kept_25 : decode b_M_kept 25 = .ok (.iconst 0, 1) := by decide +kernel
theorem d_M_kept_26 : decode b_M_kept 26 = .ok (.goto 4, 3) := by decide +kernel
theorem d_M_kept_29 : decode b_M_kept 29 = .ok (.iconst 1, 1) := by decide +kernel
theorem d_M_kept_30 : decode b_M_kept 30 = .ok (.putfield 48, 3) := by decide +kernel
theorem d_M_kept_33 : decode b_M_kept 33 = .ok (.aload_n 0, 1) := by decide +kernel
theorem d_M_kept_34 : decode b_M_kept 34 = .ok (.getfield 48, 3) := by decide +kernel
theorem d_M_kept_37 : decode b_M_kept 37 = .ok (.ifCond .le 5, 3) := by decide +kernel
theorem d_M_kept_40 : decode b_M_kept 40 = .ok (.lconst 0, 1) := by decide +kernel
theorem d_M_kept_41 : decode b_M_kept 41 = .ok (.lreturn, 1) := by decide +kernel
theorem d_M_kept_42 : decode b_M_kept 42 = .ok (.iload_n 2, 1) := by decide +kernel
theorem d_M_kept_43 : decode b_M_kept 43 = .ok (.iload_n 3, 1) := by decide +kernel
theorem d_M_kept_44 : decode b_M_kept 44 = .ok (.if_icmp .eq 9, 3) := by decide +kernel
theorem d_M_kept_47 : decode b_M_kept 47 = .ok (.iload_n 2, 1) := by decide +kernel
theorem d_M_kept_48 : decode b_M_kept 48 = .ok (.iload_n 3, 1) := by decide +kernel
theorem d_M_kept_49 : decode b_M_kept 49 = .ok (.ineg, 1) := by decide +kernel
theorem d_M_kept_50 : decode b_M_kept 50 = .ok (.if_icmp .ne 7, 3) := by decide +kernel
theorem d_M_kept_53 : decode b_M_kept 53 = .ok (.ldc2_w 46, 3) := by decide +kernel
theorem d_M_kept_56 : decode b_M_kept 56 = .ok (.lreturn, 1) := by decide +kernel
theorem d_M_kept_57 : decode b_M_kept 57 = .ok (.aload_n 0, 1) := by decide +kernel
theorem d_M_kept_58 : decode b_M_kept 58 = .ok (.getfield 7, 3) := by decide +kernel
theorem d_M_kept_61 : decode b_M_kept 61 = .ok (.bipush 100, 2) := by decide +kernel
theorem d_M_kept_63 : decode b_M_kept 63 = .ok (.iload_n 1, 1) := by decide +kernel
theorem d_M_kept_64 : decode b_M_kept 64 = .ok (.imul, 1) := by decide +kernel
theorem d_M_kept_65 : decode b_M_kept 65 = .ok (.bipush 10, 2) := by decide +kernel
theorem d_M_kept_67 : decode b_M_kept 67 = .ok (.iload_n 2, 1) := by decide +kernel
theorem d_M_kept_68 : decode b_M_kept 68 = .ok (.ifCond .ne 7, 3) := by decide +kernel
theorem d_M_kept_71 : decode b_M_kept 71 = .ok (.iload_n 3, 1) := by decide +kernel
theorem d_M_kept_72 : decode b_M_kept 72 = .ok (.goto 4, 3) := by decide +kernel
theorem d_M_kept_75 : decode b_M_kept 75 = .ok (.iload_n 2, 1) := by decide +kernel
theorem d_M_kept_76 : decode b_M_kept 76 = .ok (.invokestatic 80, 3) := by decide +kernel
theorem d_M_kept_79 : decode b_M_kept 79 = .ok (.imul, 1) := by decide +kernel
theorem d_M_kept_80 : decode b_M_kept 80 = .ok (.iadd, 1) := by decide +kernel
theorem d_M_kept_81 : decode b_M_kept 81 = .ok (.iload_n 3, 1) := by decide +kernel
theorem d_M_kept_82 : decode b_M_kept 82 = .ok (.ifCond .ne 7, 3) := by decide +kernel
theorem d_M_kept_85 : decode b_M_kept 85 = .ok (.iload_n 2, 1) := by decide +kernel
theorem d_M_kept_86 : decode b_M_kept 86 = .ok (.goto 4, 3) := by decide +kernel
theorem d_M_kept_89 : decode b_M_kept 89 = .ok (.iload_n 3, 1) := by decide +kernel
theorem d_M_kept_90 : decode b_M_kept 90 = .ok (.invokestatic 80, 3) := by decide +kernel
theorem d_M_kept_93 : decode b_M_kept 93 = .ok (.iadd, 1) := by decide +kernel
theorem d_M_kept_94 : decode b_M_kept 94 = .ok (.laload, 1) := by decide +kernel
theorem d_M_kept_95 : decode b_M_kept 95 = .ok (.lreturn, 1) := by decide +kernel
theorem d_M_areShapes_0 : decode b_M_areShapes 0 = .ok (.aload_n 0, 1) := by decide +kernel
theorem d_M_areShapes_1 : decode b_M_areShapes 1 = .ok (.aload_n 0, 1) := by decide +kernel
theorem d_M_areShapes_2 : decode b_M_areShapes 2 = .ok (.iload_n 1, 1) := by decide +kernel
theorem d_M_areShapes_3 : decode b_M_areShapes 3 = .ok (.invokevirtual 83, 3) := by decide +kernel
theorem d_M_areShapes_6 : decode b_M_areShapes 6 = .ok (.ifCond .eq 23, 3) := by decide +kernel
theorem d_M_areShapes_9 : decode b_M_areShapes 9 = .ok (.aload_n 0, 1) := by decide +kernel
theorem d_M_areShapes_10 : decode b_M_areShapes 10 = .ok (.iload_n 2, 1) := by decide +kernel
theorem d_M_areShapes_11 : decode b_M_areShapes 11 = .ok (.invokevirtual 83, 3) := by decide +kernel
theorem d_M_areShapes_14 : decode b_M_areShapes 14 = .ok (.ifCond .eq 15, 3) := by decide +kernel
theorem d_M_areShapes_17 : decode b_M_areShapes 17 = .ok (.aload_n 0, 1) := by decide +kernel
theorem d_M_areShapes_18 : decode b_M_areShapes 18 = .ok (.iload_n 3, 1) := by decide +kernel
theorem d_M_areShapes_19 : decode b_M_areShapes 19 = .ok (.invokevirtual 83, 3) := by decide +kernel
theorem d_M_areShapes_22 : decode b_M_areShapes 22 = .ok (.ifCond .eq 7, 3) := by decide +kernel
theorem d_M_areShapes_25 : decode b_M_areShapes 25 = .ok (.iconst 0, 1) := by decide +kernel
theorem d_M_areShapes_26 : decode b_M_areShapes 26 = .ok (.goto 4, 3) := by decide +kernel
theorem d_M_areShapes_29 : decode b_M_areShapes 29 = .ok (.iconst 1, 1) := by decide +kernel
theorem d_M_areShapes_30 : decode b_M_areShapes 30 = .ok (.putfield 48, 3) := by decide +kernel
theorem d_M_areShapes_33 : decode b_M_areShapes 33 = .ok (.aload_n 0, 1) := by decide +kernel
theorem d_M_areShapes_34 : decode b_M_areShapes 34 = .ok (.getfield 48, 3) := by decide +kernel
theorem d_M_areShapes_37 : decode b_M_areShapes 37 = .ok (.ifCond .ne 7, 3) := by decide +kernel
theorem d_M_areShapes_40 : decode b_M_areShapes 40 = .ok (.iconst 1, 1) := by decide +kernel
theorem d_M_areShapes_41 : decode b_M_areShapes 41 = .ok (.goto 4, 3) := by decide +kernel
theorem d_M_areShapes_44 : decode b_M_areShapes 44 = .ok (.iconst 0, 1) := by decide +kernel
theorem d_M_areShapes_45 : decode b_M_areShapes 45 = .ok (.ireturn, 1) := by decide +kernel
theorem d_M_meet_0 : decode b_M_meet 0 = .ok (.aload_n 0, 1) := by decide +kernel
theorem d_M_meet_1 : decode b_M_meet 1 = .ok (.iload_n 1, 1) := by decide +kernel
theorem d_M_meet_2 : decode b_M_meet 2 = .ok (.iload_n 2, 1) := by decide +kernel
theorem d_M_meet_3 : decode b_M_meet 3 = .ok (.iload_n 3, 1) := by decide +kernel
theorem d_M_meet_4 : decode b_M_meet 4 = .ok (.invokevirtual 110, 3) := by decide +kernel
theorem d_M_meet_7 : decode b_M_meet 7 = .ok (.ifCond .ne 5, 3) := by decide +kernel
theorem d_M_meet_10 : decode b_M_meet 10 = .ok (.iconst 0, 1) := by decide +kernel
theorem d_M_meet_11 : decode b_M_meet 11 = .ok (.ireturn, 1) := by decide +kernel
theorem d_M_meet_12 : decode b_M_meet 12 = .ok (.aload_n 0, 1) := by decide +kernel
theorem d_M_meet_13 : decode b_M_meet 13 = .ok (.iload_n 2, 1) := by decide +kernel
theorem d_M_meet_14 : decode b_M_meet 14 = .ok (.invokevirtual 98, 3) := by decide +kernel
theorem d_M_meet_17 : decode b_M_meet 17 = .ok (.ifCond .ne 10, 3) := by decide +kernel
theorem d_M_meet_20 : decode b_M_meet 20 = .ok (.aload_n 0, 1) := by decide +kernel
theorem d_M_meet_21 : decode b_M_meet 21 = .ok (.iload_n 1, 1) := by decide +kernel
theorem d_M_meet_22 : decode b_M_meet 22 = .ok (.iconst 0, 1) := by decide +kernel
theorem d_M_meet_23 : decode b_M_meet 23 = .ok (.invokevirtual 114, 3) := by decide +kernel
theorem d_M_meet_26 : decode b_M_meet 26 = .ok (.ireturn, 1) := by decide +kernel
theorem d_M_meet_27 : decode b_M_meet 27 = .ok (.aload_n 0, 1) := by decide +kernel
theorem d_M_meet_28 : decode b_M_meet 28 = .ok (.iconst 1, 1) := by decide +kernel
theorem d_M_meet_29 : decode b_M_meet 29 = .ok (.invokevirtual 118, 3) := by decide +kernel
theorem d_M_meet_32 : decode b_M_meet 32 = .ok (.aload_n 0, 1) := by decide +kernel
theorem d_M_meet_33 : decode b_M_meet 33 = .ok (.iload_n 3, 1) := by decide +kernel
theorem d_M_meet_34 : decode b_M_meet 34 = .ok (.invokevirtual 98, 3) := by decide +kernel
theorem d_M_meet_37 : decode b_M_meet 37 = .ok (.ifCond .ne 10, 3) := by decide +kernel
theorem d_M_meet_40 : decode b_M_meet 40 = .ok (.aload_n 0, 1) := by decide +kernel
theorem d_M_meet_41 : decode b_M_meet 41 = .ok (.iload_n 1, 1) := by decide +kernel
theorem d_M_meet_42 : decode b_M_meet 42 = .ok (.iconst 0, 1) := by decide +kernel
theorem d_M_meet_43 : decode b_M_meet 43 = .ok (.invokevirtual 114, 3) := by decide +kernel
theorem d_M_meet_46 : decode b_M_meet 46 = .ok (.ireturn, 1) := by decide +kernel
theorem d_M_meet_47 : decode b_M_meet 47 = .ok (.iconst 0, 1) := by decide +kernel
theorem d_M_meet_48 : decode b_M_meet 48 = .ok (.istore 4, 2) := by decide +kernel
theorem d_M_meet_50 : decode b_M_meet 50 = .ok (.iload 4, 2) := by decide +kernel
theorem d_M_meet_52 : decode b_M_meet 52 = .ok (.bipush 100, 2) := by decide +kernel
theorem d_M_meet_54 : decode b_M_meet 54 = .ok (.if_icmp .ge 51, 3) := by decide +kernel
theorem d_M_meet_57 : decode b_M_meet 57 = .ok (.aload_n 0, 1) := by decide +kernel
theorem d_M_meet_58 : decode b_M_meet 58 = .ok (.getfield 17, 3) := by decide +kernel
theorem d_M_meet_61 : decode b_M_meet 61 = .ok (.iload 4, 2) := by decide +kernel
theorem d_M_meet_63 : decode b_M_meet 63 = .ok (.aload_n 0, 1) := by decide +kernel
theorem d_M_meet_64 : decode b_M_meet 64 = .ok (.getfield 20, 3) := by decide +kernel
theorem d_M_meet_67 : decode b_M_meet 67 = .ok (.iload 4, 2) := by decide +kernel
theorem d_M_meet_69 : decode b_M_meet 69 = .ok (.laload, 1) := by decide +kernel
theorem d_M_meet_70 : decode b_M_meet 70 = .ok (.aload_n 0, 1) := by decide +kernel
theorem d_M_meet_71 : decode b_M_meet 71 = .ok (.getfield 17, 3) := by decide +kernel
theorem d_M_meet_74 : decode b_M_meet 74 = .ok (.iload 4, 2) := by decide +kernel
theorem d_M_meet_76 : decode b_M_meet 76 = .ok (.laload, 1) := by decide +kernel
theorem d_M_meet_77 : decode b_M_meet 77 = .ok (.lcmp, 1) := by decide +kernel
theorem d_M_meet_78 : decode b_M_meet 78 = .ok (.ifCond .ge 13, 3) := by decide +kernel
theorem d_M_meet_81 : decode b_M_meet 81 = .ok (.aload_n 0, 1) := by decide +kernel
theorem d_M_meet_82 : decode b_M_meet 82 = .ok (.getfield 20, 3) := by decide +kernel
theorem d_M_meet_85 : decode b_M_meet 85 = .ok (.iload 4, 2) := by decide +kernel
theorem d_M_meet_87 : decode b_M_meet 87 = .ok (.laload, 1) := by decide +kernel
theorem d_M_meet_88 : decode b_M_meet 88 = .ok (.goto 10, 3) := by decide +kernel
theorem d_M_meet_91 : decode b_M_meet 91 = .ok (.aload_n 0, 1) := by decide +kernel
theorem d_M_meet_92 : decode b_M_meet 92 = .ok (.getfield 17, 3) := by decide +kernel
theorem d_M_meet_95 : decode b_M_meet 95 = .ok (.iload 4, 2) := by decide +kernel
theorem d_M_meet_97 : decode b_M_meet 97 = .ok (.laload, 1) := by decide +kernel
theorem d_M_meet_98 : decode b_M_meet 98 = .ok (.lastore, 1) := by decide +kernel
theorem d_M_meet_99 : decode b_M_meet 99 = .ok (.iinc 4 1, 3) := by decide +kernel
theorem d_M_meet_102 : decode b_M_meet 102 = .ok (.goto (-52), 3) := by decide +kernel
theorem d_M_meet_105 : decode b_M_meet 105 = .ok (.aload_n 0, 1) := by decide +kernel
theorem d_M_meet_106 : decode b_M_meet 106 = .ok (.invokevirtual 69, 3) := by decide +kernel
theorem d_M_meet_109 : decode b_M_meet 109 = .ok (.istore 4, 2) := by decide +kernel
theorem d_M_meet_111 : decode b_M_meet 111 = .ok (.aload_n 0, 1) := by decide +kernel
theorem d_M_meet_112 : decode b_M_meet 112 = .ok (.iload 4, 2) := by decide +kernel
theorem d_M_meet_114 : decode b_M_meet 114 = .ok (.ifCond .eq 14, 3) := by decide +kernel
theorem d_M_meet_117 : decode b_M_meet 117 = .ok (.aload_n 0, 1) := by decide +kernel
theorem d_M_meet_118 : decode b_M_meet 118 = .ok (.invokevirtual 101, 3) := by decide +kernel
theorem d_M_meet_121 : decode b_M_meet 121 = .ok (.ifCond .eq 7, 3) := by decide +kernel
theorem d_M_meet_124 : decode b_M_meet 124 = .ok (.iconst 2, 1) := by decide +kernel
theorem d_M_meet_125 : decode b_M_meet 125 = .ok (.goto 4, 3) := by decide +kernel
theorem d_M_meet_128 : decode b_M_meet 128 = .ok (.iconst 0, 1) := by decide +kernel
theorem d_M_meet_129 : decode b_M_meet 129 = .ok (.putfield 48, 3) := by decide +kernel
theorem d_M_meet_132 : decode b_M_meet 132 = .ok (.aload_n 0, 1) := by decide +kernel
theorem d_M_meet_133 : decode b_M_meet 133 = .ok (.getfield 48, 3) := by decide +kernel
theorem d_M_meet_136 : decode b_M_meet 136 = .ok (.ifCond .le 7, 3) := by decide +kernel
theorem d_M_meet_139 : decode b_M_meet 139 = .ok (.iconst 0, 1) := by decide +kernel
theorem d_M_meet_140 : decode b_M_meet 140 = .ok (.goto 10, 3) := by decide +kernel
theorem d_M_meet_143 : decode b_M_meet 143 = .ok (.aload_n 0, 1) := by decide +kernel
theorem d_M_meet_144 : decode b_M_meet 144 = .ok (.iload_n 1, 1) := by decide +kernel
theorem d_M_meet_145 : decode b_M_meet 145 = .ok (.iload 4, 2) := by decide +kernel
theorem d_M_meet_147 : decode b_M_meet 147 = .ok (.invokevirtual 114, 3) := by decide +kernel
theorem d_M_meet_150 : decode b_M_meet 150 = .ok (.ireturn, 1) := by decide +kernel
theorem d_M_join_0 : decode b_M_join 0 = .ok (.aload_n 0, 1) := by decide +kernel
theorem d_M_join_1 : decode b_M_join 1 = .ok (.iload_n 1, 1) := by decide +kernel
theorem d_M_join_2 : decode b_M_join 2 = .ok (.iload_n 2, 1) := by decide +kernel
theorem d_M_join_3 : decode b_M_join 3 = .ok (.iload_n 3, 1) := by decide +kernel
theorem d_M_join_4 : decode b_M_join 4 = .ok (.invokevirtual 110, 3) := by decide +kernel
theorem d_M_join_7 : decode b_M_join 7 = .ok (.ifCond .ne 5, 3) := by decide +kernel
theorem d_M_join_10 : decode b_M_join 10 = .ok (.iconst 0, 1) := by decide +kernel
theorem d_M_join_11 : decode b_M_join 11 = .ok (.ireturn, 1) := by decide +kernel
theorem d_M_join_12 : decode b_M_join 12 = .ok (.aload_n 0, 1) := by decide +kernel
theorem d_M_join_13 : decode b_M_join 13 = .ok (.iload_n 2, 1) := by decide +kernel
theorem d_M_join_14 : decode b_M_join 14 = .ok (.invokevirtual 98, 3) := by decide +kernel
theorem d_M_join_17 : decode b_M_join 17 = .ok (.istore 4, 2) := by decide +kernel
theorem d_M_join_19 : decode b_M_join 19 = .ok (.aload_n 0, 1) := by decide +kernel
theorem d_M_join_20 : decode b_M_join 20 = .ok (.iconst 1, 1) := by decide +kernel
theorem d_M_join_21 : decode b_M_join 21 = .ok (.invokevirtual 118, 3) := by decide +kernel
theorem d_M_join_24 : decode b_M_join 24 = .ok (.aload_n 0, 1) := by decide +kernel
theorem d_M_join_25 : decode b_M_join 25 = .ok (.iload_n 3, 1) := by decide +kernel
theorem d_M_join_26 : decode b_M_join 26 = .ok (.invokevirtual 98, 3) := by decide +kernel
theorem d_M_join_29 : decode b_M_join 29 = .ok (.istore 5, 2) := by decide +kernel
theorem d_M_join_31 : decode b_M_join 31 = .ok (.iload 5, 2) := by decide +kernel
theorem d_M_join_33 : decode b_M_join 33 = .ok (.ifCond .ne 8, 3) := by decide +kernel
theorem d_M_join_36 : decode b_M_join 36 = .ok (.aload_n 0, 1) := by decide +kernel
theorem d_M_join_37 : decode b_M_join 37 = .ok (.iconst 0, 1) := by decide +kernel
theorem d_M_join_38 : decode b_M_join 38 = .ok (.invokevirtual 118, 3) := by decide +kernel
theorem d_M_join_41 : decode b_M_join 41 = .ok (.iconst 0, 1) := by decide +kernel
theorem d_M_join_42 : decode b_M_join 42 = .ok (.istore 6, 2) := by decide +kernel
theorem d_M_join_44 : decode b_M_join 44 = .ok (.iload 6, 2) := by decide +kernel
theorem d_M_join_46 : decode b_M_join 46 = .ok (.bipush 100, 2) := by decide +kernel
theorem d_M_join_48 : decode b_M_join 48 = .ok (.if_icmp .ge 61, 3) := by decide +kernel
theorem d_M_join_51 : decode b_M_join 51 = .ok (.iload 4, 2) := by decide +kernel
theorem d_M_join_53 : decode b_M_join 53 = .ok (.ifCond .eq 56, 3) := by decide +kernel
theorem d_M_join_56 : decode b_M_join 56 = .ok (.iload 5, 2) := by decide +kernel
theorem d_M_join_58 : decode b_M_join 58 = .ok (.ifCond .eq 51, 3) := by decide +kernel
theorem d_M_join_61 : decode b_M_join 61 = .ok (.aload_n 0, 1) := by decide +kernel
theorem d_M_join_62 : decode b_M_join 62 = .ok (.getfield 17, 3) := by decide +kernel
theorem d_M_join_65 : decode b_M_join 65 = .ok (.iload 6, 2) := by decide +kernel
theorem d_M_join_67 : decode b_M_join 67 = .ok (.aload_n 0, 1) := by decide +kernel
theorem d_M_join_68 : decode b_M_join 68 = .ok (.getfield 20, 3) := by decide +kernel
theorem d_M_join_71 : decode b_M_join 71 = .ok (.iload 6, 2) := by decide +kernel
theorem d_M_join_73 : decode b_M_join 73 = .ok (.laload, 1) := by decide +kernel
theorem d_M_join_74 : decode b_M_join 74 = .ok (.aload_n 0, 1) := by decide +kernel
theorem d_M_join_75 : decode b_M_join 75 = .ok (.getfield 17, 3) := by decide +kernel
theorem d_M_join_78 : decode b_M_join 78 = .ok (.iload 6, 2) := by decide +kernel
theorem d_M_join_80 : decode b_M_join 80 = .ok (.laload, 1) := by decide +kernel
theorem d_M_join_81 : decode b_M_join 81 = .ok (.lcmp, 1) := by decide +kernel
theorem d_M_join_82 : decode b_M_join 82 = .ok (.ifCond .le 13, 3) := by decide +kernel
theorem d_M_join_85 : decode b_M_join 85 = .ok (.aload_n 0, 1) := by decide +kernel
theorem d_M_join_86 : decode b_M_join 86 = .ok (.getfield 20, 3) := by decide +kernel
theorem d_M_join_89 : decode b_M_join 89 = .ok (.iload 6, 2) := by decide +kernel
theorem d_M_join_91 : decode b_M_join 91 = .ok (.laload, 1) := by decide +kernel
theorem d_M_join_92 : decode b_M_join 92 = .ok (.goto 10, 3) := by decide +kernel
theorem d_M_join_95 : decode b_M_join 95 = .ok (.aload_n 0, 1) := by decide +kernel
theorem d_M_join_96 : decode b_M_join 96 = .ok (.getfield 17, 3) := by decide +kernel
theorem d_M_join_99 : decode b_M_join 99 = .ok (.iload 6, 2) := by decide +kernel
theorem d_M_join_101 : decode b_M_join 101 = .ok (.laload, 1) := by decide +kernel
theorem d_M_join_102 : decode b_M_join 102 = .ok (.lastore, 1) := by decide +kernel
theorem d_M_join_103 : decode b_M_join 103 = .ok (.iinc 6 1, 3) := by decide +kernel
theorem d_M_join_106 : decode b_M_join 106 = .ok (.goto (-62), 3) := by decide +kernel
theorem d_M_join_109 : decode b_M_join 109 = .ok (.aload_n 0, 1) := by decide +kernel
theorem d_M_join_110 : decode b_M_join 110 = .ok (.iload_n 1, 1) := by decide +kernel
theorem d_M_join_111 : decode b_M_join 111 = .ok (.iload 4, 2) := by decide +kernel
theorem d_M_join_113 : decode b_M_join 113 = .ok (.ifCond .ne 8, 3) := by decide +kernel
theorem d_M_join_116 : decode b_M_join 116 = .ok (.iload 5, 2) := by decide +kernel
theorem d_M_join_118 : decode b_M_join 118 = .ok (.ifCond .eq 14, 3) := by decide +kernel
theorem d_M_join_121 : decode b_M_join 121 = .ok (.aload_n 0, 1) := by decide +kernel
theorem d_M_join_122 : decode b_M_join 122 = .ok (.invokevirtual 69, 3) := by decide +kernel
theorem d_M_join_125 : decode b_M_join 125 = .ok (.ifCond .eq 7, 3) := by decide +kernel
theorem d_M_join_128 : decode b_M_join 128 = .ok (.iconst 1, 1) := by decide +kernel
theorem d_M_join_129 : decode b_M_join 129 = .ok (.goto 4, 3) := by decide +kernel
theorem d_M_join_132 : decode b_M_join 132 = .ok (.iconst 0, 1) := by decide +kernel
theorem d_M_join_133 : decode b_M_join 133 = .ok (.invokevirtual 114, 3) := by decide +kernel
theorem d_M_join_136 : decode b_M_join 136 = .ok (.ireturn, 1) := by decide +kernel
theorem d_M_widen_0 : decode b_M_widen 0 = .ok (.aload_n 0, 1) := by decide +kernel
theorem d_M_widen_1 : decode b_M_widen 1 = .ok (.iload_n 1, 1) := by decide +kernel
theorem d_M_widen_2 : decode b_M_widen 2 = .ok (.iload_n 2, 1) := by decide +kernel
theorem d_M_widen_3 : decode b_M_widen 3 = .ok (.iload_n 3, 1) := by decide +kernel
theorem d_M_widen_4 : decode b_M_widen 4 = .ok (.invokevirtual 110, 3) := by decide +kernel
theorem d_M_widen_7 : decode b_M_widen 7 = .ok (.ifCond .ne 5, 3) := by decide +kernel
theorem d_M_widen_10 : decode b_M_widen 10 = .ok (.iconst 0, 1) := by decide +kernel
theorem d_M_widen_11 : decode b_M_widen 11 = .ok (.ireturn, 1) := by decide +kernel
theorem d_M_widen_12 : decode b_M_widen 12 = .ok (.aload_n 0, 1) := by decide +kernel
theorem d_M_widen_13 : decode b_M_widen 13 = .ok (.getfield 13, 3) := by decide +kernel
theorem d_M_widen_16 : decode b_M_widen 16 = .ok (.iload_n 2, 1) := by decide +kernel
theorem d_M_widen_17 : decode b_M_widen 17 = .ok (.baload, 1) := by decide +kernel
theorem d_M_widen_18 : decode b_M_widen 18 = .ok (.ifCond .ne 12, 3) := by decide +kernel
theorem d_M_widen_21 : decode b_M_widen 21 = .ok (.aload_n 0, 1) := by decide +kernel
theorem d_M_widen_22 : decode b_M_widen 22 = .ok (.getfield 13, 3) := by decide +kernel
theorem d_M_widen_25 : decode b_M_widen 25 = .ok (.iload_n 3, 1) := by decide +kernel
theorem d_M_widen_26 : decode b_M_widen 26 = .ok (.baload, 1) := by decide +kernel
theorem d_M_widen_27 : decode b_M_widen 27 = .ok (.ifCond .eq 37, 3) := by decide +kernel
theorem d_M_widen_30 : decode b_M_widen 30 = .ok (.aload_n 0, 1) := by decide +kernel
theorem d_M_widen_31 : decode b_M_widen 31 = .ok (.iload_n 1, 1) := by decide +kernel
theorem d_M_widen_32 : decode b_M_widen 32 = .ok (.aload_n 0, 1) := by decide +kernel
theorem d_M_widen_33 : decode b_M_widen 33 = .ok (.getfield 13, 3) := by decide +kernel
theorem d_M_widen_36 : decode b_M_widen 36 = .ok (.iload_n 2, 1) := by decide +kernel
theorem d_M_widen_37 : decode b_M_widen 37 = .ok (.baload, 1) := by decide +kernel
theorem d_M_widen_38 : decode b_M_widen 38 = .ok (.ifCond .eq 7, 3) := by decide +kernel
theorem d_M_widen_41 : decode b_M_widen 41 = .ok (.iload_n 3, 1) := by decide +kernel
theorem d_M_widen_42 : decode b_M_widen 42 = .ok (.goto 4, 3) := by decide +kernel
theorem d_M_widen_45 : decode b_M_widen 45 = .ok (.iload_n 2, 1) := by decide +kernel
theorem d_M_widen_46 : decode b_M_widen 46 = .ok (.invokevirtual 122, 3) := by decide +kernel
theorem d_M_widen_49 : decode b_M_widen 49 = .ok (.aload_n 0, 1) := by decide +kernel
theorem d_M_widen_50 : decode b_M_widen 50 = .ok (.getfield 13, 3) := by decide +kernel
theorem d_M_widen_53 : decode b_M_widen 53 = .ok (.iload_n 1, 1) := by decide +kernel
theorem d_M_widen_54 : decode b_M_widen 54 = .ok (.baload, 1) := by decide +kernel
theorem d_M_widen_55 : decode b_M_widen 55 = .ok (.ifCond .eq 7, 3) := by decide +kernel
theorem d_M_widen_58 : decode b_M_widen 58 = .ok (.iconst 0, 1) := by decide +kernel
theorem d_M_widen_59 : decode b_M_widen 59 = .ok (.goto 4, 3) := by decide +kernel
theorem d_M_widen_62 : decode b_M_widen 62 = .ok (.iconst 1, 1) := by decide +kernel
theorem d_M_widen_63 : decode b_M_widen 63 = .ok (.ireturn, 1) := by decide +kernel
theorem d_M_widen_64 : decode b_M_widen 64 = .ok (.aload_n 0, 1) := by decide +kernel
theorem d_M_widen_65 : decode b_M_widen 65 = .ok (.iload_n 3, 1) := by decide +kernel
theorem d_M_widen_66 : decode b_M_widen 66 = .ok (.invokevirtual 98, 3) := by decide +kernel
theorem d_M_widen_69 : decode b_M_widen 69 = .ok (.istore 4, 2) := by decide +kernel
theorem d_M_widen_71 : decode b_M_widen 71 = .ok (.iconst 0, 1) := by decide +kernel
theorem d_M_widen_72 : decode b_M_widen 72 = .ok (.istore 5, 2) := by decide +kernel
theorem d_M_widen_74 : decode b_M_widen 74 = .ok (.iload 5, 2) := by decide +kernel
theorem d_M_widen_76 : decode b_M_widen 76 = .ok (.bipush 10, 2) := by decide +kernel
theorem d_M_widen_78 : decode b_M_widen 78 = .ok (.if_icmp .ge 114, 3) := by decide +kernel
theorem d_M_widen_81 : decode b_M_widen 81 = .ok (.iconst 0, 1) := by decide +kernel
theorem d_M_widen_82 : decode b_M_widen 82 = .ok (.istore 6, 2) := by decide +kernel
theorem d_M_widen_84 : decode b_M_widen 84 = .ok (.iload 6, 2) := by decide +kernel
theorem d_M_widen_86 : decode b_M_widen 86 = .ok (.bipush 10, 2) := by decide +kernel
theorem d_M_widen_88 : decode b_M_widen 88 = .ok (.if_icmp .ge 98, 3) := by decide +kernel
theorem d_M_widen_91 : decode b_M_widen 91 = .ok (.aload_n 0, 1) := by decide +kernel
theorem d_M_widen_92 : decode b_M_widen 92 = .ok (.getfield 7, 3) := by decide +kernel
theorem d_M_widen_95 : decode b_M_widen 95 = .ok (.bipush 100, 2) := by decide +kernel
theorem d_M_widen_97 : decode b_M_widen 97 = .ok (.iload_n 2, 1) := by decide +kernel
theorem d_M_widen_98 : decode b_M_widen 98 = .ok (.imul, 1) := by decide +kernel
theorem d_M_widen_99 : decode b_M_widen 99 = .ok (.bipush 10, 2) := by decide +kernel
theorem d_M_widen_101 : decode b_M_widen 101 = .ok (.iload 5, 2) := by decide +kernel
theorem d_M_widen_103 : decode b_M_widen 103 = .ok (.imul, 1) := by decide +kernel
theorem d_M_widen_104 : decode b_M_widen 104 = .ok (.iadd, 1) := by decide +kernel
theorem d_M_widen_105 : decode b_M_widen 105 = .ok (.iload 6, 2) := by decide +kernel
theorem d_M_widen_107 : decode b_M_widen 107 = .ok (.iadd, 1) := by decide +kernel
theorem d_M_widen_108 : decode b_M_widen 108 = .ok (.laload, 1) := by decide +kernel
theorem d_M_widen_109 : decode b_M_widen 109 = .ok (.lstore 7, 2) := by decide +kernel
theorem d_M_widen_111 : decode b_M_widen 111 = .ok (.iload 5, 2) := by decide +kernel
theorem d_M_widen_113 : decode b_M_widen 113 = .ok (.iload 6, 2) := by decide +kernel
theorem d_M_widen_115 : decode b_M_widen 115 = .ok (.if_icmp .ne 21, 3) := by decide +kernel
theorem d_M_widen_118 : decode b_M_widen 118 = .ok (.lload 7, 2) := by decide +kernel
theorem d_M_widen_120 : decode b_M_widen 120 = .ok (.ldc2_w 46, 3) := by decide +kernel
theorem d_M_widen_123 : decode b_M_widen 123 = .ok (.lcmp, 1) := by decide +kernel
theorem d_M_widen_124 : decode b_M_widen 124 = .ok (.ifCond .eq 12, 3) := by decide +kernel
theorem d_M_widen_127 : decode b_M_widen 127 = .ok (.ldc2_w 51, 3) := by decide +kernel
theorem d_M_widen_130 : decode b_M_widen 130 = .ok (.lload 7, 2) := by decide +kernel
theorem d_M_widen_132 : decode b_M_widen 132 = .ok (.lmul, 1) := by decide +kernel
theorem d_M_widen_133 : decode b_M_widen 133 = .ok (.goto 5, 3) := by decide +kernel
theorem d_M_widen_136 : decode b_M_widen 136 = .ok (.lload 7, 2) := by decide +kernel
theorem d_M_widen_138 : decode b_M_widen 138 = .ok (.lstore 9, 2) := by decide +kernel
theorem d_M_widen_140 : decode b_M_widen 140 = .ok (.aload_n 0, 1) := by decide +kernel
theorem d_M_widen_141 : decode b_M_widen 141 = .ok (.getfield 23, 3) := by decide +kernel
theorem d_M_widen_144 : decode b_M_widen 144 = .ok (.bipush 10, 2) := by decide +kernel
theorem d_M_widen_146 : decode b_M_widen 146 = .ok (.iload 5, 2) := by decide +kernel
theorem d_M_widen_148 : decode b_M_widen 148 = .ok (.imul, 1) := by decide +kernel
theorem d_M_widen_149 : decode b_M_widen 149 = .ok (.iload 6, 2) := by decide +kernel
theorem d_M_widen_151 : decode b_M_widen 151 = .ok (.iadd, 1) := by decide +kernel
theorem d_M_widen_152 : decode b_M_widen 152 = .ok (.aload_n 0, 1) := by decide +kernel
theorem d_M_widen_153 : decode b_M_widen 153 = .ok (.getfield 17, 3) := by decide +kernel
theorem d_M_widen_156 : decode b_M_widen 156 = .ok (.bipush 10, 2) := by decide +kernel
theorem d_M_widen_158 : decode b_M_widen 158 = .ok (.iload 5, 2) := by decide +kernel
theorem d_M_widen_160 : decode b_M_widen 160 = .ok (.imul, 1) := by decide +kernel
theorem d_M_widen_161 : decode b_M_widen 161 = .ok (.iload 6, 2) := by decide +kernel
theorem d_M_widen_163 : decode b_M_widen 163 = .ok (.iadd, 1) := by decide +kernel
theorem d_M_widen_164 : decode b_M_widen 164 = .ok (.laload, 1) := by decide +kernel
theorem d_M_widen_165 : decode b_M_widen 165 = .ok (.lload 9, 2) := by decide +kernel
theorem d_M_widen_167 : decode b_M_widen 167 = .ok (.lcmp, 1) := by decide +kernel
theorem d_M_widen_168 : decode b_M_widen 168 = .ok (.ifCond .gt 8, 3) := by decide +kernel
theorem d_M_widen_171 : decode b_M_widen 171 = .ok (.lload 7, 2) := by decide +kernel
theorem d_M_widen_173 : decode b_M_widen 173 = .ok (.goto 6, 3) := by decide +kernel
theorem d_M_widen_176 : decode b_M_widen 176 = .ok (.ldc2_w 46, 3) := by decide +kernel
theorem d_M_widen_179 : decode b_M_widen 179 = .ok (.lastore, 1) := by decide +kernel
theorem d_M_widen_180 : decode b_M_widen 180 = .ok (.iinc 6 1, 3) := by decide +kernel
theorem d_M_widen_183 : decode b_M_widen 183 = .ok (.goto (-99), 3) := by decide +kernel
theorem d_M_widen_186 : decode b_M_widen 186 = .ok (.iinc 5 1, 3) := by decide +kernel
theorem d_M_widen_189 : decode b_M_widen 189 = .ok (.goto (-115), 3) := by decide +kernel
theorem d_M_widen_192 : decode b_M_widen 192 = .ok (.aload_n 0, 1) := by decide +kernel
theorem d_M_widen_193 : decode b_M_widen 193 = .ok (.invokevirtual 126, 3) := by decide +kernel
theorem d_M_widen_196 : decode b_M_widen 196 = .ok (.istore 4, 2) := by decide +kernel
theorem d_M_widen_198 : decode b_M_widen 198 = .ok (.aload_n 0, 1) := by decide +kernel
theorem d_M_widen_199 : decode b_M_widen 199 = .ok (.invokevirtual 101, 3) := by decide +kernel
theorem d_M_widen_202 : decode b_M_widen 202 = .ok (.ifCond .eq 10, 3) := by decide +kernel
theorem d_M_widen_205 : decode b_M_widen 205 = .ok (.aload_n 0, 1) := by decide +kernel
theorem d_M_widen_206 : decode b_M_widen 206 = .ok (.iconst 2, 1) := by decide +kernel
theorem d_M_widen_207 : decode b_M_widen 207 = .ok (.putfield 48, 3) := by decide +kernel
theorem d_M_widen_210 : decode b_M_widen 210 = .ok (.iconst 0, 1) := by decide +kernel
theorem d_M_widen_211 : decode b_M_widen 211 = .ok (.ireturn, 1) := by decide +kernel
theorem d_M_widen_212 : decode b_M_widen 212 = .ok (.aload_n 0, 1) := by decide +kernel
theorem d_M_widen_213 : decode b_M_widen 213 = .ok (.iload_n 1, 1) := by decide +kernel
theorem d_M_widen_214 : decode b_M_widen 214 = .ok (.invokevirtual 129, 3) := by decide +kernel
theorem d_M_widen_217 : decode b_M_widen 217 = .ok (.iconst 1, 1) := by decide +kernel
theorem d_M_widen_218 : decode b_M_widen 218 = .ok (.ireturn, 1) := by decide +kernel
theorem d_M_narrow_0 : decode b_M_narrow 0 = .ok (.aload_n 0, 1) := by decide +kernel
theorem d_M_narrow_1 : decode b_M_narrow 1 = .ok (.iload_n 1, 1) := by decide +kernel
theorem d_M_narrow_2 : decode b_M_narrow 2 = .ok (.iload_n 2, 1) := by decide +kernel
theorem d_M_narrow_3 : decode b_M_narrow 3 = .ok (.iload_n 3, 1) := by decide +kernel
theorem d_M_narrow_4 : decode b_M_narrow 4 = .ok (.invokevirtual 110, 3) := by decide +kernel
theorem d_M_narrow_7 : decode b_M_narrow 7 = .ok (.ifCond .ne 5, 3) := by decide +kernel
theorem d_M_narrow_10 : decode b_M_narrow 10 = .ok (.iconst 0, 1) := by decide +kernel
theorem d_M_narrow_11 : decode b_M_narrow 11 = .ok (.ireturn, 1) := by decide +kernel
theorem d_M_narrow_12 : decode b_M_narrow 12 = .ok (.aload_n 0, 1) := by decide +kernel
theorem d_M_narrow_13 : decode b_M_narrow 13 = .ok (.getfield 13, 3) := by decide +kernel
theorem d_M_narrow_16 : decode b_M_narrow 16 = .ok (.iload_n 2, 1) := by decide +kernel
theorem d_M_narrow_17 : decode b_M_narrow 17 = .ok (.baload, 1) := by decide +kernel
theorem d_M_narrow_18 : decode b_M_narrow 18 = .ok (.ifCond .ne 12, 3) := by decide +kernel
theorem d_M_narrow_21 : decode b_M_narrow 21 = .ok (.aload_n 0, 1) := by decide +kernel
theorem d_M_narrow_22 : decode b_M_narrow 22 = .ok (.getfield 13, 3) := by decide +kernel
theorem d_M_narrow_25 : decode b_M_narrow 25 = .ok (.iload_n 3, 1) := by decide +kernel
theorem d_M_narrow_26 : decode b_M_narrow 26 = .ok (.baload, 1) := by decide +kernel
theorem d_M_narrow_27 : decode b_M_narrow 27 = .ok (.ifCond .eq 10, 3) := by decide +kernel
theorem d_M_narrow_30 : decode b_M_narrow 30 = .ok (.aload_n 0, 1) := by decide +kernel
theorem d_M_narrow_31 : decode b_M_narrow 31 = .ok (.iload_n 1, 1) := by decide +kernel
theorem d_M_narrow_32 : decode b_M_narrow 32 = .ok (.invokevirtual 73, 3) := by decide +kernel
theorem d_M_narrow_35 : decode b_M_narrow 35 = .ok (.iconst 0, 1) := by decide +kernel
theorem d_M_narrow_36 : decode b_M_narrow 36 = .ok (.ireturn, 1) := by decide +kernel
theorem d_M_narrow_37 : decode b_M_narrow 37 = .ok (.aload_n 0, 1) := by decide +kernel
theorem d_M_narrow_38 : decode b_M_narrow 38 = .ok (.iload_n 2, 1) := by decide +kernel
theorem d_M_narrow_39 : decode b_M_narrow 39 = .ok (.invokevirtual 98, 3) := by decide +kernel
theorem d_M_narrow_42 : decode b_M_narrow 42 = .ok (.istore 4, 2) := by decide +kernel
theorem d_M_narrow_44 : decode b_M_narrow 44 = .ok (.aload_n 0, 1) := by decide +kernel
theorem d_M_narrow_45 : decode b_M_narrow 45 = .ok (.iconst 1, 1) := by decide +kernel
theorem d_M_narrow_46 : decode b_M_narrow 46 = .ok (.invokevirtual 118, 3) := by decide +kernel
theorem d_M_narrow_49 : decode b_M_narrow 49 = .ok (.aload_n 0, 1) := by decide +kernel
theorem d_M_narrow_50 : decode b_M_narrow 50 = .ok (.iload_n 3, 1) := by decide +kernel
theorem d_M_narrow_51 : decode b_M_narrow 51 = .ok (.invokevirtual 98, 3) := by decide +kernel
theorem d_M_narrow_54 : decode b_M_narrow 54 = .ok (.istore 4, 2) := by decide +kernel
theorem d_M_narrow_56 : decode b_M_narrow 56 = .ok (.iconst 0, 1) := by decide +kernel
theorem d_M_narrow_57 : decode b_M_narrow 57 = .ok (.istore 5, 2) := by decide +kernel
theorem d_M_narrow_59 : decode b_M_narrow 59 = .ok (.iload 5, 2) := by decide +kernel
theorem d_M_narrow_61 : decode b_M_narrow 61 = .ok (.iconst 2, 1) := by decide +kernel
theorem d_M_narrow_62 : decode b_M_narrow 62 = .ok (.aload_n 0, 1) := by decide +kernel
theorem d_M_narrow_63 : decode b_M_narrow 63 = .ok (.getfield 42, 3) := by decide +kernel
theorem d_M_narrow_66 : decode b_M_narrow 66 = .ok (.imul, 1) := by decide +kernel
theorem d_M_narrow_67 : decode b_M_narrow 67 = .ok (.if_icmp .ge 151, 3) := by decide +kernel
theorem d_M_narrow_70 : decode b_M_narrow 70 = .ok (.iconst 0, 1) := by decide +kernel
theorem d_M_narrow_71 : decode b_M_narrow 71 = .ok (.istore 6, 2) := by decide +kernel
theorem d_M_narrow_73 : decode b_M_narrow 73 = .ok (.iload 6, 2) := by decide +kernel
theorem d_M_narrow_75 : decode b_M_narrow 75 = .ok (.iconst 2, 1) := by decide +kernel
theorem d_M_narrow_76 : decode b_M_narrow 76 = .ok (.aload_n 0, 1) := by decide +kernel
theorem d_M_narrow_77 : decode b_M_narrow 77 = .ok (.getfield 42, 3) := by decide +kernel
theorem d_M_narrow_80 : decode b_M_narrow 80 = .ok (.imul, 1) := by decide +kernel
theorem d_M_narrow_81 : decode b_M_narrow 81 = .ok (.if_icmp .ge 131, 3) := by decide +kernel
theorem d_M_narrow_84 : decode b_M_narrow 84 = .ok (.aload_n 0, 1) := by decide +kernel
theorem d_M_narrow_85 : decode b_M_narrow 85 = .ok (.getfield 17, 3) := by decide +kernel
theorem d_M_narrow_88 : decode b_M_narrow 88 = .ok (.bipush 10, 2) := by decide +kernel
theorem d_M_narrow_90 : decode b_M_narrow 90 = .ok (.iload 5, 2) := by decide +kernel
theorem d_M_narrow_92 : decode b_M_narrow 92 = .ok (.imul, 1) := by decide +kernel
theorem d_M_narrow_93 : decode b_M_narrow 93 = .ok (.iload 6, 2) := by decide +kernel
theorem d_M_narrow_95 : decode b_M_narrow 95 = .ok (.iadd, 1) := by decide +kernel
theorem d_M_narrow_96 : decode b_M_narrow 96 = .ok (.laload, 1) := by decide +kernel
theorem d_M_narrow_97 : decode b_M_narrow 97 = .ok (.lstore 7, 2) := by decide +kernel
theorem d_M_narrow_99 : decode b_M_narrow 99 = .ok (.iload 5, 2) := by decide +kernel
theorem d_M_narrow_101 : decode b_M_narrow 101 = .ok (.iload 6, 2) := by decide +kernel
theorem d_M_narrow_103 : decode b_M_narrow 103 = .ok (.if_icmp .ne 21, 3) := by decide +kernel
theorem d_M_narrow_106 : decode b_M_narrow 106 = .ok (.lload 7, 2) := by decide +kernel
theorem d_M_narrow_108 : decode b_M_narrow 108 = .ok (.ldc2_w 46, 3) := by decide +kernel
theorem d_M_narrow_111 : decode b_M_narrow 111 = .ok (.lcmp, 1) := by decide +kernel
theorem d_M_narrow_112 : decode b_M_narrow 112 = .ok (.ifCond .eq 12, 3) := by decide +kernel
theorem d_M_narrow_115 : decode b_M_narrow 115 = .ok (.lload 7, 2) := by decide +kernel
theorem d_M_narrow_117 : decode b_M_narrow 117 = .ok (.ldc2_w 51, 3) := by decide +kernel
theorem d_M_narrow_120 : decode b_M_narrow 120 = .ok (.ldiv, 1) := by decide +kernel
theorem d_M_narrow_121 : decode b_M_narrow 121 = .ok (.goto 5, 3) := by decide +kernel
theorem d_M_narrow_124 : decode b_M_narrow 124 = .ok (.lload 7, 2) := by decide +kernel
theorem d_M_narrow_126 : decode b_M_narrow 126 = .ok (.lstore 9, 2) := by decide +kernel
theorem d_M_narrow_128 : decode b_M_narrow 128 = .ok (.aload_n 0, 1) := by decide +kernel
theorem d_M_narrow_129 : decode b_M_narrow 129 = .ok (.getfield 20, 3) := by decide +kernel
theorem d_M_narrow_132 : decode b_M_narrow 132 = .ok (.bipush 10, 2) := by decide +kernel
theorem d_M_narrow_134 : decode b_M_narrow 134 = .ok (.iload 5, 2) := by decide +kernel
theorem d_M_narrow_136 : decode b_M_narrow 136 = .ok (.imul, 1) := by decide +kernel
theorem d_M_narrow_137 : decode b_M_narrow 137 = .ok (.iload 6, 2) := by decide +kernel
theorem d_M_narrow_139 : decode b_M_narrow 139 = .ok (.iadd, 1) := by decide +kernel
theorem d_M_narrow_140 : decode b_M_narrow 140 = .ok (.laload, 1) := by decide +kernel
theorem d_M_narrow_141 : decode b_M_narrow 141 = .ok (.ldc2_w 46, 3) := by decide +kernel
theorem d_M_narrow_144 : decode b_M_narrow 144 = .ok (.lcmp, 1) := by decide +kernel
theorem d_M_narrow_145 : decode b_M_narrow 145 = .ok (.ifCond .ne 17, 3) := by decide +kernel
theorem d_M_narrow_148 : decode b_M_narrow 148 = .ok (.iload 6, 2) := by decide +kernel
theorem d_M_narrow_150 : decode b_M_narrow 150 = .ok (.iload 5, 2) := by decide +kernel
theorem d_M_narrow_152 : decode b_M_narrow 152 = .ok (.invokestatic 53, 3) := by decide +kernel
theorem d_M_narrow_155 : decode b_M_narrow 155 = .ok (.if_icmp .eq 7, 3) := by decide +kernel
theorem d_M_narrow_158 : decode b_M_narrow 158 = .ok (.iconst 1, 1) := by decide +kernel
theorem d_M_narrow_159 : decode b_M_narrow 159 = .ok (.goto 4, 3) := by decide +kernel
theorem d_M_narrow_162 : decode b_M_narrow 162 = .ok (.iconst 0, 1) := by decide +kernel
theorem d_M_narrow_163 : decode b_M_narrow 163 = .ok (.istore 11, 2) := by decide +kernel
theorem d_M_narrow_165 : decode b_M_narrow 165 = .ok (.aload_n 0, 1) := by decide +kernel
theorem d_M_narrow_166 : decode b_M_narrow 166 = .ok (.getfield 23, 3) := by decide +kernel
theorem d_M_narrow_169 : decode b_M_narrow 169 = .ok (.bipush 10, 2) := by decide +kernel
theorem d_M_narrow_171 : decode b_M_narrow 171 = .ok (.iload 5, 2) := by decide +kernel
theorem d_M_narrow_173 : decode b_M_narrow 173 = .ok (.imul, 1) := by decide +kernel
theorem d_M_narrow_174 : decode b_M_narrow 174 = .ok (.iload 6, 2) := by decide +kernel
theorem d_M_narrow_176 : decode b_M_narrow 176 = .ok (.iadd, 1) := by decide +kernel
theorem d_M_narrow_177 : decode b_M_narrow 177 = .ok (.iload 11, 2) := by decide +kernel
theorem d_M_narrow_179 : decode b_M_narrow 179 = .ok (.ifCond .eq 8, 3) := by decide +kernel
theorem d_M_narrow_182 : decode b_M_narrow 182 = .ok (.lload 9, 2) := by decide +kernel
theorem d_M_narrow_184 : decode b_M_narrow 184 = .ok (.goto 21, 3) := by decide +kernel
theorem d_M_narrow_187 : decode b_M_narrow 187 = .ok (.aload_n 0, 1) := by decide +kernel
theorem d_M_narrow_188 : decode b_M_narrow 188 = .ok (.getfield 7, 3) := by decide +kernel
theorem d_M_narrow_191 : decode b_M_narrow 191 = .ok (.bipush 100, 2) := by decide +kernel
theorem d_M_narrow_193 : decode b_M_narrow 193 = .ok (.iload_n 2, 1) := by decide +kernel
theorem d_M_narrow_194 : decode b_M_narrow 194 = .ok (.imul, 1) := by decide +kernel
theorem d_M_narrow_195 : decode b_M_narrow 195 = .ok (.bipush 10, 2) := by decide +kernel
theorem d_M_narrow_197 : decode b_M_narrow 197 = .ok (.iload 5, 2) := by decide +kernel
theorem d_M_narrow_199 : decode b_M_narrow 199 = .ok (.imul, 1) := by decide +kernel
theorem d_M_narrow_200 : decode b_M_narrow 200 = .ok (.iadd, 1) := by decide +kernel
theorem d_M_narrow_201 : decode b_M_narrow 201 = .ok (.iload 6, 2) := by decide +kernel
theorem d_M_narrow_203 : decode b_M_narrow 203 = .ok (.iadd, 1) := by decide +kernel
theorem d_M_narrow_204 : decode b_M_narrow 204 = .ok (.laload, 1) := by decide +kernel
theorem d_M_narrow_205 : decode b_M_narrow 205 = .ok (.lastore, 1) := by decide +kernel
theorem d_M_narrow_206 : decode b_M_narrow 206 = .ok (.iinc 6 1, 3) := by decide +kernel
theorem d_M_narrow_209 : decode b_M_narrow 209 = .ok (.goto (-136), 3) := by decide +kernel
theorem d_M_narrow_212 : decode b_M_narrow 212 = .ok (.iinc 5 1, 3) := by decide +kernel
theorem d_M_narrow_215 : decode b_M_narrow 215 = .ok (.goto (-156), 3) := by decide +kernel
theorem d_M_narrow_218 : decode b_M_narrow 218 = .ok (.aload_n 0, 1) := by decide +kernel
theorem d_M_narrow_219 : decode b_M_narrow 219 = .ok (.invokevirtual 126, 3) := by decide +kernel
theorem d_M_narrow_222 : decode b_M_narrow 222 = .ok (.ifCond .ne 10, 3) := by decide +kernel
theorem d_M_narrow_225 : decode b_M_narrow 225 = .ok (.aload_n 0, 1) := by decide +kernel
theorem d_M_narrow_226 : decode b_M_narrow 226 = .ok (.iload_n 1, 1) := by decide +kernel
theorem d_M_narrow_227 : decode b_M_narrow 227 = .ok (.invokevirtual 73, 3) := by decide +kernel
theorem d_M_narrow_230 : decode b_M_narrow 230 = .ok (.iconst 0, 1) := by decide +kernel
theorem d_M_narrow_231 : decode b_M_narrow 231 = .ok (.ireturn, 1) := by decide +kernel
theorem d_M_narrow_232 : decode b_M_narrow 232 = .ok (.aload_n 0, 1) := by decide +kernel
theorem d_M_narrow_233 : decode b_M_narrow 233 = .ok (.invokevirtual 101, 3) := by decide +kernel
theorem d_M_narrow_236 : decode b_M_narrow 236 = .ok (.ifCond .eq 10, 3) := by decide +kernel
theorem d_M_narrow_239 : decode b_M_narrow 239 = .ok (.aload_n 0, 1) := by decide +kernel
theorem d_M_narrow_240 : decode b_M_narrow 240 = .ok (.iconst 2, 1) := by decide +kernel
theorem d_M_narrow_241 : decode b_M_narrow 241 = .ok (.putfield 48, 3) := by decide +kernel
theorem d_M_narrow_244 : decode b_M_narrow 244 = .ok (.iconst 0, 1) := by decide +kernel
theorem d_M_narrow_245 : decode b_M_narrow 245 = .ok (.ireturn, 1) := by decide +kernel
theorem d_M_narrow_246 : decode b_M_narrow 246 = .ok (.aload_n 0, 1) := by decide +kernel
theorem d_M_narrow_247 : decode b_M_narrow 247 = .ok (.iload_n 1, 1) := by decide +kernel
theorem d_M_narrow_248 : decode b_M_narrow 248 = .ok (.invokevirtual 129, 3) := by decide +kernel
theorem d_M_narrow_251 : decode b_M_narrow 251 = .ok (.iconst 1, 1) := by decide +kernel
theorem d_M_narrow_252 : decode b_M_narrow 252 = .ok (.ireturn, 1) := by decide +kernel
theorem d_M_copyRows_0 : decode b_M_copyRows 0 = .ok (.iconst 0, 1) := by decide +kernel
theorem d_M_copyRows_1 : decode b_M_copyRows 1 = .ok (.istore_n 3, 1) := by decide +kernel
theorem d_M_copyRows_2 : decode b_M_copyRows 2 = .ok (.iload_n 3, 1) := by decide +kernel
theorem d_M_copyRows_3 : decode b_M_copyRows 3 = .ok (.bipush 100, 2) := by decide +kernel
theorem d_M_copyRows_5 : decode b_M_copyRows 5 = .ok (.if_icmp .ge 31, 3) := by decide +kernel
theorem d_M_copyRows_8 : decode b_M_copyRows 8 = .ok (.aload_n 0, 1) := by decide +kernel
theorem d_M_copyRows_9 : decode b_M_copyRows 9 = .ok (.getfield 7, 3) := by decide +kernel
theorem d_M_copyRows_12 : decode b_M_copyRows 12 = .ok (.bipush 100, 2) := by decide +kernel
theorem d_M_copyRows_14 : decode b_M_copyRows 14 = .ok (.iload_n 1, 1) := by decide +kernel
theorem d_M_copyRows_15 : decode b_M_copyRows 15 = .ok (.imul, 1) := by decide +kernel
theorem d_M_copyRows_16 : decode b_M_copyRows 16 = .ok (.iload_n 3, 1) := by decide +kernel
theorem d_M_copyRows_17 : decode b_M_copyRows 17 = .ok (.iadd, 1) := by decide +kernel
theorem d_M_copyRows_18 : decode b_M_copyRows 18 = .ok (.aload_n 0, 1) := by decide +kernel
theorem d_M_copyRows_19 : decode b_M_copyRows 19 = .ok (.getfield 7, 3) := by decide +kernel
theorem d_M_copyRows_22 : decode b_M_copyRows 22 = .ok (.bipush 100, 2) := by decide +kernel
theorem d_M_copyRows_24 : decode b_M_copyRows 24 = .ok (.iload_n 2, 1) := by decide +kernel
theorem d_M_copyRows_25 : decode b_M_copyRows 25 = .ok (.imul, 1) := by decide +kernel
theorem d_M_copyRows_26 : decode b_M_copyRows 26 = .ok (.iload_n 3, 1) := by decide +kernel
theorem d_M_copyRows_27 : decode b_M_copyRows 27 = .ok (.iadd, 1) := by decide +kernel
theorem d_M_copyRows_28 : decode b_M_copyRows 28 = .ok (.laload, 1) := by decide +kernel
theorem d_M_copyRows_29 : decode b_M_copyRows 29 = .ok (.lastore, 1) := by decide +kernel
theorem d_M_copyRows_30 : decode b_M_copyRows 30 = .ok (.iinc 3 1, 3) := by decide +kernel
theorem d_M_copyRows_33 : decode b_M_copyRows 33 = .ok (.goto (-31), 3) := by decide +kernel
theorem d_M_copyRows_36 : decode b_M_copyRows 36 = .ok (.aload_n 0, 1) := by decide +kernel
theorem d_M_copyRows_37 : decode b_M_copyRows 37 = .ok (.getfield 13, 3) := by decide +kernel
theorem d_M_copyRows_40 : decode b_M_copyRows 40 = .ok (.iload_n 1, 1) := by decide +kernel
theorem d_M_copyRows_41 : decode b_M_copyRows 41 = .ok (.aload_n 0, 1) := by decide +kernel
theorem d_M_copyRows_42 : decode b_M_copyRows 42 = .ok (.getfield 13, 3) := by decide +kernel
theorem d_M_copyRows_45 : decode b_M_copyRows 45 = .ok (.iload_n 2, 1) := by decide +kernel
theorem d_M_copyRows_46 : decode b_M_copyRows 46 = .ok (.baload, 1) := by decide +kernel
theorem d_M_copyRows_47 : decode b_M_copyRows 47 = .ok (.bastore, 1) := by decide +kernel
theorem d_M_copyRows_48 : decode b_M_copyRows 48 = .ok (.return_, 1) := by decide +kernel
theorem d_M_copy_0 : decode b_M_copy 0 = .ok (.aload_n 0, 1) := by decide +kernel
theorem d_M_copy_1 : decode b_M_copy 1 = .ok (.iload_n 1, 1) := by decide +kernel
theorem d_M_copy_2 : decode b_M_copy 2 = .ok (.iload_n 2, 1) := by decide +kernel
theorem d_M_copy_3 : decode b_M_copy 3 = .ok (.iload_n 2, 1) := by decide +kernel
theorem d_M_copy_4 : decode b_M_copy 4 = .ok (.invokevirtual 110, 3) := by decide +kernel
theorem d_M_copy_7 : decode b_M_copy 7 = .ok (.ifCond .eq 9, 3) := by decide +kernel
theorem d_M_copy_10 : decode b_M_copy 10 = .ok (.aload_n 0, 1) := by decide +kernel
theorem d_M_copy_11 : decode b_M_copy 11 = .ok (.iload_n 1, 1) := by decide +kernel
theorem d_M_copy_12 : decode b_M_copy 12 = .ok (.iload_n 2, 1) := by decide +kernel
theorem d_M_copy_13 : decode b_M_copy 13 = .ok (.invokevirtual 122, 3) := by decide +kernel
theorem d_M_copy_16 : decode b_M_copy 16 = .ok (.return_, 1) := by decide +kernel
theorem d_M_drop_0 : decode b_M_drop 0 = .ok (.iconst 0, 1) := by decide +kernel
theorem d_M_drop_1 : decode b_M_drop 1 = .ok (.istore_n 2, 1) := by decide +kernel
theorem d_M_drop_2 : decode b_M_drop 2 = .ok (.iload_n 2, 1) := by decide +kernel
theorem d_M_drop_3 : decode b_M_drop 3 = .ok (.bipush 10, 2) := by decide +kernel
theorem d_M_drop_5 : decode b_M_drop 5 = .ok (.if_icmp .ge 58, 3) := by decide +kernel
theorem d_M_drop_8 : decode b_M_drop 8 = .ok (.iconst 2, 1) := by decide +kernel
theorem d_M_drop_9 : decode b_M_drop 9 = .ok (.iload_n 1, 1) := by decide +kernel
theorem d_M_drop_10 : decode b_M_drop 10 = .ok (.imul, 1) := by decide +kernel
theorem d_M_drop_11 : decode b_M_drop 11 = .ok (.iconst 2, 1) := by decide +kernel
theorem d_M_drop_12 : decode b_M_drop 12 = .ok (.isub, 1) := by decide +kernel
theorem d_M_drop_13 : decode b_M_drop 13 = .ok (.istore_n 3, 1) := by decide +kernel
theorem d_M_drop_14 : decode b_M_drop 14 = .ok (.iload_n 3, 1) := by decide +kernel
theorem d_M_drop_15 : decode b_M_drop 15 = .ok (.iconst 2, 1) := by decide +kernel
theorem d_M_drop_16 : decode b_M_drop 16 = .ok (.iload_n 1, 1) := by decide +kernel
theorem d_M_drop_17 : decode b_M_drop 17 = .ok (.imul, 1) := by decide +kernel
theorem d_M_drop_18 : decode b_M_drop 18 = .ok (.iconst 1, 1) := by decide +kernel
theorem d_M_drop_19 : decode b_M_drop 19 = .ok (.isub, 1) := by decide +kernel
theorem d_M_drop_20 : decode b_M_drop 20 = .ok (.if_icmp .gt 37, 3) := by decide +kernel
theorem d_M_drop_23 : decode b_M_drop 23 = .ok (.aload_n 0, 1) := by decide +kernel
theorem d_M_drop_24 : decode b_M_drop 24 = .ok (.getfield 17, 3) := by decide +kernel
theorem d_M_drop_27 : decode b_M_drop 27 = .ok (.bipush 10, 2) := by decide +kernel
theorem d_M_drop_29 : decode b_M_drop 29 = .ok (.iload_n 3, 1) := by decide +kernel
theorem d_M_drop_30 : decode b_M_drop 30 = .ok (.imul, 1) := by decide +kernel
theorem d_M_drop_31 : decode b_M_drop 31 = .ok (.iload_n 2, 1) := by decide +kernel
theorem d_M_drop_32 : decode b_M_drop 32 = .ok (.iadd, 1) := by decide +kernel
theorem d_M_drop_33 : decode b_M_drop 33 = .ok (.ldc2_w 46, 3) := by decide +kernel
theorem d_M_drop_36 : decode b_M_drop 36 = .ok (.lastore, 1) := by decide +kernel
theorem d_M_drop_37 : decode b_M_drop 37 = .ok (.aload_n 0, 1) := by decide +kernel
theorem d_M_drop_38 : decode b_M_drop 38 = .ok (.getfield 17, 3) := by decide +kernel
theorem d_M_drop_41 : decode b_M_drop 41 = .ok (.bipush 10, 2) := by decide +kernel
theorem d_M_drop_43 : decode b_M_drop 43 = .ok (.iload_n 2, 1) := by decide +kernel
theorem d_M_drop_44 : decode b_M_drop 44 = .ok (.imul, 1) := by decide +kernel
theorem d_M_drop_45 : decode b_M_drop 45 = .ok (.iload_n 3, 1) := by decide +kernel
theorem d_M_drop_46 : decode b_M_drop 46 = .ok (.iadd, 1) := by decide +kernel
theorem d_M_drop_47 : decode b_M_drop 47 = .ok (.ldc2_w 46, 3) := by decide +kernel
theorem d_M_drop_50 : decode b_M_drop 50 = .ok (.lastore, 1) := by decide +kernel
theorem d_M_drop_51 : decode b_M_drop 51 = .ok (.iinc 3 1, 3) := by decide +kernel
theorem d_M_drop_54 : decode b_M_drop 54 = .ok (.goto (-40), 3) := by decide +kernel
theorem d_M_drop_57 : decode b_M_drop 57 = .ok (.iinc 2 1, 3) := by decide +kernel
theorem d_M_drop_60 : decode b_M_drop 60 = .ok (.goto (-58), 3) := by decide +kernel
theorem d_M_drop_63 : decode b_M_drop 63 = .ok (.return_, 1) := by decide +kernel
theorem d_M_set_0 : decode b_M_set 0 = .ok (.aload_n 0, 1) := by decide +kernel
theorem d_M_set_1 : decode b_M_set 1 = .ok (.aload_n 0, 1) := by decide +kernel
theorem d_M_set_2 : decode b_M_set 2 = .ok (.iload_n 1, 1) := by decide +kernel
theorem d_M_set_3 : decode b_M_set 3 = .ok (.invokevirtual 83, 3) := by decide +kernel
theorem d_M_set_6 : decode b_M_set 6 = .ok (.ifCond .eq 19, 3) := by decide +kernel
theorem d_M_set_9 : decode b_M_set 9 = .ok (.aload_n 0, 1) := by decide +kernel
theorem d_M_set_10 : decode b_M_set 10 = .ok (.iload_n 2, 1) := by decide +kernel
theorem d_M_set_11 : decode b_M_set 11 = .ok (.invokevirtual 132, 3) := by decide +kernel
theorem d_M_set_14 : decode b_M_set 14 = .ok (.ifCond .eq 11, 3) := by decide +kernel
theorem d_M_set_17 : decode b_M_set 17 = .ok (.aload_n 0, 1) := by decide +kernel
theorem d_M_set_18 : decode b_M_set 18 = .ok (.iload_n 3, 1) := by decide +kernel
theorem d_M_set_19 : decode b_M_set 19 = .ok (.invokevirtual 91, 3) := by decide +kernel
theorem d_M_set_22 : decode b_M_set 22 = .ok (.ifCond .ne 7, 3) := by decide +kernel
theorem d_M_set_25 : decode b_M_set 25 = .ok (.iconst 1, 1) := by decide +kernel
theorem d_M_set_26 : decode b_M_set 26 = .ok (.goto 16, 3) := by decide +kernel
theorem d_M_set_29 : decode b_M_set 29 = .ok (.lload 4, 2) := by decide +kernel
theorem d_M_set_31 : decode b_M_set 31 = .ok (.invokestatic 94, 3) := by decide +kernel
theorem d_M_set_34 : decode b_M_set 34 = .ok (.ifCond .ne 7, 3) := by decide +kernel
theorem d_M_set_37 : decode b_M_set 37 = .ok (.iconst 2, 1) := by decide +kernel
theorem d_M_set_38 : decode b_M_set 38 = .ok (.goto 4, 3) := by decide +kernel
theorem d_M_set_41 : decode b_M_set 41 = .ok (.iconst 0, 1) := by decide +kernel
theorem d_M_set_42 : decode b_M_set 42 = .ok (.putfield 48, 3) := by decide +kernel
theorem d_M_set_45 : decode b_M_set 45 = .ok (.aload_n 0, 1) := by decide +kernel
theorem d_M_set_46 : decode b_M_set 46 = .ok (.getfield 48, 3) := by decide +kernel
theorem d_M_set_49 : decode b_M_set 49 = .ok (.ifCond .le 5, 3) := by decide +kernel
theorem d_M_set_52 : decode b_M_set 52 = .ok (.iconst 0, 1) := by decide +kernel
theorem d_M_set_53 : decode b_M_set 53 = .ok (.ireturn, 1) := by decide +kernel
theorem d_M_set_54 : decode b_M_set 54 = .ok (.aload_n 0, 1) := by decide +kernel
theorem d_M_set_55 : decode b_M_set 55 = .ok (.iload_n 1, 1) := by decide +kernel
theorem d_M_set_56 : decode b_M_set 56 = .ok (.invokevirtual 98, 3) := by decide +kernel
theorem d_M_set_59 : decode b_M_set 59 = .ok (.ifCond .ne 10, 3) := by decide +kernel
theorem d_M_set_62 : decode b_M_set 62 = .ok (.aload_n 0, 1) := by decide +kernel
theorem d_M_set_63 : decode b_M_set 63 = .ok (.iload_n 1, 1) := by decide +kernel
theorem d_M_set_64 : decode b_M_set 64 = .ok (.iconst 0, 1) := by decide +kernel
theorem d_M_set_65 : decode b_M_set 65 = .ok (.invokevirtual 114, 3) := by decide +kernel
theorem d_M_set_68 : decode b_M_set 68 = .ok (.ireturn, 1) := by decide +kernel
theorem d_M_set_69 : decode b_M_set 69 = .ok (.iload_n 3, 1) := by decide +kernel
theorem d_M_set_70 : decode b_M_set 70 = .ok (.iload_n 2, 1) := by decide +kernel
theorem d_M_set_71 : decode b_M_set 71 = .ok (.if_icmp .eq 9, 3) := by decide +kernel
theorem d_M_set_74 : decode b_M_set 74 = .ok (.iload_n 3, 1) := by decide +kernel
theorem d_M_set_75 : decode b_M_set 75 = .ok (.iload_n 2, 1) := by decide +kernel
theorem d_M_set_76 : decode b_M_set 76 = .ok (.ineg, 1) := by decide +kernel
theorem d_M_set_77 : decode b_M_set 77 = .ok (.if_icmp .ne 24, 3) := by decide +kernel
theorem d_M_set_80 : decode b_M_set 80 = .ok (.aload_n 0, 1) := by decide +kernel
theorem d_M_set_81 : decode b_M_set 81 = .ok (.iload_n 2, 1) := by decide +kernel
theorem d_M_set_82 : decode b_M_set 82 = .ok (.iload_n 3, 1) := by decide +kernel
theorem d_M_set_83 : decode b_M_set 83 = .ok (.iload_n 2, 1) := by decide +kernel
theorem d_M_set_84 : decode b_M_set 84 = .ok (.ineg, 1) := by decide +kernel
theorem d_M_set_85 : decode b_M_set 85 = .ok (.if_icmp .ne 7, 3) := by decide +kernel
theorem d_M_set_88 : decode b_M_set 88 = .ok (.iconst 1, 1) := by decide +kernel
theorem d_M_set_89 : decode b_M_set 89 = .ok (.goto 4, 3) := by decide +kernel
theorem d_M_set_92 : decode b_M_set 92 = .ok (.iconst 0, 1) := by decide +kernel
theorem d_M_set_93 : decode b_M_set 93 = .ok (.lload 4, 2) := by decide +kernel
theorem d_M_set_95 : decode b_M_set 95 = .ok (.invokevirtual 135, 3) := by decide +kernel
theorem d_M_set_98 : decode b_M_set 98 = .ok (.goto 27, 3) := by decide +kernel
theorem d_M_set_101 : decode b_M_set 101 = .ok (.aload_n 0, 1) := by decide +kernel
theorem d_M_set_102 : decode b_M_set 102 = .ok (.iload_n 2, 1) := by decide +kernel
theorem d_M_set_103 : decode b_M_set 103 = .ok (.invokevirtual 139, 3) := by decide +kernel
theorem d_M_set_106 : decode b_M_set 106 = .ok (.aload_n 0, 1) := by decide +kernel
theorem d_M_set_107 : decode b_M_set 107 = .ok (.iload_n 2, 1) := by decide +kernel
theorem d_M_set_108 : decode b_M_set 108 = .ok (.iload_n 3, 1) := by decide +kernel
theorem d_M_set_109 : decode b_M_set 109 = .ok (.ineg, 1) := by decide +kernel
theorem d_M_set_110 : decode b_M_set 110 = .ok (.lload 4, 2) := by decide +kernel
theorem d_M_set_112 : decode b_M_set 112 = .ok (.invokevirtual 142, 3) := by decide +kernel
theorem d_M_set_115 : decode b_M_set 115 = .ok (.aload_n 0, 1) := by decide +kernel
theorem d_M_set_116 : decode b_M_set 116 = .ok (.iload_n 2, 1) := by decide +kernel
theorem d_M_set_117 : decode b_M_set 117 = .ok (.ineg, 1) := by decide +kernel
theorem d_M_set_118 : decode b_M_set 118 = .ok (.iload_n 3, 1) := by decide +kernel
theorem d_M_set_119 : decode b_M_set 119 = .ok (.lload 4, 2) := by decide +kernel
theorem d_M_set_121 : decode b_M_set 121 = .ok (.lneg, 1) := by decide +kernel
theorem d_M_set_122 : decode b_M_set 122 = .ok (.invokevirtual 142, 3) := by decide +kernel
theorem d_M_set_125 : decode b_M_set 125 = .ok (.aload_n 0, 1) := by decide +kernel
theorem d_M_set_126 : decode b_M_set 126 = .ok (.invokevirtual 69, 3) := by decide +kernel
theorem d_M_set_129 : decode b_M_set 129 = .ok (.istore 6, 2) := by decide +kernel
theorem d_M_set_131 : decode b_M_set 131 = .ok (.aload_n 0, 1) := by decide +kernel
theorem d_M_set_132 : decode b_M_set 132 = .ok (.iload 6, 2) := by decide +kernel
theorem d_M_set_134 : decode b_M_set 134 = .ok (.ifCond .eq 14, 3) := by decide +kernel
theorem d_M_set_137 : decode b_M_set 137 = .ok (.aload_n 0, 1) := by decide +kernel
theorem d_M_set_138 : decode b_M_set 138 = .ok (.invokevirtual 101, 3) := by decide +kernel
theorem d_M_set_141 : decode b_M_set 141 = .ok (.ifCond .eq 7, 3) := by decide +kernel
theorem d_M_set_144 : decode b_M_set 144 = .ok (.iconst 3, 1) := by decide +kernel
theorem d_M_set_145 : decode b_M_set 145 = .ok (.goto 4, 3) := by decide +kernel
theorem d_M_set_148 : decode b_M_set 148 = .ok (.iconst 0, 1) := by decide +kernel
theorem d_M_set_149 : decode b_M_set 149 = .ok (.putfield 48, 3) := by decide +kernel
theorem d_M_set_152 : decode b_M_set 152 = .ok (.aload_n 0, 1) := by decide +kernel
theorem d_M_set_153 : decode b_M_set 153 = .ok (.getfield 48, 3) := by decide +kernel
theorem d_M_set_156 : decode b_M_set 156 = .ok (.ifCond .le 7, 3) := by decide +kernel
theorem d_M_set_159 : decode b_M_set 159 = .ok (.iconst 0, 1) := by decide +kernel
theorem d_M_set_160 : decode b_M_set 160 = .ok (.goto 10, 3) := by decide +kernel
theorem d_M_set_163 : decode b_M_set 163 = .ok (.aload_n 0, 1) := by decide +kernel
theorem d_M_set_164 : decode b_M_set 164 = .ok (.iload_n 1, 1) := by decide +kernel
theorem d_M_set_165 : decode b_M_set 165 = .ok (.iload 6, 2) := by decide +kernel
theorem d_M_set_167 : decode b_M_set 167 = .ok (.invokevirtual 114, 3) := by decide +kernel
theorem d_M_set_170 : decode b_M_set 170 = .ok (.ireturn, 1) := by decide +kernel
theorem d_M_turn_0 : decode b_M_turn 0 = .ok (.iconst 2, 1) := by decide +kernel
theorem d_M_turn_1 : decode b_M_turn 1 = .ok (.iload_n 1, 1) := by decide +kernel
theorem d_M_turn_2 : decode b_M_turn 2 = .ok (.imul, 1) := by decide +kernel
theorem d_M_turn_3 : decode b_M_turn 3 = .ok (.iconst 2, 1) := by decide +kernel
theorem d_M_turn_4 : decode b_M_turn 4 = .ok (.isub, 1) := by decide +kernel
theorem d_M_turn_5 : decode b_M_turn 5 = .ok (.istore 5, 2) := by decide +kernel
theorem d_M_turn_7 : decode b_M_turn 7 = .ok (.iconst 0, 1) := by decide +kernel
theorem d_M_turn_8 : decode b_M_turn 8 = .ok (.istore 6, 2) := by decide +kernel
theorem d_M_turn_10 : decode b_M_turn 10 = .ok (.iload 6, 2) := by decide +kernel
theorem d_M_turn_12 : decode b_M_turn 12 = .ok (.bipush 100, 2) := by decide +kernel
theorem d_M_turn_14 : decode b_M_turn 14 = .ok (.if_icmp .ge 23, 3) := by decide +kernel
theorem d_M_turn_17 : decode b_M_turn 17 = .ok (.aload_n 0, 1) := by decide +kernel
theorem d_M_turn_18 : decode b_M_turn 18 = .ok (.getfield 20, 3) := by decide +kernel
theorem d_M_turn_21 : decode b_M_turn 21 = .ok (.iload 6, 2) := by decide +kernel
theorem d_M_turn_23 : decode b_M_turn 23 = .ok (.aload_n 0, 1) := by decide +kernel
theorem d_M_turn_24 : decode b_M_turn 24 = .ok (.getfield 17, 3) := by decide +kernel
theorem d_M_turn_27 : decode b_M_turn 27 = .ok (.iload 6, 2) := by decide +kernel
theorem d_M_turn_29 : decode b_M_turn 29 = .ok (.laload, 1) := by decide +kernel
theorem d_M_turn_30 : decode b_M_turn 30 = .ok (.lastore, 1) := by decide +kernel
theorem d_M_turn_31 : decode b_M_turn 31 = .ok (.iinc 6 1, 3) := by decide +kernel
theorem d_M_turn_34 : decode b_M_turn 34 = .ok (.goto (-24), 3) := by decide +kernel
theorem d_M_turn_37 : decode b_M_turn 37 = .ok (.iconst 0, 1) := by decide +kernel
theorem d_M_turn_38 : decode b_M_turn 38 = .ok (.istore 6, 2) := by decide +kernel
theorem d_M_turn_40 : decode b_M_turn 40 = .ok (.iload 6, 2) := by decide +kernel
theorem d_M_turn_42 : decode b_M_turn 42 = .ok (.bipush 10, 2) := by decide +kernel
theorem d_M_turn_44 : decode b_M_turn 44 = .ok (.if_icmp .ge 175, 3) := by decide +kernel
theorem d_M_turn_47 : decode b_M_turn 47 = .ok (.iconst 0, 1) := by decide +kernel
theorem d_M_turn_48 : decode b_M_turn 48 = .ok (.istore 7, 2) := by decide +kernel
theorem d_M_turn_50 : decode b_M_turn 50 = .ok (.iload 7, 2) := by decide +kernel
theorem d_M_turn_52 : decode b_M_turn 52 = .ok (.bipush 10, 2) := by decide +kernel
theorem d_M_turn_54 : decode b_M_turn 54 = .ok (.if_icmp .ge 159, 3) := by decide +kernel
theorem d_M_turn_57 : decode b_M_turn 57 = .ok (.iload_n 2, 1) := by decide +kernel
theorem d_M_turn_58 : decode b_M_turn 58 = .ok (.ifCond .eq 27, 3) := by decide +kernel
theorem d_M_turn_61 : decode b_M_turn 61 = .ok (.iload 6, 2) := by decide +kernel
theorem d_M_turn_63 : decode b_M_turn 63 = .ok (.iload 5, 2) := by decide +kernel
theorem d_M_turn_65 : decode b_M_turn 65 = .ok (.if_icmp .eq 12, 3) := by decide +kernel
theorem d_M_turn_68 : decode b_M_turn 68 = .ok (.iload 6, 2) := by decide +kernel
theorem d_M_turn_70 : decode b_M_turn 70 = .ok (.iload 5, 2) := by decide +kernel
theorem d_M_turn_72 : decode b_M_turn 72 = .ok (.iconst 1, 1) := by decide +kernel
theorem d_M_turn_73 : decode b_M_turn 73 = .ok (.iadd, 1) := by decide +kernel
theorem d_M_turn_74 : decode b_M_turn 74 = .ok (.if_icmp .ne 11, 3) := by decide +kernel
theorem d_M_turn_77 : decode b_M_turn 77 = .ok (.iload 6, 2) := by decide +kernel
theorem d_M_turn_79 : decode b_M_turn 79 = .ok (.invokestatic 53, 3) := by decide +kernel
theorem d_M_turn_82 : decode b_M_turn 82 = .ok (.goto 5, 3) := by decide +kernel
theorem d_M_turn_85 : decode b_M_turn 85 = .ok (.iload 6, 2) := by decide +kernel
theorem d_M_turn_87 : decode b_M_turn 87 = .ok (.istore 8, 2) := by decide +kernel
theorem d_M_turn_89 : decode b_M_turn 89 = .ok (.iload_n 2, 1) := by decide +kernel
theorem d_M_turn_90 : decode b_M_turn 90 = .ok (.ifCond .eq 27, 3) := by decide +kernel
theorem d_M_turn_93 : decode b_M_turn 93 = .ok (.iload 7, 2) := by decide +kernel
theorem d_M_turn_95 : decode b_M_turn 95 = .ok (.iload 5, 2) := by decide +kernel
theorem d_M_turn_97 : decode b_M_turn 97 = .ok (.if_icmp .eq 12, 3) := by decide +kernel
theorem d_M_turn_100 : decode b_M_turn 100 = .ok (.iload 7, 2) := by decide +kernel
theorem d_M_turn_102 : decode b_M_turn 102 = .ok (.iload 5, 2) := by decide +kernel
theorem d_M_turn_104 : decode b_M_turn 104 = .ok (.iconst 1, 1) := by decide +kernel
theorem d_M_turn_105 : decode b_M_turn 105 = .ok (.iadd, 1) := by decide +kernel
theorem d_M_turn_106 : decode b_M_turn 106 = .ok (.if_icmp .ne 11, 3) := by decide +kernel
theorem d_M_turn_109 : decode b_M_turn 109 = .ok (.iload 7, 2) := by decide +kernel
theorem d_M_turn_111 : decode b_M_turn 111 = .ok (.invokestatic 53, 3) := by decide +kernel
theorem d_M_turn_114 : decode b_M_turn 114 = .ok (.goto 5, 3) := by decide +kernel
theorem d_M_turn_117 : decode b_M_turn 117 = .ok (.iload 7, 2) := by decide +kernel
theorem d_M_turn_119 : decode b_M_turn 119 = .ok (.istore 9, 2) := by decide +kernel
theorem d_M_turn_121 : decode b_M_turn 121 = .ok (.iload 6, 2) := by decide +kernel
theorem d_M_turn_123 : decode b_M_turn 123 = .ok (.iload 5, 2) := by decide +kernel
theorem d_M_turn_125 : decode b_M_turn 125 = .ok (.if_icmp .ne 7, 3) := by decide +kernel
theorem d_M_turn_128 : decode b_M_turn 128 = .ok (.lload_n 3, 1) := by decide +kernel
theorem d_M_turn_129 : decode b_M_turn 129 = .ok (.goto 18, 3) := by decide +kernel
theorem d_M_turn_132 : decode b_M_turn 132 = .ok (.iload 6, 2) := by decide +kernel
theorem d_M_turn_134 : decode b_M_turn 134 = .ok (.iload 5, 2) := by decide +kernel
theorem d_M_turn_136 : decode b_M_turn 136 = .ok (.iconst 1, 1) := by decide +kernel
theorem d_M_turn_137 : decode b_M_turn 137 = .ok (.iadd, 1) := by decide +kernel
theorem d_M_turn_138 : decode b_M_turn 138 = .ok (.if_icmp .ne 8, 3) := by decide +kernel
theorem d_M_turn_141 : decode b_M_turn 141 = .ok (.lload_n 3, 1) := by decide +kernel
theorem d_M_turn_142 : decode b_M_turn 142 = .ok (.lneg, 1) := by decide +kernel
theorem d_M_turn_143 : decode b_M_turn 143 = .ok (.goto 4, 3) := by decide +kernel
theorem d_M_turn_146 : decode b_M_turn 146 = .ok (.lconst 0, 1) := by decide +kernel
theorem d_M_turn_147 : decode b_M_turn 147 = .ok (.iload 7, 2) := by decide +kernel
theorem d_M_turn_149 : decode b_M_turn 149 = .ok (.iload 5, 2) := by decide +kernel
theorem d_M_turn_151 : decode b_M_turn 151 = .ok (.if_icmp .ne 7, 3) := by decide +kernel
theorem d_M_turn_154 : decode b_M_turn 154 = .ok (.lload_n 3, 1) := by decide +kernel
theorem d_M_turn_155 : decode b_M_turn 155 = .ok (.goto 18, 3) := by decide +kernel
theorem d_M_turn_158 : decode b_M_turn 158 = .ok (.iload 7, 2) := by decide +kernel
theorem d_M_turn_160 : decode b_M_turn 160 = .ok (.iload 5, 2) := by decide +kernel
theorem d_M_turn_162 : decode b_M_turn 162 = .ok (.iconst 1, 1) := by decide +kernel
theorem d_M_turn_163 : decode b_M_turn 163 = .ok (.iadd, 1) := by decide +kernel
theorem d_M_turn_164 : decode b_M_turn 164 = .ok (.if_icmp .ne 8, 3) := by decide +kernel
theorem d_M_turn_167 : decode b_M_turn 167 = .ok (.lload_n 3, 1) := by decide +kernel
theorem d_M_turn_168 : decode b_M_turn 168 = .ok (.lneg, 1) := by decide +kernel
theorem d_M_turn_169 : decode b_M_turn 169 = .ok (.goto 4, 3) := by decide +kernel
theorem d_M_turn_172 : decode b_M_turn 172 = .ok (.lconst 0, 1) := by decide +kernel
theorem d_M_turn_173 : decode b_M_turn 173 = .ok (.ladd, 1) := by decide +kernel
theorem d_M_turn_174 : decode b_M_turn 174 = .ok (.lstore 10, 2) := by decide +kernel
theorem d_M_turn_176 : decode b_M_turn 176 = .ok (.aload_n 0, 1) := by decide +kernel
theorem d_M_turn_177 : decode b_M_turn 177 = .ok (.getfield 17, 3) := by decide +kernel
theorem d_M_turn_180 : decode b_M_turn 180 = .ok (.bipush 10, 2) := by decide +kernel
theorem d_M_turn_182 : decode b_M_turn 182 = .ok (.iload 6, 2) := by decide +kernel
theorem d_M_turn_184 : decode b_M_turn 184 = .ok (.imul, 1) := by decide +kernel
theorem d_M_turn_185 : decode b_M_turn 185 = .ok (.iload 7, 2) := by decide +kernel
theorem d_M_turn_187 : decode b_M_turn 187 = .ok (.iadd, 1) := by decide +kernel
theorem d_M_turn_188 : decode b_M_turn 188 = .ok (.aload_n 0, 1) := by decide +kernel
theorem d_M_turn_189 : decode b_M_turn 189 = .ok (.getfield 20, 3) := by decide +kernel
theorem d_M_turn_192 : decode b_M_turn 192 = .ok (.bipush 10, 2) := by decide +kernel
theorem d_M_turn_194 : decode b_M_turn 194 = .ok (.iload 8, 2) := by decide +kernel
theorem d_M_turn_196 : decode b_M_turn 196 = .ok (.imul, 1) := by decide +kernel
theorem d_M_turn_197 : decode b_M_turn 197 = .ok (.iload 9, 2) := by decide +kernel
theorem d_M_turn_199 : decode b_M_turn 199 = .ok (.iadd, 1) := by decide +kernel
theorem d_M_turn_200 : decode b_M_turn 200 = .ok (.laload, 1) := by decide +kernel
theorem d_M_turn_201 : decode b_M_turn 201 = .ok (.lload 10, 2) := by decide +kernel
theorem d_M_turn_203 : decode b_M_turn 203 = .ok (.invokestatic 57, 3) := by decide +kernel
theorem d_M_turn_206 : decode b_M_turn 206 = .ok (.lastore, 1) := by decide +kernel
theorem d_M_turn_207 : decode b_M_turn 207 = .ok (.iinc 7 1, 3) := by decide +kernel
theorem d_M_turn_210 : decode b_M_turn 210 = .ok (.goto (-160), 3) := by decide +kernel
theorem d_M_turn_213 : decode b_M_turn 213 = .ok (.iinc 6 1, 3) := by decide +kernel
theorem d_M_turn_216 : decode b_M_turn 216 = .ok (.goto (-176), 3) := by decide +kernel
theorem d_M_turn_219 : decode b_M_turn 219 = .ok (.return_, 1) := by decide +kernel
theorem d_M_forget_0 : decode b_M_forget 0 = .ok (.aload_n 0, 1) := by decide +kernel
theorem d_M_forget_1 : decode b_M_forget 1 = .ok (.aload_n 0, 1) := by decide +kernel
theorem d_M_forget_2 : decode b_M_forget 2 = .ok (.iload_n 1, 1) := by decide +kernel
theorem d_M_forget_3 : decode b_M_forget 3 = .ok (.invokevirtual 83, 3) := by decide +kernel
theorem d_M_forget_6 : decode b_M_forget 6 = .ok (.ifCond .eq 15, 3) := by decide +kernel
theorem d_M_forget_9 : decode b_M_forget 9 = .ok (.aload_n 0, 1) := by decide +kernel
theorem d_M_forget_10 : decode b_M_forget 10 = .ok (.iload_n 2, 1) := by decide +kernel
theorem d_M_forget_11 : decode b_M_forget 11 = .ok (.invokevirtual 132, 3) := by decide +kernel
theorem d_M_forget_14 : decode b_M_forget 14 = .ok (.ifCond .eq 7, 3) := by decide +kernel
theorem d_M_forget_17 : decode b_M_forget 17 = .ok (.iconst 0, 1) := by decide +kernel
theorem d_M_forget_18 : decode b_M_forget 18 = .ok (.goto 4, 3) := by decide +kernel
theorem d_M_forget_21 : decode b_M_forget 21 = .ok (.iconst 1, 1) := by decide +kernel
theorem d_M_forget_22 : decode b_M_forget 22 = .ok (.putfield 48, 3) := by decide +kernel
theorem d_M_forget_25 : decode b_M_forget 25 = .ok (.aload_n 0, 1) := by decide +kernel
theorem d_M_forget_26 : decode b_M_forget 26 = .ok (.getfield 48, 3) := by decide +kernel
theorem d_M_forget_29 : decode b_M_forget 29 = .ok (.ifCond .le 5, 3) := by decide +kernel
theorem d_M_forget_32 : decode b_M_forget 32 = .ok (.iconst 0, 1) := by decide +kernel
theorem d_M_forget_33 : decode b_M_forget 33 = .ok (.ireturn, 1) := by decide +kernel
theorem d_M_forget_34 : decode b_M_forget 34 = .ok (.aload_n 0, 1) := by decide +kernel
theorem d_M_forget_35 : decode b_M_forget 35 = .ok (.iload_n 1, 1) := by decide +kernel
theorem d_M_forget_36 : decode b_M_forget 36 = .ok (.invokevirtual 98, 3) := by decide +kernel
theorem d_M_forget_39 : decode b_M_forget 39 = .ok (.ifCond .ne 10, 3) := by decide +kernel
theorem d_M_forget_42 : decode b_M_forget 42 = .ok (.aload_n 0, 1) := by decide +kernel
theorem d_M_forget_43 : decode b_M_forget 43 = .ok (.iload_n 1, 1) := by decide +kernel
theorem d_M_forget_44 : decode b_M_forget 44 = .ok (.iconst 0, 1) := by decide +kernel
theorem d_M_forget_45 : decode b_M_forget 45 = .ok (.invokevirtual 114, 3) := by decide +kernel
theorem d_M_forget_48 : decode b_M_forget 48 = .ok (.ireturn, 1) := by decide +kernel
theorem d_M_forget_49 : decode b_M_forget 49 = .ok (.aload_n 0, 1) := by decide +kernel
theorem d_M_forget_50 : decode b_M_forget 50 = .ok (.iload_n 2, 1) := by decide +kernel
theorem d_M_forget_51 : decode b_M_forget 51 = .ok (.invokevirtual 139, 3) := by decide +kernel
theorem d_M_forget_54 : decode b_M_forget 54 = .ok (.aload_n 0, 1) := by decide +kernel
theorem d_M_forget_55 : decode b_M_forget 55 = .ok (.iload_n 1, 1) := by decide +kernel
theorem d_M_forget_56 : decode b_M_forget 56 = .ok (.aload_n 0, 1) := by decide +kernel
theorem d_M_forget_57 : decode b_M_forget 57 = .ok (.invokevirtual 69, 3) := by decide +kernel
theorem d_M_forget_60 : decode b_M_forget 60 = .ok (.invokevirtual 114, 3) := by decide +kernel
theorem d_M_forget_63 : decode b_M_forget 63 = .ok (.ireturn, 1) := by decide +kernel
theorem d_M_within_0 : decode b_M_within 0 = .ok (.aload_n 0, 1) := by decide +kernel
theorem d_M_within_1 : decode b_M_within 1 = .ok (.aload_n 0, 1) := by decide +kernel
theorem d_M_within_2 : decode b_M_within 2 = .ok (.iload_n 1, 1) := by decide +kernel
theorem d_M_within_3 : decode b_M_within 3 = .ok (.invokevirtual 83, 3) := by decide +kernel
theorem d_M_within_6 : decode b_M_within 6 = .ok (.ifCond .eq 15, 3) := by decide +kernel
theorem d_M_within_9 : decode b_M_within 9 = .ok (.aload_n 0, 1) := by decide +kernel
theorem d_M_within_10 : decode b_M_within 10 = .ok (.iload_n 2, 1) := by decide +kernel
theorem d_M_within_11 : decode b_M_within 11 = .ok (.invokevirtual 83, 3) := by decide +kernel
theorem d_M_within_14 : decode b_M_within 14 = .ok (.ifCond .eq 7, 3) := by decide +kernel
theorem d_M_within_17 : decode b_M_within 17 = .ok (.iconst 0, 1) := by decide +kernel
theorem d_M_within_18 : decode b_M_within 18 = .ok (.goto 4, 3) := by decide +kernel
theorem d_M_within_21 : decode b_M_within 21 = .ok (.iconst 1, 1) := by decide +kernel
theorem d_M_within_22 : decode b_M_within 22 = .ok (.putfield 48, 3) := by decide +kernel
theorem d_M_within_25 : decode b_M_within 25 = .ok (.aload_n 0, 1) := by decide +kernel
theorem d_M_within_26 : decode b_M_within 26 = .ok (.getfield 48, 3) := by decide +kernel
theorem d_M_within_29 : decode b_M_within 29 = .ok (.ifCond .le 5, 3) := by decide +kernel
theorem d_M_within_32 : decode b_M_within 32 = .ok (.iconst 0, 1) := by decide +kernel
theorem d_M_within_33 : decode b_M_within 33 = .ok (.ireturn, 1) := by decide +kernel
theorem d_M_within_34 : decode b_M_within 34 = .ok (.aload_n 0, 1) := by decide +kernel
theorem d_M_within_35 : decode b_M_within 35 = .ok (.iload_n 1, 1) := by decide +kernel
theorem d_M_within_36 : decode b_M_within 36 = .ok (.invokevirtual 98, 3) := by decide +kernel
theorem d_M_within_39 : decode b_M_within 39 = .ok (.ifCond .ne 5, 3) := by decide +kernel
theorem d_M_within_42 : decode b_M_within 42 = .ok (.iconst 1, 1) := by decide +kernel
theorem d_M_within_43 : decode b_M_within 43 = .ok (.ireturn, 1) := by decide +kernel
theorem d_M_within_44 : decode b_M_within 44 = .ok (.aload_n 0, 1) := by decide +kernel
theorem d_M_within_45 : decode b_M_within 45 = .ok (.getfield 13, 3) := by decide +kernel
theorem d_M_within_48 : decode b_M_within 48 = .ok (.iload_n 2, 1) := by decide +kernel
theorem d_M_within_49 : decode b_M_within 49 = .ok (.baload, 1) := by decide +kernel
theorem d_M_within_50 : decode b_M_within 50 = .ok (.ifCond .ne 7, 3) := by decide +kernel
theorem d_M_within_53 : decode b_M_within 53 = .ok (.iconst 1, 1) := by decide +kernel
theorem d_M_within_54 : decode b_M_within 54 = .ok (.goto 4, 3) := by decide +kernel
theorem d_M_within_57 : decode b_M_within 57 = .ok (.iconst 0, 1) := by decide +kernel
theorem d_M_within_58 : decode b_M_within 58 = .ok (.istore_n 3, 1) := by decide +kernel
theorem d_M_within_59 : decode b_M_within 59 = .ok (.iconst 0, 1) := by decide +kernel
theorem d_M_within_60 : decode b_M_within 60 = .ok (.istore 4, 2) := by decide +kernel
theorem d_M_within_62 : decode b_M_within 62 = .ok (.iload 4, 2) := by decide +kernel
theorem d_M_within_64 : decode b_M_within 64 = .ok (.iconst 2, 1) := by decide +kernel
theorem d_M_within_65 : decode b_M_within 65 = .ok (.aload_n 0, 1) := by decide +kernel
theorem d_M_within_66 : decode b_M_within 66 = .ok (.getfield 42, 3) := by decide +kernel
theorem d_M_within_69 : decode b_M_within 69 = .ok (.imul, 1) := by decide +kernel
theorem d_M_within_70 : decode b_M_within 70 = .ok (.if_icmp .ge 107, 3) := by decide +kernel
theorem d_M_within_73 : decode b_M_within 73 = .ok (.iconst 0, 1) := by decide +kernel
theorem d_M_within_74 : decode b_M_within 74 = .ok (.istore 5, 2) := by decide +kernel
theorem d_M_within_76 : decode b_M_within 76 = .ok (.iload 5, 2) := by decide +kernel
theorem d_M_within_78 : decode b_M_within 78 = .ok (.iconst 2, 1) := by decide +kernel
theorem d_M_within_79 : decode b_M_within 79 = .ok (.aload_n 0, 1) := by decide +kernel
theorem d_M_within_80 : decode b_M_within 80 = .ok (.getfield 42, 3) := by decide +kernel
theorem d_M_within_83 : decode b_M_within 83 = .ok (.imul, 1) := by decide +kernel
theorem d_M_within_84 : decode b_M_within 84 = .ok (.if_icmp .ge 87, 3) := by decide +kernel
theorem d_M_within_87 : decode b_M_within 87 = .ok (.aload_n 0, 1) := by decide +kernel
theorem d_M_within_88 : decode b_M_within 88 = .ok (.getfield 7, 3) := by decide +kernel
theorem d_M_within_91 : decode b_M_within 91 = .ok (.bipush 100, 2) := by decide +kernel
theorem d_M_within_93 : decode b_M_within 93 = .ok (.iload_n 2, 1) := by decide +kernel
theorem d_M_within_94 : decode b_M_within 94 = .ok (.imul, 1) := by decide +kernel
theorem d_M_within_95 : decode b_M_within 95 = .ok (.bipush 10, 2) := by decide +kernel
theorem d_M_within_97 : decode b_M_within 97 = .ok (.iload 4, 2) := by decide +kernel
theorem d_M_within_99 : decode b_M_within 99 = .ok (.imul, 1) := by decide +kernel
theorem d_M_within_100 : decode b_M_within 100 = .ok (.iadd, 1) := by decide +kernel
theorem d_M_within_101 : decode b_M_within 101 = .ok (.iload 5, 2) := by decide +kernel
theorem d_M_within_103 : decode b_M_within 103 = .ok (.iadd, 1) := by decide +kernel
theorem d_M_within_104 : decode b_M_within 104 = .ok (.laload, 1) := by decide +kernel
theorem d_M_within_105 : decode b_M_within 105 = .ok (.lstore 6, 2) := by decide +kernel
theorem d_M_within_107 : decode b_M_within 107 = .ok (.iload 4, 2) := by decide +kernel
theorem d_M_within_109 : decode b_M_within 109 = .ok (.iload 5, 2) := by decide +kernel
theorem d_M_within_111 : decode b_M_within 111 = .ok (.if_icmp .ne 21, 3) := by decide +kernel
theorem d_M_within_114 : decode b_M_within 114 = .ok (.lload 6, 2) := by decide +kernel
theorem d_M_within_116 : decode b_M_within 116 = .ok (.ldc2_w 46, 3) := by decide +kernel
theorem d_M_within_119 : decode b_M_within 119 = .ok (.lcmp, 1) := by decide +kernel
theorem d_M_within_120 : decode b_M_within 120 = .ok (.ifCond .eq 12, 3) := by decide +kernel
theorem d_M_within_123 : decode b_M_within 123 = .ok (.ldc2_w 51, 3) := by decide +kernel
theorem d_M_within_126 : decode b_M_within 126 = .ok (.lload 6, 2) := by decide +kernel
theorem d_M_within_128 : decode b_M_within 128 = .ok (.lmul, 1) := by decide +kernel
theorem d_M_within_129 : decode b_M_within 129 = .ok (.goto 5, 3) := by decide +kernel
theorem d_M_within_132 : decode b_M_within 132 = .ok (.lload 6, 2) := by decide +kernel
theorem d_M_within_134 : decode b_M_within 134 = .ok (.lstore 8, 2) := by decide +kernel
theorem d_M_within_136 : decode b_M_within 136 = .ok (.iload_n 3, 1) := by decide +kernel
theorem d_M_within_137 : decode b_M_within 137 = .ok (.ifCond .eq 26, 3) := by decide +kernel
theorem d_M_within_140 : decode b_M_within 140 = .ok (.aload_n 0, 1) := by decide +kernel
theorem d_M_within_141 : decode b_M_within 141 = .ok (.getfield 17, 3) := by decide +kernel
theorem d_M_within_144 : decode b_M_within 144 = .ok (.bipush 10, 2) := by decide +kernel
theorem d_M_within_146 : decode b_M_within 146 = .ok (.iload 4, 2) := by decide +kernel
theorem d_M_within_148 : decode b_M_within 148 = .ok (.imul, 1) := by decide +kernel
theorem d_M_within_149 : decode b_M_within 149 = .ok (.iload 5, 2) := by decide +kernel
theorem d_M_within_151 : decode b_M_within 151 = .ok (.iadd, 1) := by decide +kernel
theorem d_M_within_152 : decode b_M_within 152 = .ok (.laload, 1) := by decide +kernel
theorem d_M_within_153 : decode b_M_within 153 = .ok (.lload 8, 2) := by decide +kernel
theorem d_M_within_155 : decode b_M_within 155 = .ok (.lcmp, 1) := by decide +kernel
theorem d_M_within_156 : decode b_M_within 156 = .ok (.ifCond .gt 7, 3) := by decide +kernel
theorem d_M_within_159 : decode b_M_within 159 = .ok (.iconst 1, 1) := by decide +kernel
theorem d_M_within_160 : decode b_M_within 160 = .ok (.goto 4, 3) := by decide +kernel
theorem d_M_within_163 : decode b_M_within 163 = .ok (.iconst 0, 1) := by decide +kernel
theorem d_M_within_164 : decode b_M_within 164 = .ok (.istore_n 3, 1) := by decide +kernel
theorem d_M_within_165 : decode b_M_within 165 = .ok (.iinc 5 1, 3) := by decide +kernel
theorem d_M_within_168 : decode b_M_within 168 = .ok (.goto (-92), 3) := by decide +kernel
theorem d_M_within_171 : decode b_M_within 171 = .ok (.iinc 4 1, 3) := by decide +kernel
theorem d_M_within_174 : decode b_M_within 174 = .ok (.goto (-112), 3) := by decide +kernel
theorem d_M_within_177 : decode b_M_within 177 = .ok (.iload_n 3, 1) := by decide +kernel
theorem d_M_within_178 : decode b_M_within 178 = .ok (.ireturn, 1) := by decide +kernel
theorem d_M_put_0 : decode b_M_put 0 = .ok (.aload_n 0, 1) := by decide +kernel
theorem d_M_put_1 : decode b_M_put 1 = .ok (.aload_n 0, 1) := by decide +kernel
theorem d_M_put_2 : decode b_M_put 2 = .ok (.iload_n 1, 1) := by decide +kernel
theorem d_M_put_3 : decode b_M_put 3 = .ok (.invokevirtual 132, 3) := by decide +kernel
theorem d_M_put_6 : decode b_M_put 6 = .ok (.ifCond .ne 7, 3) := by decide +kernel
theorem d_M_put_9 : decode b_M_put 9 = .ok (.iconst 1, 1) := by decide +kernel
theorem d_M_put_10 : decode b_M_put 10 = .ok (.goto 15, 3) := by decide +kernel
theorem d_M_put_13 : decode b_M_put 13 = .ok (.lload_n 2, 1) := by decide +kernel
theorem d_M_put_14 : decode b_M_put 14 = .ok (.invokestatic 94, 3) := by decide +kernel
theorem d_M_put_17 : decode b_M_put 17 = .ok (.ifCond .ne 7, 3) := by decide +kernel
theorem d_M_put_20 : decode b_M_put 20 = .ok (.iconst 2, 1) := by decide +kernel
theorem d_M_put_21 : decode b_M_put 21 = .ok (.goto 4, 3) := by decide +kernel
theorem d_M_put_24 : decode b_M_put 24 = .ok (.iconst 0, 1) := by decide +kernel
theorem d_M_put_25 : decode b_M_put 25 = .ok (.putfield 48, 3) := by decide +kernel
theorem d_M_put_28 : decode b_M_put 28 = .ok (.aload_n 0, 1) := by decide +kernel
theorem d_M_put_29 : decode b_M_put 29 = .ok (.getfield 48, 3) := by decide +kernel
theorem d_M_put_32 : decode b_M_put 32 = .ok (.ifCond .le 5, 3) := by decide +kernel
theorem d_M_put_35 : decode b_M_put 35 = .ok (.lconst 0, 1) := by decide +kernel
theorem d_M_put_36 : decode b_M_put 36 = .ok (.lreturn, 1) := by decide +kernel
theorem d_M_put_37 : decode b_M_put 37 = .ok (.aload_n 0, 1) := by decide +kernel
theorem d_M_put_38 : decode b_M_put 38 = .ok (.getfield 26, 3) := by decide +kernel
theorem d_M_put_41 : decode b_M_put 41 = .ok (.iload_n 1, 1) := by decide +kernel
theorem d_M_put_42 : decode b_M_put 42 = .ok (.laload, 1) := by decide +kernel
theorem d_M_put_43 : decode b_M_put 43 = .ok (.lstore 4, 2) := by decide +kernel
theorem d_M_put_45 : decode b_M_put 45 = .ok (.aload_n 0, 1) := by decide +kernel
theorem d_M_put_46 : decode b_M_put 46 = .ok (.getfield 26, 3) := by decide +kernel
theorem d_M_put_49 : decode b_M_put 49 = .ok (.iload_n 1, 1) := by decide +kernel
theorem d_M_put_50 : decode b_M_put 50 = .ok (.lload_n 2, 1) := by decide +kernel
theorem d_M_put_51 : decode b_M_put 51 = .ok (.lastore, 1) := by decide +kernel
theorem d_M_put_52 : decode b_M_put 52 = .ok (.lload 4, 2) := by decide +kernel
theorem d_M_put_54 : decode b_M_put 54 = .ok (.lreturn, 1) := by decide +kernel
theorem d_M_point_0 : decode b_M_point 0 = .ok (.aload_n 0, 1) := by decide +kernel
theorem d_M_point_1 : decode b_M_point 1 = .ok (.aload_n 0, 1) := by decide +kernel
theorem d_M_point_2 : decode b_M_point 2 = .ok (.iload_n 1, 1) := by decide +kernel
theorem d_M_point_3 : decode b_M_point 3 = .ok (.invokevirtual 132, 3) := by decide +kernel
theorem d_M_point_6 : decode b_M_point 6 = .ok (.ifCond .eq 7, 3) := by decide +kernel
theorem d_M_point_9 : decode b_M_point 9 = .ok (.iconst 0, 1) := by decide +kernel
theorem d_M_point_10 : decode b_M_point 10 = .ok (.goto 4, 3) := by decide +kernel
theorem d_M_point_13 : decode b_M_point 13 = .ok (.iconst 1, 1) := by decide +kernel
theorem d_M_point_14 : decode b_M_point 14 = .ok (.putfield 48, 3) := by decide +kernel
theorem d_M_point_17 : decode b_M_point 17 = .ok (.aload_n 0, 1) := by decide +kernel
theorem d_M_point_18 : decode b_M_point 18 = .ok (.getfield 48, 3) := by decide +kernel
theorem d_M_point_21 : decode b_M_point 21 = .ok (.ifCond .le 7, 3) := by decide +kernel
theorem d_M_point_24 : decode b_M_point 24 = .ok (.lconst 0, 1) := by decide +kernel
theorem d_M_point_25 : decode b_M_point 25 = .ok (.goto 9, 3) := by decide +kernel
theorem d_M_point_28 : decode b_M_point 28 = .ok (.aload_n 0, 1) := by decide +kernel
theorem d_M_point_29 : decode b_M_point 29 = .ok (.getfield 26, 3) := by decide +kernel
theorem d_M_point_32 : decode b_M_point 32 = .ok (.iload_n 1, 1) := by decide +kernel
theorem d_M_point_33 : decode b_M_point 33 = .ok (.laload, 1) := by decide +kernel
theorem d_M_point_34 : decode b_M_point 34 = .ok (.lreturn, 1) := by decide +kernel
theorem d_M_valueAt_0 : decode b_M_valueAt 0 = .ok (.iload_n 1, 1) := by decide +kernel
theorem d_M_valueAt_1 : decode b_M_valueAt 1 = .ok (.iconst 2, 1) := by decide +kernel
theorem d_M_valueAt_2 : decode b_M_valueAt 2 = .ok (.irem, 1) := by decide +kernel
theorem d_M_valueAt_3 : decode b_M_valueAt 3 = .ok (.ifCond .ne 16, 3) := by decide +kernel
theorem d_M_valueAt_6 : decode b_M_valueAt 6 = .ok (.aload_n 0, 1) := by decide +kernel
theorem d_M_valueAt_7 : decode b_M_valueAt 7 = .ok (.getfield 26, 3) := by decide +kernel
theorem d_M_valueAt_10 : decode b_M_valueAt 10 = .ok (.iload_n 1, 1) := by decide +kernel
theorem d_M_valueAt_11 : decode b_M_valueAt 11 = .ok (.iconst 2, 1) := by decide +kernel
theorem d_M_valueAt_12 : decode b_M_valueAt 12 = .ok (.idiv, 1) := by decide +kernel
theorem d_M_valueAt_13 : decode b_M_valueAt 13 = .ok (.iconst 1, 1) := by decide +kernel
theorem d_M_valueAt_14 : decode b_M_valueAt 14 = .ok (.iadd, 1) := by decide +kernel
theorem d_M_valueAt_15 : decode b_M_valueAt 15 = .ok (.laload, 1) := by decide +kernel
theorem d_M_valueAt_16 : decode b_M_valueAt 16 = .ok (.goto 14, 3) := by decide +kernel
theorem d_M_valueAt_19 : decode b_M_valueAt 19 = .ok (.aload_n 0, 1) := by decide +kernel
theorem d_M_valueAt_20 : decode b_M_valueAt 20 = .ok (.getfield 26, 3) := by decide +kernel
theorem d_M_valueAt_23 : decode b_M_valueAt 23 = .ok (.iload_n 1, 1) := by decide +kernel
theorem d_M_valueAt_24 : decode b_M_valueAt 24 = .ok (.iconst 2, 1) := by decide +kernel
theorem d_M_valueAt_25 : decode b_M_valueAt 25 = .ok (.idiv, 1) := by decide +kernel
theorem d_M_valueAt_26 : decode b_M_valueAt 26 = .ok (.iconst 1, 1) := by decide +kernel
theorem d_M_valueAt_27 : decode b_M_valueAt 27 = .ok (.iadd, 1) := by decide +kernel
theorem d_M_valueAt_28 : decode b_M_valueAt 28 = .ok (.laload, 1) := by decide +kernel
theorem d_M_valueAt_29 : decode b_M_valueAt 29 = .ok (.lneg, 1) := by decide +kernel
theorem d_M_valueAt_30 : decode b_M_valueAt 30 = .ok (.lreturn, 1) := by decide +kernel
theorem d_M_has_0 : decode b_M_has 0 = .ok (.aload_n 0, 1) := by decide +kernel
theorem d_M_has_1 : decode b_M_has 1 = .ok (.aload_n 0, 1) := by decide +kernel
theorem d_M_has_2 : decode b_M_has 2 = .ok (.iload_n 1, 1) := by decide +kernel
theorem d_M_has_3 : decode b_M_has 3 = .ok (.invokevirtual 83, 3) := by decide +kernel
theorem d_M_has_6 : decode b_M_has 6 = .ok (.ifCond .eq 7, 3) := by decide +kernel
theorem d_M_has_9 : decode b_M_has 9 = .ok (.iconst 0, 1) := by decide +kernel
theorem d_M_has_10 : decode b_M_has 10 = .ok (.goto 4, 3) := by decide +kernel
theorem d_M_has_13 : decode b_M_has 13 = .ok (.iconst 1, 1) := by decide +kernel
theorem d_M_has_14 : decode b_M_has 14 = .ok (.putfield 48, 3) := by decide +kernel
theorem d_M_has_17 : decode b_M_has 17 = .ok (.aload_n 0, 1) := by decide +kernel
theorem d_M_has_18 : decode b_M_has 18 = .ok (.getfield 48, 3) := by decide +kernel
theorem d_M_has_21 : decode b_M_has 21 = .ok (.ifCond .ne 16, 3) := by decide +kernel
theorem d_M_has_24 : decode b_M_has 24 = .ok (.aload_n 0, 1) := by decide +kernel
theorem d_M_has_25 : decode b_M_has 25 = .ok (.getfield 13, 3) := by decide +kernel
theorem d_M_has_28 : decode b_M_has 28 = .ok (.iload_n 1, 1) := by decide +kernel
theorem d_M_has_29 : decode b_M_has 29 = .ok (.baload, 1) := by decide +kernel
theorem d_M_has_30 : decode b_M_has 30 = .ok (.ifCond .ne 7, 3) := by decide +kernel
theorem d_M_has_33 : decode b_M_has 33 = .ok (.iconst 1, 1) := by decide +kernel
theorem d_M_has_34 : decode b_M_has 34 = .ok (.goto 4, 3) := by decide +kernel
theorem d_M_has_37 : decode b_M_has 37 = .ok (.iconst 0, 1) := by decide +kernel
theorem d_M_has_38 : decode b_M_has 38 = .ok (.istore_n 2, 1) := by decide +kernel
theorem d_M_has_39 : decode b_M_has 39 = .ok (.iconst 0, 1) := by decide +kernel
theorem d_M_has_40 : decode b_M_has 40 = .ok (.istore_n 3, 1) := by decide +kernel
theorem d_M_has_41 : decode b_M_has 41 = .ok (.iload_n 3, 1) := by decide +kernel
theorem d_M_has_42 : decode b_M_has 42 = .ok (.iconst 2, 1) := by decide +kernel
theorem d_M_has_43 : decode b_M_has 43 = .ok (.aload_n 0, 1) := by decide +kernel
theorem d_M_has_44 : decode b_M_has 44 = .ok (.getfield 42, 3) := by decide +kernel
theorem d_M_has_47 : decode b_M_has 47 = .ok (.imul, 1) := by decide +kernel
theorem d_M_has_48 : decode b_M_has 48 = .ok (.if_icmp .ge 94, 3) := by decide +kernel
theorem d_M_has_51 : decode b_M_has 51 = .ok (.iload_n 2, 1) := by decide +kernel
theorem d_M_has_52 : decode b_M_has 52 = .ok (.ifCond .eq 90, 3) := by decide +kernel
theorem d_M_has_55 : decode b_M_has 55 = .ok (.iconst 0, 1) := by decide +kernel
theorem d_M_has_56 : decode b_M_has 56 = .ok (.istore 4, 2) := by decide +kernel
theorem d_M_has_58 : decode b_M_has 58 = .ok (.iload 4, 2) := by decide +kernel
theorem d_M_has_60 : decode b_M_has 60 = .ok (.iconst 2, 1) := by decide +kernel
theorem d_M_has_61 : decode b_M_has 61 = .ok (.aload_n 0, 1) := by decide +kernel
theorem d_M_has_62 : decode b_M_has 62 = .ok (.getfield 42, 3) := by decide +kernel
theorem d_M_has_65 : decode b_M_has 65 = .ok (.imul, 1) := by decide +kernel
theorem d_M_has_66 : decode b_M_has 66 = .ok (.if_icmp .ge 70, 3) := by decide +kernel
theorem d_M_has_69 : decode b_M_has 69 = .ok (.iload_n 3, 1) := by decide +kernel
theorem d_M_has_70 : decode b_M_has 70 = .ok (.iload 4, 2) := by decide +kernel
theorem d_M_has_72 : decode b_M_has 72 = .ok (.if_icmp .ne 11, 3) := by decide +kernel
theorem d_M_has_75 : decode b_M_has 75 = .ok (.aload_n 0, 1) := by decide +kernel
theorem d_M_has_76 : decode b_M_has 76 = .ok (.iload_n 3, 1) := by decide +kernel
theorem d_M_has_77 : decode b_M_has 77 = .ok (.invokevirtual 146, 3) := by decide +kernel
theorem d_M_has_80 : decode b_M_has 80 = .ok (.goto 15, 3) := by decide +kernel
theorem d_M_has_83 : decode b_M_has 83 = .ok (.aload_n 0, 1) := by decide +kernel
theorem d_M_has_84 : decode b_M_has 84 = .ok (.iload_n 3, 1) := by decide +kernel
theorem d_M_has_85 : decode b_M_has 85 = .ok (.invokevirtual 146, 3) := by decide +kernel
theorem d_M_has_88 : decode b_M_has 88 = .ok (.aload_n 0, 1) := by decide +kernel
theorem d_M_has_89 : decode b_M_has 89 = .ok (.iload 4, 2) := by decide +kernel
theorem d_M_has_91 : decode b_M_has 91 = .ok (.invokevirtual 146, 3) := by decide +kernel
theorem d_M_has_94 : decode b_M_has 94 = .ok (.ladd, 1) := by decide +kernel
theorem d_M_has_95 : decode b_M_has 95 = .ok (.lstore 5, 2) := by decide +kernel
theorem d_M_has_97 : decode b_M_has 97 = .ok (.iload_n 2, 1) := by decide +kernel
theorem d_M_has_98 : decode b_M_has 98 = .ok (.ifCond .eq 30, 3) := by decide +kernel
theorem d_M_has_101 : decode b_M_has 101 = .ok (.lload 5, 2) := by decide +kernel
theorem d_M_has_103 : decode b_M_has 103 = .ok (.aload_n 0, 1) := by decide +kernel
theorem d_M_has_104 : decode b_M_has 104 = .ok (.getfield 7, 3) := by decide +kernel
theorem d_M_has_107 : decode b_M_has 107 = .ok (.bipush 100, 2) := by decide +kernel
theorem d_M_has_109 : decode b_M_has 109 = .ok (.iload_n 1, 1) := by decide +kernel
theorem d_M_has_110 : decode b_M_has 110 = .ok (.imul, 1) := by decide +kernel
theorem d_M_has_111 : decode b_M_has 111 = .ok (.bipush 10, 2) := by decide +kernel
theorem d_M_has_113 : decode b_M_has 113 = .ok (.iload_n 3, 1) := by decide +kernel
theorem d_M_has_114 : decode b_M_has 114 = .ok (.imul, 1) := by decide +kernel
theorem d_M_has_115 : decode b_M_has 115 = .ok (.iadd, 1) := by decide +kernel
theorem d_M_has_116 : decode b_M_has 116 = .ok (.iload 4, 2) := by decide +kernel
theorem d_M_has_118 : decode b_M_has 118 = .ok (.iadd, 1) := by decide +kernel
theorem d_M_has_119 : decode b_M_has 119 = .ok (.laload, 1) := by decide +kernel
theorem d_M_has_120 : decode b_M_has 120 = .ok (.lcmp, 1) := by decide +kernel
theorem d_M_has_121 : decode b_M_has 121 = .ok (.ifCond .gt 7, 3) := by decide +kernel
theorem d_M_has_124 : decode b_M_has 124 = .ok (.iconst 1, 1) := by decide +kernel
theorem d_M_has_125 : decode b_M_has 125 = .ok (.goto 4, 3) := by decide +kernel
theorem d_M_has_128 : decode b_M_has 128 = .ok (.iconst 0, 1) := by decide +kernel
theorem d_M_has_129 : decode b_M_has 129 = .ok (.istore_n 2, 1) := by decide +kernel
theorem d_M_has_130 : decode b_M_has 130 = .ok (.iinc 4 1, 3) := by decide +kernel
theorem d_M_has_133 : decode b_M_has 133 = .ok (.goto (-75), 3) := by decide +kernel
theorem d_M_has_136 : decode b_M_has 136 = .ok (.iinc 3 1, 3) := by decide +kernel
theorem d_M_has_139 : decode b_M_has 139 = .ok (.goto (-98), 3) := by decide +kernel
theorem d_M_has_142 : decode b_M_has 142 = .ok (.iload_n 2, 1) := by decide +kernel
theorem d_M_has_143 : decode b_M_has 143 = .ok (.ireturn, 1) := by decide +kernel
theorem d_M_sample_0 : decode b_M_sample 0 = .ok (.aload_n 0, 1) := by decide +kernel
theorem d_M_sample_1 : decode b_M_sample 1 = .ok (.aload_n 0, 1) := by decide +kernel
theorem d_M_sample_2 : decode b_M_sample 2 = .ok (.iload_n 1, 1) := by decide +kernel
theorem d_M_sample_3 : decode b_M_sample 3 = .ok (.invokevirtual 83, 3) := by decide +kernel
theorem d_M_sample_6 : decode b_M_sample 6 = .ok (.ifCond .eq 7, 3) := by decide +kernel
theorem d_M_sample_9 : decode b_M_sample 9 = .ok (.iconst 0, 1) := by decide +kernel
theorem d_M_sample_10 : decode b_M_sample 10 = .ok (.goto 4, 3) := by decide +kernel
theorem d_M_sample_13 : decode b_M_sample 13 = .ok (.iconst 1, 1) := by decide +kernel
theorem d_M_sample_14 : decode b_M_sample 14 = .ok (.putfield 48, 3) := by decide +kernel
theorem d_M_sample_17 : decode b_M_sample 17 = .ok (.aload_n 0, 1) := by decide +kernel
theorem d_M_sample_18 : decode b_M_sample 18 = .ok (.getfield 48, 3) := by decide +kernel
theorem d_M_sample_21 : decode b_M_sample 21 = .ok (.ifCond .gt 11, 3) := by decide +kernel
theorem d_M_sample_24 : decode b_M_sample 24 = .ok (.aload_n 0, 1) := by decide +kernel
theorem d_M_sample_25 : decode b_M_sample 25 = .ok (.iload_n 1, 1) := by decide +kernel
theorem d_M_sample_26 : decode b_M_sample 26 = .ok (.invokevirtual 98, 3) := by decide +kernel
theorem d_M_sample_29 : decode b_M_sample 29 = .ok (.ifCond .ne 5, 3) := by decide +kernel
theorem d_M_sample_32 : decode b_M_sample 32 = .ok (.iconst 0, 1) := by decide +kernel
theorem d_M_sample_33 : decode b_M_sample 33 = .ok (.ireturn, 1) := by decide +kernel
theorem d_M_sample_34 : decode b_M_sample 34 = .ok (.iconst 1, 1) := by decide +kernel
theorem d_M_sample_35 : decode b_M_sample 35 = .ok (.istore_n 2, 1) := by decide +kernel
theorem d_M_sample_36 : decode b_M_sample 36 = .ok (.iload_n 2, 1) := by decide +kernel
theorem d_M_sample_37 : decode b_M_sample 37 = .ok (.aload_n 0, 1) := by decide +kernel
theorem d_M_sample_38 : decode b_M_sample 38 = .ok (.getfield 42, 3) := by decide +kernel
theorem d_M_sample_41 : decode b_M_sample 41 = .ok (.if_icmp .gt 91, 3) := by decide +kernel
theorem d_M_sample_44 : decode b_M_sample 44 = .ok (.aload_n 0, 1) := by decide +kernel
theorem d_M_sample_45 : decode b_M_sample 45 = .ok (.iload_n 2, 1) := by decide +kernel
theorem d_M_sample_46 : decode b_M_sample 46 = .ok (.ineg, 1) := by decide +kernel
theorem d_M_sample_47 : decode b_M_sample 47 = .ok (.iconst 0, 1) := by decide +kernel
theorem d_M_sample_48 : decode b_M_sample 48 = .ok (.invokevirtual 104, 3) := by decide +kernel
theorem d_M_sample_51 : decode b_M_sample 51 = .ok (.lstore_n 3, 1) := by decide +kernel
theorem d_M_sample_52 : decode b_M_sample 52 = .ok (.aload_n 0, 1) := by decide +kernel
theorem d_M_sample_53 : decode b_M_sample 53 = .ok (.iload_n 2, 1) := by decide +kernel
theorem d_M_sample_54 : decode b_M_sample 54 = .ok (.iconst 0, 1) := by decide +kernel
theorem d_M_sample_55 : decode b_M_sample 55 = .ok (.invokevirtual 104, 3) := by decide +kernel
theorem d_M_sample_58 : decode b_M_sample 58 = .ok (.lstore 5, 2) := by decide +kernel
theorem d_M_sample_60 : decode b_M_sample 60 = .ok (.aload_n 0, 1) := by decide +kernel
theorem d_M_sample_61 : decode b_M_sample 61 = .ok (.getfield 26, 3) := by decide +kernel
theorem d_M_sample_64 : decode b_M_sample 64 = .ok (.iload_n 2, 1) := by decide +kernel
theorem d_M_sample_65 : decode b_M_sample 65 = .ok (.lload_n 3, 1) := by decide +kernel
theorem d_M_sample_66 : decode b_M_sample 66 = .ok (.ldc2_w 46, 3) := by decide +kernel
theorem d_M_sample_69 : decode b_M_sample 69 = .ok (.lcmp, 1) := by decide +kernel
theorem d_M_sample_70 : decode b_M_sample 70 = .ok (.ifCond .eq 8, 3) := by decide +kernel
theorem d_M_sample_73 : decode b_M_sample 73 = .ok (.lload_n 3, 1) := by decide +kernel
theorem d_M_sample_74 : decode b_M_sample 74 = .ok (.lneg, 1) := by decide +kernel
theorem d_M_sample_75 : decode b_M_sample 75 = .ok (.goto 18, 3) := by decide +kernel
theorem d_M_sample_78 : decode b_M_sample 78 = .ok (.lload 5, 2) := by decide +kernel
theorem d_M_sample_80 : decode b_M_sample 80 = .ok (.ldc2_w 46, 3) := by decide +kernel
theorem d_M_sample_83 : decode b_M_sample 83 = .ok (.lcmp, 1) := by decide +kernel
theorem d_M_sample_84 : decode b_M_sample 84 = .ok (.ifCond .eq 8, 3) := by decide +kernel
theorem d_M_sample_87 : decode b_M_sample 87 = .ok (.lload 5, 2) := by decide +kernel
theorem d_M_sample_89 : decode b_M_sample 89 = .ok (.goto 4, 3) := by decide +kernel
theorem d_M_sample_92 : decode b_M_sample 92 = .ok (.lconst 0, 1) := by decide +kernel
theorem d_M_sample_93 : decode b_M_sample 93 = .ok (.lastore, 1) := by decide +kernel
theorem d_M_sample_94 : decode b_M_sample 94 = .ok (.aload_n 0, 1) := by decide +kernel
theorem d_M_sample_95 : decode b_M_sample 95 = .ok (.iload_n 2, 1) := by decide +kernel
theorem d_M_sample_96 : decode b_M_sample 96 = .ok (.iconst 0, 1) := by decide +kernel
theorem d_M_sample_97 : decode b_M_sample 97 = .ok (.aload_n 0, 1) := by decide +kernel
theorem d_M_sample_98 : decode b_M_sample 98 = .ok (.getfield 26, 3) := by decide +kernel
theorem d_M_sample_101 : decode b_M_sample 101 = .ok (.iload_n 2, 1) := by decide +kernel
theorem d_M_sample_102 : decode b_M_sample 102 = .ok (.laload, 1) := by decide +kernel
theorem d_M_sample_103 : decode b_M_sample 103 = .ok (.invokevirtual 142, 3) := by decide +kernel
theorem d_M_sample_106 : decode b_M_sample 106 = .ok (.aload_n 0, 1) := by decide +kernel
theorem d_M_sample_107 : decode b_M_sample 107 = .ok (.iload_n 2, 1) := by decide +kernel
theorem d_M_sample_108 : decode b_M_sample 108 = .ok (.ineg, 1) := by decide +kernel
theorem d_M_sample_109 : decode b_M_sample 109 = .ok (.iconst 0, 1) := by decide +kernel
theorem d_M_sample_110 : decode b_M_sample 110 = .ok (.aload_n 0, 1) := by decide +kernel
theorem d_M_sample_111 : decode b_M_sample 111 = .ok (.getfield 26, 3) := by decide +kernel
theorem d_M_sample_114 : decode b_M_sample 114 = .ok (.iload_n 2, 1) := by decide +kernel
theorem d_M_sample_115 : decode b_M_sample 115 = .ok (.laload, 1) := by decide +kernel
theorem d_M_sample_116 : decode b_M_sample 116 = .ok (.lneg, 1) := by decide +kernel
theorem d_M_sample_117 : decode b_M_sample 117 = .ok (.invokevirtual 142, 3) := by decide +kernel
theorem d_M_sample_120 : decode b_M_sample 120 = .ok (.aload_n 0, 1) := by decide +kernel
theorem d_M_sample_121 : decode b_M_sample 121 = .ok (.invokevirtual 69, 3) := by decide +kernel
theorem d_M_sample_124 : decode b_M_sample 124 = .ok (.istore 7, 2) := by decide +kernel
theorem d_M_sample_126 : decode b_M_sample 126 = .ok (.iinc 2 1, 3) := by decide +kernel
theorem d_M_sample_129 : decode b_M_sample 129 = .ok (.goto (-93), 3) := by decide +kernel
theorem d_M_sample_132 : decode b_M_sample 132 = .ok (.iconst 1, 1) := by decide +kernel
theorem d_M_sample_133 : decode b_M_sample 133 = .ok (.ireturn, 1) := by decide +kernel
theorem d_M_termOf_0 : decode b_M_termOf 0 = .ok (.iload_n 0, 1) := by decide +kernel
theorem d_M_termOf_1 : decode b_M_termOf 1 = .ok (.iconst 2, 1) := by decide +kernel
theorem d_M_termOf_2 : decode b_M_termOf 2 = .ok (.irem, 1) := by decide +kernel
theorem d_M_termOf_3 : decode b_M_termOf 3 = .ok (.ifCond .ne 11, 3) := by decide +kernel
theorem d_M_termOf_6 : decode b_M_termOf 6 = .ok (.iload_n 0, 1) := by decide +kernel
theorem d_M_termOf_7 : decode b_M_termOf 7 = .ok (.iconst 2, 1) := by decide +kernel
theorem d_M_termOf_8 : decode b_M_termOf 8 = .ok (.idiv, 1) := by decide +kernel
theorem d_M_termOf_9 : decode b_M_termOf 9 = .ok (.iconst 1, 1) := by decide +kernel
theorem d_M_termOf_10 : decode b_M_termOf 10 = .ok (.iadd, 1) := by decide +kernel
theorem d_M_termOf_11 : decode b_M_termOf 11 = .ok (.goto 9, 3) := by decide +kernel
theorem d_M_termOf_14 : decode b_M_termOf 14 = .ok (.iload_n 0, 1) := by decide +kernel
theorem d_M_termOf_15 : decode b_M_termOf 15 = .ok (.iconst 2, 1) := by decide +kernel
theorem d_M_termOf_16 : decode b_M_termOf 16 = .ok (.idiv, 1) := by decide +kernel
theorem d_M_termOf_17 : decode b_M_termOf 17 = .ok (.iconst 1, 1) := by decide +kernel
theorem d_M_termOf_18 : decode b_M_termOf 18 = .ok (.iadd, 1) := by decide +kernel
theorem d_M_termOf_19 : decode b_M_termOf 19 = .ok (.ineg, 1) := by decide +kernel
theorem d_M_termOf_20 : decode b_M_termOf 20 = .ok (.ireturn, 1) := by decide +kernel
theorem d_M_listRow_0 : decode b_M_listRow 0 = .ok (.aload_n 0, 1) := by decide +kernel
theorem d_M_listRow_1 : decode b_M_listRow 1 = .ok (.iload_n 1, 1) := by decide +kernel
theorem d_M_listRow_2 : decode b_M_listRow 2 = .ok (.iload_n 2, 1) := by decide +kernel
theorem d_M_listRow_3 : decode b_M_listRow 3 = .ok (.invokevirtual 104, 3) := by decide +kernel
theorem d_M_listRow_6 : decode b_M_listRow 6 = .ok (.lstore_n 3, 1) := by decide +kernel
theorem d_M_listRow_7 : decode b_M_listRow 7 = .ok (.lload_n 3, 1) := by decide +kernel
theorem d_M_listRow_8 : decode b_M_listRow 8 = .ok (.ldc2_w 46, 3) := by decide +kernel
theorem d_M_listRow_11 : decode b_M_listRow 11 = .ok (.lcmp, 1) := by decide +kernel
theorem d_M_listRow_12 : decode b_M_listRow 12 = .ok (.ifCond .eq 53, 3) := by decide +kernel
theorem d_M_listRow_15 : decode b_M_listRow 15 = .ok (.aload_n 0, 1) := by decide +kernel
theorem d_M_listRow_16 : decode b_M_listRow 16 = .ok (.getfield 29, 3) := by decide +kernel
theorem d_M_listRow_19 : decode b_M_listRow 19 = .ok (.aload_n 0, 1) := by decide +kernel
theorem d_M_listRow_20 : decode b_M_listRow 20 = .ok (.getfield 150, 3) := by decide +kernel
theorem d_M_listRow_23 : decode b_M_listRow 23 = .ok (.iload_n 1, 1) := by decide +kernel
theorem d_M_listRow_24 : decode b_M_listRow 24 = .ok (.iastore, 1) := by decide +kernel
theorem d_M_listRow_25 : decode b_M_listRow 25 = .ok (.aload_n 0, 1) := by decide +kernel
theorem d_M_listRow_26 : decode b_M_listRow 26 = .ok (.getfield 33, 3) := by decide +kernel
theorem d_M_listRow_29 : decode b_M_listRow 29 = .ok (.aload_n 0, 1) := by decide +kernel
theorem d_M_listRow_30 : decode b_M_listRow 30 = .ok (.getfield 150, 3) := by decide +kernel
theorem d_M_listRow_33 : decode b_M_listRow 33 = .ok (.iload_n 2, 1) := by decide +kernel
theorem d_M_listRow_34 : decode b_M_listRow 34 = .ok (.iastore, 1) := by decide +kernel
theorem d_M_listRow_35 : decode b_M_listRow 35 = .ok (.aload_n 0, 1) := by decide +kernel
theorem d_M_listRow_36 : decode b_M_listRow 36 = .ok (.getfield 36, 3) := by decide +kernel
theorem d_M_listRow_39 : decode b_M_listRow 39 = .ok (.aload_n 0, 1) := by decide +kernel
theorem d_M_listRow_40 : decode b_M_listRow 40 = .ok (.getfield 150, 3) := by decide +kernel
theorem d_M_listRow_43 : decode b_M_listRow 43 = .ok (.lload_n 3, 1) := by decide +kernel
theorem d_M_listRow_44 : decode b_M_listRow 44 = .ok (.lastore, 1) := by decide +kernel
theorem d_M_listRow_45 : decode b_M_listRow 45 = .ok (.aload_n 0, 1) := by decide +kernel
theorem d_M_listRow_46 : decode b_M_listRow 46 = .ok (.getfield 39, 3) := by decide +kernel
theorem d_M_listRow_49 : decode b_M_listRow 49 = .ok (.aload_n 0, 1) := by decide +kernel
theorem d_M_listRow_50 : decode b_M_listRow 50 = .ok (.getfield 150, 3) := by decide +kernel
theorem d_M_listRow_53 : decode b_M_listRow 53 = .ok (.iconst 1, 1) := by decide +kernel
theorem d_M_listRow_54 : decode b_M_listRow 54 = .ok (.bastore, 1) := by decide +kernel
theorem d_M_listRow_55 : decode b_M_listRow 55 = .ok (.aload_n 0, 1) := by decide +kernel
theorem d_M_listRow_56 : decode b_M_listRow 56 = .ok (.dup, 1) := by decide +kernel
theorem d_M_listRow_57 : decode b_M_listRow 57 = .ok (.getfield 150, 3) := by decide +kernel
theorem d_M_listRow_60 : decode b_M_listRow 60 = .ok (.iconst 1, 1) := by decide +kernel
theorem d_M_listRow_61 : decode b_M_listRow 61 = .ok (.iadd, 1) := by decide +kernel
theorem d_M_listRow_62 : decode b_M_listRow 62 = .ok (.putfield 150, 3) := by decide +kernel
theorem d_M_listRow_65 : decode b_M_listRow 65 = .ok (.return_, 1) := by decide +kernel
theorem d_M_needed_0 : decode b_M_needed 0 = .ok (.aload_n 0, 1) := by decide +kernel
theorem d_M_needed_1 : decode b_M_needed 1 = .ok (.aload_n 0, 1) := by decide +kernel
theorem d_M_needed_2 : decode b_M_needed 2 = .ok (.iload_n 1, 1) := by decide +kernel
theorem d_M_needed_3 : decode b_M_needed 3 = .ok (.invokevirtual 83, 3) := by decide +kernel
theorem d_M_needed_6 : decode b_M_needed 6 = .ok (.ifCond .eq 7, 3) := by decide +kernel
theorem d_M_needed_9 : decode b_M_needed 9 = .ok (.iconst 0, 1) := by decide +kernel
theorem d_M_needed_10 : decode b_M_needed 10 = .ok (.goto 4, 3) := by decide +kernel
theorem d_M_needed_13 : decode b_M_needed 13 = .ok (.iconst 1, 1) := by decide +kernel
theorem d_M_needed_14 : decode b_M_needed 14 = .ok (.putfield 48, 3) := by decide +kernel
theorem d_M_needed_17 : decode b_M_needed 17 = .ok (.aload_n 0, 1) := by decide +kernel
theorem d_M_needed_18 : decode b_M_needed 18 = .ok (.getfield 48, 3) := by decide +kernel
theorem d_M_needed_21 : decode b_M_needed 21 = .ok (.ifCond .le 5, 3) := by decide +kernel
theorem d_M_needed_24 : decode b_M_needed 24 = .ok (.iconst 0, 1) := by decide +kernel
theorem d_M_needed_25 : decode b_M_needed 25 = .ok (.ireturn, 1) := by decide +kernel
theorem d_M_needed_26 : decode b_M_needed 26 = .ok (.aload_n 0, 1) := by decide +kernel
theorem d_M_needed_27 : decode b_M_needed 27 = .ok (.iconst 0, 1) := by decide +kernel
theorem d_M_needed_28 : decode b_M_needed 28 = .ok (.putfield 150, 3) := by decide +kernel
theorem d_M_needed_31 : decode b_M_needed 31 = .ok (.aload_n 0, 1) := by decide +kernel
theorem d_M_needed_32 : decode b_M_needed 32 = .ok (.iload_n 1, 1) := by decide +kernel
theorem d_M_needed_33 : decode b_M_needed 33 = .ok (.invokevirtual 98, 3) := by decide +kernel
theorem d_M_needed_36 : decode b_M_needed 36 = .ok (.ifCond .ne 33, 3) := by decide +kernel
theorem d_M_needed_39 : decode b_M_needed 39 = .ok (.aload_n 0, 1) := by decide +kernel
theorem d_M_needed_40 : decode b_M_needed 40 = .ok (.getfield 29, 3) := by decide +kernel
theorem d_M_needed_43 : decode b_M_needed 43 = .ok (.iconst 0, 1) := by decide +kernel
theorem d_M_needed_44 : decode b_M_needed 44 = .ok (.iconst 0, 1) := by decide +kernel
theorem d_M_needed_45 : decode b_M_needed 45 = .ok (.iastore, 1) := by decide +kernel
theorem d_M_needed_46 : decode b_M_needed 46 = .ok (.aload_n 0, 1) := by decide +kernel
theorem d_M_needed_47 : decode b_M_needed 47 = .ok (.getfield 33, 3) := by decide +kernel
theorem d_M_needed_50 : decode b_M_needed 50 = .ok (.iconst 0, 1) := by decide +kernel
theorem d_M_needed_51 : decode b_M_needed 51 = .ok (.iconst 0, 1) := by decide +kernel
theorem d_M_needed_52 : decode b_M_needed 52 = .ok (.iastore, 1) := by decide +kernel
theorem d_M_needed_53 : decode b_M_needed 53 = .ok (.aload_n 0, 1) := by decide +kernel
theorem d_M_needed_54 : decode b_M_needed 54 = .ok (.getfield 36, 3) := by decide +kernel
theorem d_M_needed_57 : decode b_M_needed 57 = .ok (.iconst 0, 1) := by decide +kernel
theorem d_M_needed_58 : decode b_M_needed 58 = .ok (.ldc2_w 153, 3) := by decide +kernel
theorem d_M_needed_61 : decode b_M_needed 61 = .ok (.lastore, 1) := by decide +kernel
theorem d_M_needed_62 : decode b_M_needed 62 = .ok (.aload_n 0, 1) := by decide +kernel
theorem d_M_needed_63 : decode b_M_needed 63 = .ok (.iconst 1, 1) := by decide +kernel
theorem d_M_needed_64 : decode b_M_needed 64 = .ok (.putfield 150, 3) := by decide +kernel
theorem d_M_needed_67 : decode b_M_needed 67 = .ok (.iconst 1, 1) := by decide +kernel
theorem d_M_needed_68 : decode b_M_needed 68 = .ok (.ireturn, 1) := by decide +kernel
theorem d_M_needed_69 : decode b_M_needed 69 = .ok (.iconst 0, 1) := by decide +kernel
theorem d_M_needed_70 : decode b_M_needed 70 = .ok (.istore_n 2, 1) := by decide +kernel
theorem d_M_needed_71 : decode b_M_needed 71 = .ok (.iload_n 2, 1) := by decide +kernel
theorem d_M_needed_72 : decode b_M_needed 72 = .ok (.iconst 2, 1) := by decide +kernel
theorem d_M_needed_73 : decode b_M_needed 73 = .ok (.aload_n 0, 1) := by decide +kernel
theorem d_M_needed_74 : decode b_M_needed 74 = .ok (.getfield 42, 3) := by decide +kernel
theorem d_M_needed_77 : decode b_M_needed 77 = .ok (.imul, 1) := by decide +kernel
theorem d_M_needed_78 : decode b_M_needed 78 = .ok (.if_icmp .ge 18, 3) := by decide +kernel
theorem d_M_needed_81 : decode b_M_needed 81 = .ok (.aload_n 0, 1) := by decide +kernel
theorem d_M_needed_82 : decode b_M_needed 82 = .ok (.iload_n 2, 1) := by decide +kernel
theorem d_M_needed_83 : decode b_M_needed 83 = .ok (.invokestatic 155, 3) := by decide +kernel
theorem d_M_needed_86 : decode b_M_needed 86 = .ok (.iconst 0, 1) := by decide +kernel
theorem d_M_needed_87 : decode b_M_needed 87 = .ok (.invokevirtual 158, 3) := by decide +kernel
theorem d_M_needed_90 : decode b_M_needed 90 = .ok (.iinc 2 1, 3) := by decide +kernel
theorem d_M_needed_93 : decode b_M_needed 93 = .ok (.goto (-22), 3) := by decide +kernel
theorem d_M_needed_96 : decode b_M_needed 96 = .ok (.iconst 0, 1) := by decide +kernel
theorem d_M_needed_97 : decode b_M_needed 97 = .ok (.istore_n 2, 1) := by decide +kernel
theorem d_M_needed_98 : decode b_M_needed 98 = .ok (.iload_n 2, 1) := by decide +kernel
theorem d_M_needed_99 : decode b_M_needed 99 = .ok (.iconst 2, 1) := by decide +kernel
theorem d_M_needed_100 : decode b_M_needed 100 = .ok (.aload_n 0, 1) := by decide +kernel
theorem d_M_needed_101 : decode b_M_needed 101 = .ok (.getfield 42, 3) := by decide +kernel
theorem d_M_needed_104 : decode b_M_needed 104 = .ok (.imul, 1) := by decide +kernel
theorem d_M_needed_105 : decode b_M_needed 105 = .ok (.if_icmp .ge 45, 3) := by decide +kernel
theorem d_M_needed_108 : decode b_M_needed 108 = .ok (.iload_n 2, 1) := by decide +kernel
theorem d_M_needed_109 : decode b_M_needed 109 = .ok (.iconst 2, 1) := by decide +kernel
theorem d_M_needed_110 : decode b_M_needed 110 = .ok (.idiv, 1) := by decide +kernel
theorem d_M_needed_111 : decode b_M_needed 111 = .ok (.iconst 2, 1) := by decide +kernel
theorem d_M_needed_112 : decode b_M_needed 112 = .ok (.imul, 1) := by decide +kernel
theorem d_M_needed_113 : decode b_M_needed 113 = .ok (.iconst 2, 1) := by decide +kernel
theorem d_M_needed_114 : decode b_M_needed 114 = .ok (.iadd, 1) := by decide +kernel
theorem d_M_needed_115 : decode b_M_needed 115 = .ok (.istore_n 3, 1) := by decide +kernel
theorem d_M_needed_116 : decode b_M_needed 116 = .ok (.iload_n 3, 1) := by decide +kernel
theorem d_M_needed_117 : decode b_M_needed 117 = .ok (.iconst 2, 1) := by decide +kernel
theorem d_M_needed_118 : decode b_M_needed 118 = .ok (.aload_n 0, 1) := by decide +kernel
theorem d_M_needed_119 : decode b_M_needed 119 = .ok (.getfield 42, 3) := by decide +kernel
theorem d_M_needed_122 : decode b_M_needed 122 = .ok (.imul, 1) := by decide +kernel
theorem d_M_needed_123 : decode b_M_needed 123 = .ok (.if_icmp .ge 21, 3) := by decide +kernel
theorem d_M_needed_126 : decode b_M_needed 126 = .ok (.aload_n 0, 1) := by decide +kernel
theorem d_M_needed_127 : decode b_M_needed 127 = .ok (.iload_n 2, 1) := by decide +kernel
theorem d_M_needed_128 : decode b_M_needed 128 = .ok (.invokestatic 155, 3) := by decide +kernel
theorem d_M_needed_131 : decode b_M_needed 131 = .ok (.iload_n 3, 1) := by decide +kernel
theorem d_M_needed_132 : decode b_M_needed 132 = .ok (.invokestatic 155, 3) := by decide +kernel
theorem d_M_needed_135 : decode b_M_needed 135 = .ok (.invokevirtual 158, 3) := by decide +kernel
theorem d_M_needed_138 : decode b_M_needed 138 = .ok (.iinc 3 1, 3) := by decide +kernel
theorem d_M_needed_141 : decode b_M_needed 141 = .ok (.goto (-25), 3) := by decide +kernel
theorem d_M_needed_144 : decode b_M_needed 144 = .ok (.iinc 2 1, 3) := by decide +kernel
theorem d_M_needed_147 : decode b_M_needed 147 = .ok (.goto (-49), 3) := by decide +kernel
theorem d_M_needed_150 : decode b_M_needed 150 = .ok (.aload_n 0, 1) := by decide +kernel
theorem d_M_needed_151 : decode b_M_needed 151 = .ok (.getfield 150, 3) := by decide +kernel
theorem d_M_needed_154 : decode b_M_needed 154 = .ok (.iconst 1, 1) := by decide +kernel
theorem d_M_needed_155 : decode b_M_needed 155 = .ok (.isub, 1) := by decide +kernel
theorem d_M_needed_156 : decode b_M_needed 156 = .ok (.istore_n 2, 1) := by decide +kernel
theorem d_M_needed_157 : decode b_M_needed 157 = .ok (.iload_n 2, 1) := by decide +kernel
theorem d_M_needed_158 : decode b_M_needed 158 = .ok (.ifCond .lt 128, 3) := by decide +kernel
theorem d_M_needed_161 : decode b_M_needed 161 = .ok (.aload_n 0, 1) := by decide +kernel
theorem d_M_needed_162 : decode b_M_needed 162 = .ok (.getfield 39, 3) := by decide +kernel
theorem d_M_needed_165 : decode b_M_needed 165 = .ok (.iload_n 2, 1) := by decide +kernel
theorem d_M_needed_166 : decode b_M_needed 166 = .ok (.iconst 0, 1) := by decide +kernel
theorem d_M_needed_167 : decode b_M_needed 167 = .ok (.bastore, 1) := by decide +kernel
theorem d_M_needed_168 : decode b_M_needed 168 = .ok (.iconst 0, 1) := by decide +kernel
theorem d_M_needed_169 : decode b_M_needed 169 = .ok (.istore_n 3, 1) := by decide +kernel
theorem d_M_needed_170 : decode b_M_needed 170 = .ok (.iload_n 3, 1) := by decide +kernel
theorem d_M_needed_171 : decode b_M_needed 171 = .ok (.bipush 100, 2) := by decide +kernel
theorem d_M_needed_173 : decode b_M_needed 173 = .ok (.if_icmp .ge 18, 3) := by decide +kernel
theorem d_M_needed_176 : decode b_M_needed 176 = .ok (.aload_n 0, 1) := by decide +kernel
theorem d_M_needed_177 : decode b_M_needed 177 = .ok (.getfield 17, 3) := by decide +kernel
theorem d_M_needed_180 : decode b_M_needed 180 = .ok (.iload_n 3, 1) := by decide +kernel
theorem d_M_needed_181 : decode b_M_needed 181 = .ok (.ldc2_w 46, 3) := by decide +kernel
theorem d_M_needed_184 : decode b_M_needed 184 = .ok (.lastore, 1) := by decide +kernel
theorem d_M_needed_185 : decode b_M_needed 185 = .ok (.iinc 3 1, 3) := by decide +kernel
theorem d_M_needed_188 : decode b_M_needed 188 = .ok (.goto (-18), 3) := by decide +kernel
theorem d_M_needed_191 : decode b_M_needed 191 = .ok (.iconst 0, 1) := by decide +kernel
theorem d_M_needed_192 : decode b_M_needed 192 = .ok (.istore_n 3, 1) := by decide +kernel
theorem d_M_needed_193 : decode b_M_needed 193 = .ok (.iload_n 3, 1) := by decide +kernel
theorem d_M_needed_194 : decode b_M_needed 194 = .ok (.aload_n 0, 1) := by decide +kernel
theorem d_M_needed_195 : decode b_M_needed 195 = .ok (.getfield 150, 3) := by decide +kernel
theorem d_M_needed_198 : decode b_M_needed 198 = .ok (.if_icmp .ge 40, 3) := by decide +kernel
theorem d_M_needed_201 : decode b_M_needed 201 = .ok (.aload_n 0, 1) := by decide +kernel
theorem d_M_needed_202 : decode b_M_needed 202 = .ok (.getfield 39, 3) := by decide +kernel
theorem d_M_needed_205 : decode b_M_needed 205 = .ok (.iload_n 3, 1) := by decide +kernel
theorem d_M_needed_206 : decode b_M_needed 206 = .ok (.baload, 1) := by decide +kernel
theorem d_M_needed_207 : decode b_M_needed 207 = .ok (.ifCond .eq 25, 3) := by decide +kernel
theorem d_M_needed_210 : decode b_M_needed 210 = .ok (.aload_n 0, 1) := by decide +kernel
theorem d_M_needed_211 : decode b_M_needed 211 = .ok (.aload_n 0, 1) := by decide +kernel
theorem d_M_needed_212 : decode b_M_needed 212 = .ok (.getfield 29, 3) := by decide +kernel
theorem d_M_needed_215 : decode b_M_needed 215 = .ok (.iload_n 3, 1) := by decide +kernel
theorem d_M_needed_216 : decode b_M_needed 216 = .ok (.iaload, 1) := by decide +kernel
theorem d_M_needed_217 : decode b_M_needed 217 = .ok (.aload_n 0, 1) := by decide +kernel
theorem d_M_needed_218 : decode b_M_needed 218 = .ok (.getfield 33, 3) := by decide +kernel
theorem d_M_needed_221 : decode b_M_needed 221 = .ok (.iload_n 3, 1) := by decide +kernel
theorem d_M_needed_222 : decode b_M_needed 222 = .ok (.iaload, 1) := by decide +kernel
theorem d_M_needed_223 : decode b_M_needed 223 = .ok (.aload_n 0, 1) := by decide +kernel
theorem d_M_needed_224 : decode b_M_needed 224 = .ok (.getfield 36, 3) := by decide +kernel
theorem d_M_needed_227 : decode b_M_needed 227 = .ok (.iload_n 3, 1) := by decide +kernel
theorem d_M_needed_228 : decode b_M_needed 228 = .ok (.laload, 1) := by decide +kernel
theorem d_M_needed_229 : decode b_M_needed 229 = .ok (.invokevirtual 142, 3) := by decide +kernel
theorem d_M_needed_232 : decode b_M_needed 232 = .ok (.iinc 3 1, 3) := by decide +kernel
theorem d_M_needed_235 : decode b_M_needed 235 = .ok (.goto (-42), 3) := by decide +kernel
theorem d_M_needed_238 : decode b_M_needed 238 = .ok (.aload_n 0, 1) := by decide +kernel
theorem d_M_needed_239 : decode b_M_needed 239 = .ok (.invokevirtual 69, 3) := by decide +kernel
theorem d_M_needed_242 : decode b_M_needed 242 = .ok (.istore_n 3, 1) := by decide +kernel
theorem d_M_needed_243 : decode b_M_needed 243 = .ok (.aload_n 0, 1) := by decide +kernel
theorem d_M_needed_244 : decode b_M_needed 244 = .ok (.getfield 39, 3) := by decide +kernel
theorem d_M_needed_247 : decode b_M_needed 247 = .ok (.iload_n 2, 1) := by decide +kernel
theorem d_M_needed_248 : decode b_M_needed 248 = .ok (.aload_n 0, 1) := by decide +kernel
theorem d_M_needed_249 : decode b_M_needed 249 = .ok (.aload_n 0, 1) := by decide +kernel
theorem d_M_needed_250 : decode b_M_needed 250 = .ok (.getfield 29, 3) := by decide +kernel
theorem d_M_needed_253 : decode b_M_needed 253 = .ok (.iload_n 2, 1) := by decide +kernel
theorem d_M_needed_254 : decode b_M_needed 254 = .ok (.iaload, 1) := by decide +kernel
theorem d_M_needed_255 : decode b_M_needed 255 = .ok (.aload_n 0, 1) := by decide +kernel
theorem d_M_needed_256 : decode b_M_needed 256 = .ok (.getfield 33, 3) := by decide +kernel
theorem d_M_needed_259 : decode b_M_needed 259 = .ok (.iload_n 2, 1) := by decide +kernel
theorem d_M_needed_260 : decode b_M_needed 260 = .ok (.iaload, 1) := by decide +kernel
theorem d_M_needed_261 : decode b_M_needed 261 = .ok (.invokevirtual 104, 3) := by decide +kernel
theorem d_M_needed_264 : decode b_M_needed 264 = .ok (.aload_n 0, 1) := by decide +kernel
theorem d_M_needed_265 : decode b_M_needed 265 = .ok (.getfield 36, 3) := by decide +kernel
theorem d_M_needed_268 : decode b_M_needed 268 = .ok (.iload_n 2, 1) := by decide +kernel
theorem d_M_needed_269 : decode b_M_needed 269 = .ok (.laload, 1) := by decide +kernel
theorem d_M_needed_270 : decode b_M_needed 270 = .ok (.lcmp, 1) := by decide +kernel
theorem d_M_needed_271 : decode b_M_needed 271 = .ok (.ifCond .le 7, 3) := by decide +kernel
theorem d_M_needed_274 : decode b_M_needed 274 = .ok (.iconst 1, 1) := by decide +kernel
theorem d_M_needed_275 : decode b_M_needed 275 = .ok (.goto 4, 3) := by decide +kernel
theorem d_M_needed_278 : decode b_M_needed 278 = .ok (.iconst 0, 1) := by decide +kernel
theorem d_M_needed_279 : decode b_M_needed 279 = .ok (.bastore, 1) := by decide +kernel
theorem d_M_needed_280 : decode b_M_needed 280 = .ok (.iinc 2 (-1), 3) := by decide +kernel
theorem d_M_needed_283 : decode b_M_needed 283 = .ok (.goto (-126), 3) := by decide +kernel
theorem d_M_needed_286 : decode b_M_needed 286 = .ok (.iconst 0, 1) := by decide +kernel
theorem d_M_needed_287 : decode b_M_needed 287 = .ok (.istore_n 2, 1) := by decide +kernel
theorem d_M_needed_288 : decode b_M_needed 288 = .ok (.iconst 0, 1) := by decide +kernel
theorem d_M_needed_289 : decode b_M_needed 289 = .ok (.istore_n 3, 1) := by decide +kernel
theorem d_M_needed_290 : decode b_M_needed 290 = .ok (.iload_n 3, 1) := by decide +kernel
theorem d_M_needed_291 : decode b_M_needed 291 = .ok (.aload_n 0, 1) := by decide +kernel
theorem d_M_needed_292 : decode b_M_needed 292 = .ok (.getfield 150, 3) := by decide +kernel
theorem d_M_needed_295 : decode b_M_needed 295 = .ok (.if_icmp .ge 57, 3) := by decide +kernel
theorem d_M_needed_298 : decode b_M_needed 298 = .ok (.aload_n 0, 1) := by decide +kernel
theorem d_M_needed_299 : decode b_M_needed 299 = .ok (.getfield 39, 3) := by decide +kernel
theorem d_M_needed_302 : decode b_M_needed 302 = .ok (.iload_n 3, 1) := by decide +kernel
theorem d_M_needed_303 : decode b_M_needed 303 = .ok (.baload, 1) := by decide +kernel
theorem d_M_needed_304 : decode b_M_needed 304 = .ok (.ifCond .eq 42, 3) := by decide +kernel
theorem d_M_needed_307 : decode b_M_needed 307 = .ok (.aload_n 0, 1) := by decide +kernel
theorem d_M_needed_308 : decode b_M_needed 308 = .ok (.getfield 29, 3) := by decide +kernel
theorem d_M_needed_311 : decode b_M_needed 311 = .ok (.iload_n 2, 1) := by decide +kernel
theorem d_M_needed_312 : decode b_M_needed 312 = .ok (.aload_n 0, 1) := by decide +kernel
theorem d_M_needed_313 : decode b_M_needed 313 = .ok (.getfield 29, 3) := by decide +kernel
theorem d_M_needed_316 : decode b_M_needed 316 = .ok (.iload_n 3, 1) := by decide +kernel
theorem d_M_needed_317 : decode b_M_needed 317 = .ok (.iaload, 1) := by decide +kernel
theorem d_M_needed_318 : decode b_M_needed 318 = .ok (.iastore, 1) := by decide +kernel
theorem d_M_needed_319 : decode b_M_needed 319 = .ok (.aload_n 0, 1) := by decide +kernel
theorem d_M_needed_320 : decode b_M_needed 320 = .ok (.getfield 33, 3) := by decide +kernel
theorem d_M_needed_323 : decode b_M_needed 323 = .ok (.iload_n 2, 1) := by decide +kernel
theorem d_M_needed_324 : decode b_M_needed 324 = .ok (.aload_n 0, 1) := by decide +kernel
theorem d_M_needed_325 : decode b_M_needed 325 = .ok (.getfield 33, 3) := by decide +kernel
theorem d_M_needed_328 : decode b_M_needed 328 = .ok (.iload_n 3, 1) := by decide +kernel
theorem d_M_needed_329 : decode b_M_needed 329 = .ok (.iaload, 1) := by decide +kernel
theorem d_M_needed_330 : decode b_M_needed 330 = .ok (.iastore, 1) := by decide +kernel
theorem d_M_needed_331 : decode b_M_needed 331 = .ok (.aload_n 0, 1) := by decide +kernel
theorem d_M_needed_332 : decode b_M_needed 332 = .ok (.getfield 36, 3) := by decide +kernel
theorem d_M_needed_335 : decode b_M_needed 335 = .ok (.iload_n 2, 1) := by decide +kernel
theorem d_M_needed_336 : decode b_M_needed 336 = .ok (.aload_n 0, 1) := by decide +kernel
theorem d_M_needed_337 : decode b_M_needed 337 = .ok (.getfield 36, 3) := by decide +kernel
theorem d_M_needed_340 : decode b_M_needed 340 = .ok (.iload_n 3, 1) := by decide +kernel
theorem d_M_needed_341 : decode b_M_needed 341 = .ok (.laload, 1) := by decide +kernel
theorem d_M_needed_342 : decode b_M_needed 342 = .ok (.lastore, 1) := by decide +kernel
theorem d_M_needed_343 : decode b_M_needed 343 = .ok (.iinc 2 1, 3) := by decide +kernel
theorem d_M_needed_346 : decode b_M_needed 346 = .ok (.iinc 3 1, 3) := by decide +kernel
theorem d_M_needed_349 : decode b_M_needed 349 = .ok (.goto (-59), 3) := by decide +kernel
theorem d_M_needed_352 : decode b_M_needed 352 = .ok (.aload_n 0, 1) := by decide +kernel
theorem d_M_needed_353 : decode b_M_needed 353 = .ok (.iload_n 2, 1) := by decide +kernel
theorem d_M_needed_354 : decode b_M_needed 354 = .ok (.putfield 150, 3) := by decide +kernel
theorem d_M_needed_357 : decode b_M_needed 357 = .ok (.aload_n 0, 1) := by decide +kernel
theorem d_M_needed_358 : decode b_M_needed 358 = .ok (.getfield 150, 3) := by decide +kernel
theorem d_M_needed_361 : decode b_M_needed 361 = .ok (.ireturn, 1) := by decide +kernel
theorem d_M_needs_0 : decode b_M_needs 0 = .ok (.aload_n 0, 1) := by decide +kernel
theorem d_M_needs_1 : decode b_M_needs 1 = .ok (.iload_n 1, 1) := by decide +kernel
theorem d_M_needs_2 : decode b_M_needs 2 = .ok (.ifCond .lt 24, 3) := by decide +kernel
theorem d_M_needs_5 : decode b_M_needs 5 = .ok (.iload_n 1, 1) := by decide +kernel
theorem d_M_needs_6 : decode b_M_needs 6 = .ok (.aload_n 0, 1) := by decide +kernel
theorem d_M_needs_7 : decode b_M_needs 7 = .ok (.getfield 150, 3) := by decide +kernel
theorem d_M_needs_10 : decode b_M_needs 10 = .ok (.if_icmp .ge 16, 3) := by decide +kernel
theorem d_M_needs_13 : decode b_M_needs 13 = .ok (.iload_n 2, 1) := by decide +kernel
theorem d_M_needs_14 : decode b_M_needs 14 = .ok (.ifCond .lt 12, 3) := by decide +kernel
theorem d_M_needs_17 : decode b_M_needs 17 = .ok (.iload_n 2, 1) := by decide +kernel
theorem d_M_needs_18 : decode b_M_needs 18 = .ok (.iconst 2, 1) := by decide +kernel
theorem d_M_needs_19 : decode b_M_needs 19 = .ok (.if_icmp .gt 7, 3) := by decide +kernel
theorem d_M_needs_22 : decode b_M_needs 22 = .ok (.iconst 0, 1) := by decide +kernel
theorem d_M_needs_23 : decode b_M_needs 23 = .ok (.goto 4, 3) := by decide +kernel
theorem d_M_needs_26 : decode b_M_needs 26 = .ok (.iconst 1, 1) := by decide +kernel
theorem d_M_needs_27 : decode b_M_needs 27 = .ok (.putfield 48, 3) := by decide +kernel
theorem d_M_needs_30 : decode b_M_needs 30 = .ok (.aload_n 0, 1) := by decide +kernel
theorem d_M_needs_31 : decode b_M_needs 31 = .ok (.getfield 48, 3) := by decide +kernel
theorem d_M_needs_34 : decode b_M_needs 34 = .ok (.ifCond .le 7, 3) := by decide +kernel
theorem d_M_needs_37 : decode b_M_needs 37 = .ok (.lconst 0, 1) := by decide +kernel
theorem d_M_needs_38 : decode b_M_needs 38 = .ok (.goto 38, 3) := by decide +kernel
theorem d_M_needs_41 : decode b_M_needs 41 = .ok (.iload_n 2, 1) := by decide +kernel
theorem d_M_needs_42 : decode b_M_needs 42 = .ok (.ifCond .ne 13, 3) := by decide +kernel
theorem d_M_needs_45 : decode b_M_needs 45 = .ok (.aload_n 0, 1) := by decide +kernel
theorem d_M_needs_46 : decode b_M_needs 46 = .ok (.getfield 29, 3) := by decide +kernel
theorem d_M_needs_49 : decode b_M_needs 49 = .ok (.iload_n 1, 1) := by decide +kernel
theorem d_M_needs_50 : decode b_M_needs 50 = .ok (.iaload, 1) := by decide +kernel
theorem d_M_needs_51 : decode b_M_needs 51 = .ok (.i2l, 1) := by decide +kernel
theorem d_M_needs_52 : decode b_M_needs 52 = .ok (.goto 24, 3) := by decide +kernel
theorem d_M_needs_55 : decode b_M_needs 55 = .ok (.iload_n 2, 1) := by decide +kernel
theorem d_M_needs_56 : decode b_M_needs 56 = .ok (.iconst 1, 1) := by decide +kernel
theorem d_M_needs_57 : decode b_M_needs 57 = .ok (.if_icmp .ne 13, 3) := by decide +kernel
theorem d_M_needs_60 : decode b_M_needs 60 = .ok (.aload_n 0, 1) := by decide +kernel
theorem d_M_needs_61 : decode b_M_needs 61 = .ok (.getfield 33, 3) := by decide +kernel
theorem d_M_needs_64 : decode b_M_needs 64 = .ok (.iload_n 1, 1) := by decide +kernel
theorem d_M_needs_65 : decode b_M_needs 65 = .ok (.iaload, 1) := by decide +kernel
theorem d_M_needs_66 : decode b_M_needs 66 = .ok (.i2l, 1) := by decide +kernel
theorem d_M_needs_67 : decode b_M_needs 67 = .ok (.goto 9, 3) := by decide +kernel
theorem d_M_needs_70 : decode b_M_needs 70 = .ok (.aload_n 0, 1) := by decide +kernel
theorem d_M_needs_71 : decode b_M_needs 71 = .ok (.getfield 36, 3) := by decide +kernel
theorem d_M_needs_74 : decode b_M_needs 74 = .ok (.iload_n 1, 1) := by decide +kernel
theorem d_M_needs_75 : decode b_M_needs 75 = .ok (.laload, 1) := by decide +kernel
theorem d_M_needs_76 : decode b_M_needs 76 = .ok (.lreturn, 1) := by decide +kernel
theorem d_M_fits_0 : decode b_M_fits 0 = .ok (.aload_n 0, 1) := by decide +kernel
theorem d_M_fits_1 : decode b_M_fits 1 = .ok (.aload_n 0, 1) := by decide +kernel
theorem d_M_fits_2 : decode b_M_fits 2 = .ok (.iload_n 1, 1) := by decide +kernel
theorem d_M_fits_3 : decode b_M_fits 3 = .ok (.invokevirtual 83, 3) := by decide +kernel
theorem d_M_fits_6 : decode b_M_fits 6 = .ok (.ifCond .eq 11, 3) := by decide +kernel
theorem d_M_fits_9 : decode b_M_fits 9 = .ok (.aload_n 0, 1) := by decide +kernel
theorem d_M_fits_10 : decode b_M_fits 10 = .ok (.iload_n 2, 1) := by decide +kernel
theorem d_M_fits_11 : decode b_M_fits 11 = .ok (.invokevirtual 91, 3) := by decide +kernel
theorem d_M_fits_14 : decode b_M_fits 14 = .ok (.ifCond .ne 7, 3) := by decide +kernel
theorem d_M_fits_17 : decode b_M_fits 17 = .ok (.iconst 1, 1) := by decide +kernel
theorem d_M_fits_18 : decode b_M_fits 18 = .ok (.goto 19, 3) := by decide +kernel
theorem d_M_fits_21 : decode b_M_fits 21 = .ok (.iload_n 3, 1) := by decide +kernel
theorem d_M_fits_22 : decode b_M_fits 22 = .ok (.iconst 1, 1) := by decide +kernel
theorem d_M_fits_23 : decode b_M_fits 23 = .ok (.if_icmp .lt 9, 3) := by decide +kernel
theorem d_M_fits_26 : decode b_M_fits 26 = .ok (.iload_n 3, 1) := by decide +kernel
theorem d_M_fits_27 : decode b_M_fits 27 = .ok (.bipush 62, 2) := by decide +kernel
theorem d_M_fits_29 : decode b_M_fits 29 = .ok (.if_icmp .le 7, 3) := by decide +kernel
theorem d_M_fits_32 : decode b_M_fits 32 = .ok (.iconst 2, 1) := by decide +kernel
theorem d_M_fits_33 : decode b_M_fits 33 = .ok (.goto 4, 3) := by decide +kernel
theorem d_M_fits_36 : decode b_M_fits 36 = .ok (.iconst 0, 1) := by decide +kernel
theorem d_M_fits_37 : decode b_M_fits 37 = .ok (.putfield 48, 3) := by decide +kernel
theorem d_M_fits_40 : decode b_M_fits 40 = .ok (.aload_n 0, 1) := by decide +kernel
theorem d_M_fits_41 : decode b_M_fits 41 = .ok (.getfield 48, 3) := by decide +kernel
theorem d_M_fits_44 : decode b_M_fits 44 = .ok (.ifCond .le 5, 3) := by decide +kernel
theorem d_M_fits_47 : decode b_M_fits 47 = .ok (.iconst 0, 1) := by decide +kernel
theorem d_M_fits_48 : decode b_M_fits 48 = .ok (.ireturn, 1) := by decide +kernel
theorem d_M_fits_49 : decode b_M_fits 49 = .ok (.aload_n 0, 1) := by decide +kernel
theorem d_M_fits_50 : decode b_M_fits 50 = .ok (.iload_n 1, 1) := by decide +kernel
theorem d_M_fits_51 : decode b_M_fits 51 = .ok (.invokevirtual 98, 3) := by decide +kernel
theorem d_M_fits_54 : decode b_M_fits 54 = .ok (.ifCond .ne 5, 3) := by decide +kernel
theorem d_M_fits_57 : decode b_M_fits 57 = .ok (.iconst 1, 1) := by decide +kernel
theorem d_M_fits_58 : decode b_M_fits 58 = .ok (.ireturn, 1) := by decide +kernel
theorem d_M_fits_59 : decode b_M_fits 59 = .ok (.lconst 1, 1) := by decide +kernel
theorem d_M_fits_60 : decode b_M_fits 60 = .ok (.iload_n 3, 1) := by decide +kernel
theorem d_M_fits_61 : decode b_M_fits 61 = .ok (.iconst 1, 1) := by decide +kernel
theorem d_M_fits_62 : decode b_M_fits 62 = .ok (.isub, 1) := by decide +kernel
theorem d_M_fits_63 : decode b_M_fits 63 = .ok (.lshl, 1) := by decide +kernel
theorem d_M_fits_64 : decode b_M_fits 64 = .ok (.lstore 4, 2) := by decide +kernel
theorem d_M_fits_66 : decode b_M_fits 66 = .ok (.aload_n 0, 1) := by decide +kernel
theorem d_M_fits_67 : decode b_M_fits 67 = .ok (.iload_n 2, 1) := by decide +kernel
theorem d_M_fits_68 : decode b_M_fits 68 = .ok (.iconst 0, 1) := by decide +kernel
theorem d_M_fits_69 : decode b_M_fits 69 = .ok (.invokevirtual 104, 3) := by decide +kernel
theorem d_M_fits_72 : decode b_M_fits 72 = .ok (.lload 4, 2) := by decide +kernel
theorem d_M_fits_74 : decode b_M_fits 74 = .ok (.lconst 1, 1) := by decide +kernel
theorem d_M_fits_75 : decode b_M_fits 75 = .ok (.lsub, 1) := by decide +kernel
theorem d_M_fits_76 : decode b_M_fits 76 = .ok (.lcmp, 1) := by decide +kernel
theorem d_M_fits_77 : decode b_M_fits 77 = .ok (.ifCond .gt 20, 3) := by decide +kernel
theorem d_M_fits_80 : decode b_M_fits 80 = .ok (.aload_n 0, 1) := by decide +kernel
theorem d_M_fits_81 : decode b_M_fits 81 = .ok (.iload_n 2, 1) := by decide +kernel
theorem d_M_fits_82 : decode b_M_fits 82 = .ok (.ineg, 1) := by decide +kernel
theorem d_M_fits_83 : decode b_M_fits 83 = .ok (.iconst 0, 1) := by decide +kernel
theorem d_M_fits_84 : decode b_M_fits 84 = .ok (.invokevirtual 104, 3) := by decide +kernel
theorem d_M_fits_87 : decode b_M_fits 87 = .ok (.lload 4, 2) := by decide +kernel
theorem d_M_fits_89 : decode b_M_fits 89 = .ok (.lcmp, 1) := by decide +kernel
theorem d_M_fits_90 : decode b_M_fits 90 = .ok (.ifCond .gt 7, 3) := by decide +kernel
theorem d_M_fits_93 : decode b_M_fits 93 = .ok (.iconst 1, 1) := by decide +kernel
theorem d_M_fits_94 : decode b_M_fits 94 = .ok (.goto 4, 3) := by decide +kernel
theorem d_M_fits_97 : decode b_M_fits 97 = .ok (.iconst 0, 1) := by decide +kernel
theorem d_M_fits_98 : decode b_M_fits 98 = .ok (.ireturn, 1) := by decide +kernel
theorem d_M_array_0 : decode b_M_array 0 = .ok (.aload_n 0, 1) := by decide +kernel
theorem d_M_array_1 : decode b_M_array 1 = .ok (.aload_n 0, 1) := by decide +kernel
theorem d_M_array_2 : decode b_M_array 2 = .ok (.iload_n 1, 1) := by decide +kernel
theorem d_M_array_3 : decode b_M_array 3 = .ok (.invokevirtual 83, 3) := by decide +kernel
theorem d_M_array_6 : decode b_M_array 6 = .ok (.ifCond .eq 28, 3) := by decide +kernel
theorem d_M_array_9 : decode b_M_array 9 = .ok (.aload_n 0, 1) := by decide +kernel
theorem d_M_array_10 : decode b_M_array 10 = .ok (.iload_n 2, 1) := by decide +kernel
theorem d_M_array_11 : decode b_M_array 11 = .ok (.invokevirtual 132, 3) := by decide +kernel
theorem d_M_array_14 : decode b_M_array 14 = .ok (.ifCond .eq 20, 3) := by decide +kernel
theorem d_M_array_17 : decode b_M_array 17 = .ok (.aload_n 0, 1) := by decide +kernel
theorem d_M_array_18 : decode b_M_array 18 = .ok (.iload_n 3, 1) := by decide +kernel
theorem d_M_array_19 : decode b_M_array 19 = .ok (.invokevirtual 132, 3) := by decide +kernel
theorem d_M_array_22 : decode b_M_array 22 = .ok (.ifCond .eq 12, 3) := by decide +kernel
theorem d_M_array_25 : decode b_M_array 25 = .ok (.iload_n 2, 1) := by decide +kernel
theorem d_M_array_26 : decode b_M_array 26 = .ok (.iload_n 3, 1) := by decide +kernel
theorem d_M_array_27 : decode b_M_array 27 = .ok (.if_icmp .eq 7, 3) := by decide +kernel
theorem d_M_array_30 : decode b_M_array 30 = .ok (.iconst 0, 1) := by decide +kernel
theorem d_M_array_31 : decode b_M_array 31 = .ok (.goto 4, 3) := by decide +kernel
theorem d_M_array_34 : decode b_M_array 34 = .ok (.iconst 1, 1) := by decide +kernel
theorem d_M_array_35 : decode b_M_array 35 = .ok (.putfield 48, 3) := by decide +kernel
theorem d_M_array_38 : decode b_M_array 38 = .ok (.aload_n 0, 1) := by decide +kernel
theorem d_M_array_39 : decode b_M_array 39 = .ok (.getfield 48, 3) := by decide +kernel
theorem d_M_array_42 : decode b_M_array 42 = .ok (.ifCond .le 5, 3) := by decide +kernel
theorem d_M_array_45 : decode b_M_array 45 = .ok (.iconst 0, 1) := by decide +kernel
theorem d_M_array_46 : decode b_M_array 46 = .ok (.ireturn, 1) := by decide +kernel
theorem d_M_array_47 : decode b_M_array 47 = .ok (.aload_n 0, 1) := by decide +kernel
theorem d_M_array_48 : decode b_M_array 48 = .ok (.iload_n 1, 1) := by decide +kernel
theorem d_M_array_49 : decode b_M_array 49 = .ok (.invokevirtual 98, 3) := by decide +kernel
theorem d_M_array_52 : decode b_M_array 52 = .ok (.ifCond .ne 5, 3) := by decide +kernel
theorem d_M_array_55 : decode b_M_array 55 = .ok (.iconst 1, 1) := by decide +kernel
theorem d_M_array_56 : decode b_M_array 56 = .ok (.ireturn, 1) := by decide +kernel
theorem d_M_array_57 : decode b_M_array 57 = .ok (.aload_n 0, 1) := by decide +kernel
theorem d_M_array_58 : decode b_M_array 58 = .ok (.iload_n 2, 1) := by decide +kernel
theorem d_M_array_59 : decode b_M_array 59 = .ok (.ineg, 1) := by decide +kernel
theorem d_M_array_60 : decode b_M_array 60 = .ok (.iconst 0, 1) := by decide +kernel
theorem d_M_array_61 : decode b_M_array 61 = .ok (.invokevirtual 104, 3) := by decide +kernel
theorem d_M_array_64 : decode b_M_array 64 = .ok (.lconst 0, 1) := by decide +kernel
theorem d_M_array_65 : decode b_M_array 65 = .ok (.lcmp, 1) := by decide +kernel
theorem d_M_array_66 : decode b_M_array 66 = .ok (.ifCond .gt 19, 3) := by decide +kernel
theorem d_M_array_69 : decode b_M_array 69 = .ok (.aload_n 0, 1) := by decide +kernel
theorem d_M_array_70 : decode b_M_array 70 = .ok (.iload_n 2, 1) := by decide +kernel
theorem d_M_array_71 : decode b_M_array 71 = .ok (.iload_n 3, 1) := by decide +kernel
theorem d_M_array_72 : decode b_M_array 72 = .ok (.ineg, 1) := by decide +kernel
theorem d_M_array_73 : decode b_M_array 73 = .ok (.invokevirtual 104, 3) := by decide +kernel
theorem d_M_array_76 : decode b_M_array 76 = .ok (.ldc2_w 153, 3) := by decide +kernel
theorem d_M_array_79 : decode b_M_array 79 = .ok (.lcmp, 1) := by decide +kernel
theorem d_M_array_80 : decode b_M_array 80 = .ok (.ifCond .gt 5, 3) := by decide +kernel
theorem d_M_array_83 : decode b_M_array 83 = .ok (.iconst 1, 1) := by decide +kernel
theorem d_M_array_84 : decode b_M_array 84 = .ok (.ireturn, 1) := by decide +kernel
theorem d_M_array_85 : decode b_M_array 85 = .ok (.aload_n 0, 1) := by decide +kernel
theorem d_M_array_86 : decode b_M_array 86 = .ok (.iload_n 2, 1) := by decide +kernel
theorem d_M_array_87 : decode b_M_array 87 = .ok (.ineg, 1) := by decide +kernel
theorem d_M_array_88 : decode b_M_array 88 = .ok (.iconst 0, 1) := by decide +kernel
theorem d_M_array_89 : decode b_M_array 89 = .ok (.lconst 0, 1) := by decide +kernel
theorem d_M_array_90 : decode b_M_array 90 = .ok (.invokevirtual 142, 3) := by decide +kernel
theorem d_M_array_93 : decode b_M_array 93 = .ok (.aload_n 0, 1) := by decide +kernel
theorem d_M_array_94 : decode b_M_array 94 = .ok (.iload_n 2, 1) := by decide +kernel
theorem d_M_array_95 : decode b_M_array 95 = .ok (.iload_n 3, 1) := by decide +kernel
theorem d_M_array_96 : decode b_M_array 96 = .ok (.ineg, 1) := by decide +kernel
theorem d_M_array_97 : decode b_M_array 97 = .ok (.ldc2_w 153, 3) := by decide +kernel
theorem d_M_array_100 : decode b_M_array 100 = .ok (.invokevirtual 142, 3) := by decide +kernel
theorem d_M_array_103 : decode b_M_array 103 = .ok (.aload_n 0, 1) := by decide +kernel
theorem d_M_array_104 : decode b_M_array 104 = .ok (.invokevirtual 69, 3) := by decide +kernel
theorem d_M_array_107 : decode b_M_array 107 = .ok (.ifCond .eq 7, 3) := by decide +kernel
theorem d_M_array_110 : decode b_M_array 110 = .ok (.iconst 0, 1) := by decide +kernel
theorem d_M_array_111 : decode b_M_array 111 = .ok (.goto 4, 3) := by decide +kernel
theorem d_M_array_114 : decode b_M_array 114 = .ok (.iconst (-1), 1) := by decide +kernel
theorem d_M_array_115 : decode b_M_array 115 = .ok (.ireturn, 1) := by decide +kernel
theorem d_M_told_0 : decode b_M_told 0 = .ok (.aload_n 0, 1) := by decide +kernel
theorem d_M_told_1 : decode b_M_told 1 = .ok (.iload_n 1, 1) := by decide +kernel
theorem d_M_told_2 : decode b_M_told 2 = .ok (.ifCond .lt 13, 3) := by decide +kernel
theorem d_M_told_5 : decode b_M_told 5 = .ok (.iload_n 1, 1) := by decide +kernel
theorem d_M_told_6 : decode b_M_told 6 = .ok (.bipush 9, 2) := by decide +kernel
theorem d_M_told_8 : decode b_M_told 8 = .ok (.if_icmp .gt 7, 3) := by decide +kernel
theorem d_M_told_11 : decode b_M_told 11 = .ok (.iconst 0, 1) := by decide +kernel
theorem d_M_told_12 : decode b_M_told 12 = .ok (.goto 4, 3) := by decide +kernel
theorem d_M_told_15 : decode b_M_told 15 = .ok (.iconst 1, 1) := by decide +kernel
theorem d_M_told_16 : decode b_M_told 16 = .ok (.putfield 48, 3) := by decide +kernel
theorem d_M_told_19 : decode b_M_told 19 = .ok (.aload_n 0, 1) := by decide +kernel
theorem d_M_told_20 : decode b_M_told 20 = .ok (.getfield 48, 3) := by decide +kernel
theorem d_M_told_23 : decode b_M_told 23 = .ok (.ifCond .le 5, 3) := by decide +kernel
theorem d_M_told_26 : decode b_M_told 26 = .ok (.iconst 0, 1) := by decide +kernel
theorem d_M_told_27 : decode b_M_told 27 = .ok (.ireturn, 1) := by decide +kernel
theorem d_M_told_28 : decode b_M_told 28 = .ok (.iconst 0, 1) := by decide +kernel
theorem d_M_told_29 : decode b_M_told 29 = .ok (.istore_n 2, 1) := by decide +kernel
theorem d_M_told_30 : decode b_M_told 30 = .ok (.iload_n 1, 1) := by decide +kernel
theorem d_M_told_31 : decode b_M_told 31 = .ok (.ifCond .ne 8, 3) := by decide +kernel
theorem d_M_told_34 : decode b_M_told 34 = .ok (.aload_n 0, 1) := by decide +kernel
theorem d_M_told_35 : decode b_M_told 35 = .ok (.getfield 42, 3) := by decide +kernel
theorem d_M_told_38 : decode b_M_told 38 = .ok (.ireturn, 1) := by decide +kernel
theorem d_M_told_39 : decode b_M_told 39 = .ok (.iload_n 1, 1) := by decide +kernel
theorem d_M_told_40 : decode b_M_told 40 = .ok (.bipush 9, 2) := by decide +kernel
theorem d_M_told_42 : decode b_M_told 42 = .ok (.if_icmp .ne 36, 3) := by decide +kernel
theorem d_M_told_45 : decode b_M_told 45 = .ok (.iconst 0, 1) := by decide +kernel
theorem d_M_told_46 : decode b_M_told 46 = .ok (.istore_n 3, 1) := by decide +kernel
theorem d_M_told_47 : decode b_M_told 47 = .ok (.iload_n 3, 1) := by decide +kernel
theorem d_M_told_48 : decode b_M_told 48 = .ok (.bipush 8, 2) := by decide +kernel
theorem d_M_told_50 : decode b_M_told 50 = .ok (.if_icmp .ge 26, 3) := by decide +kernel
theorem d_M_told_53 : decode b_M_told 53 = .ok (.iload_n 2, 1) := by decide +kernel
theorem d_M_told_54 : decode b_M_told 54 = .ok (.aload_n 0, 1) := by decide +kernel
theorem d_M_told_55 : decode b_M_told 55 = .ok (.getfield 13, 3) := by decide +kernel
theorem d_M_told_58 : decode b_M_told 58 = .ok (.iload_n 3, 1) := by decide +kernel
theorem d_M_told_59 : decode b_M_told 59 = .ok (.baload, 1) := by decide +kernel
theorem d_M_told_60 : decode b_M_told 60 = .ok (.ifCond .eq 7, 3) := by decide +kernel
theorem d_M_told_63 : decode b_M_told 63 = .ok (.iconst 1, 1) := by decide +kernel
theorem d_M_told_64 : decode b_M_told 64 = .ok (.goto 4, 3) := by decide +kernel
theorem d_M_told_67 : decode b_M_told 67 = .ok (.iconst 0, 1) := by decide +kernel
theorem d_M_told_68 : decode b_M_told 68 = .ok (.iadd, 1) := by decide +kernel
theorem d_M_told_69 : decode b_M_told 69 = .ok (.istore_n 2, 1) := by decide +kernel
theorem d_M_told_70 : decode b_M_told 70 = .ok (.iinc 3 1, 3) := by decide +kernel
theorem d_M_told_73 : decode b_M_told 73 = .ok (.goto (-26), 3) := by decide +kernel
theorem d_M_told_76 : decode b_M_told 76 = .ok (.iload_n 2, 1) := by decide +kernel
theorem d_M_told_77 : decode b_M_told 77 = .ok (.ireturn, 1) := by decide +kernel
theorem d_M_told_78 : decode b_M_told 78 = .ok (.iconst 0, 1) := by decide +kernel
theorem d_M_told_79 : decode b_M_told 79 = .ok (.istore_n 3, 1) := by decide +kernel
theorem d_M_told_80 : decode b_M_told 80 = .ok (.iload_n 3, 1) := by decide +kernel
theorem d_M_told_81 : decode b_M_told 81 = .ok (.bipush 10, 2) := by decide +kernel
theorem d_M_told_83 : decode b_M_told 83 = .ok (.if_icmp .ge 59, 3) := by decide +kernel
theorem d_M_told_86 : decode b_M_told 86 = .ok (.iload_n 3, 1) := by decide +kernel
theorem d_M_told_87 : decode b_M_told 87 = .ok (.istore 4, 2) := by decide +kernel
theorem d_M_told_89 : decode b_M_told 89 = .ok (.iload 4, 2) := by decide +kernel
theorem d_M_told_91 : decode b_M_told 91 = .ok (.bipush 10, 2) := by decide +kernel
theorem d_M_told_93 : decode b_M_told 93 = .ok (.if_icmp .ge 43, 3) := by decide +kernel
theorem d_M_told_96 : decode b_M_told 96 = .ok (.iload_n 2, 1) := by decide +kernel
theorem d_M_told_97 : decode b_M_told 97 = .ok (.aload_n 0, 1) := by decide +kernel
theorem d_M_told_98 : decode b_M_told 98 = .ok (.getfield 7, 3) := by decide +kernel
theorem d_M_told_101 : decode b_M_told 101 = .ok (.bipush 100, 2) := by decide +kernel
theorem d_M_told_103 : decode b_M_told 103 = .ok (.iload_n 1, 1) := by decide +kernel
theorem d_M_told_104 : decode b_M_told 104 = .ok (.iconst 1, 1) := by decide +kernel
theorem d_M_told_105 : decode b_M_told 105 = .ok (.isub, 1) := by decide +kernel
theorem d_M_told_106 : decode b_M_told 106 = .ok (.imul, 1) := by decide +kernel
theorem d_M_told_107 : decode b_M_told 107 = .ok (.bipush 10, 2) := by decide +kernel
theorem d_M_told_109 : decode b_M_told 109 = .ok (.iload_n 3, 1) := by decide +kernel
theorem d_M_told_110 : decode b_M_told 110 = .ok (.imul, 1) := by decide +kernel
theorem d_M_told_111 : decode b_M_told 111 = .ok (.iadd, 1) := by decide +kernel
theorem d_M_told_112 : decode b_M_told 112 = .ok (.iload 4, 2) := by decide +kernel
theorem d_M_told_114 : decode b_M_told 114 = .ok (.iadd, 1) := by decide +kernel
theorem d_M_told_115 : decode b_M_told 115 = .ok (.laload, 1) := by decide +kernel
theorem d_M_told_116 : decode b_M_told 116 = .ok (.ldc2_w 46, 3) := by decide +kernel
theorem d_M_told_119 : decode b_M_told 119 = .ok (.lcmp, 1) := by decide +kernel
theorem d_M_told_120 : decode b_M_told 120 = .ok (.ifCond .eq 7, 3) := by decide +kernel
theorem d_M_told_123 : decode b_M_told 123 = .ok (.iconst 1, 1) := by decide +kernel
theorem d_M_told_124 : decode b_M_told 124 = .ok (.goto 4, 3) := by decide +kernel
theorem d_M_told_127 : decode b_M_told 127 = .ok (.iconst 0, 1) := by decide +kernel
theorem d_M_told_128 : decode b_M_told 128 = .ok (.iadd, 1) := by decide +kernel
theorem d_M_told_129 : decode b_M_told 129 = .ok (.istore_n 2, 1) := by decide +kernel
theorem d_M_told_130 : decode b_M_told 130 = .ok (.iinc 4 1, 3) := by decide +kernel
theorem d_M_told_133 : decode b_M_told 133 = .ok (.goto (-44), 3) := by decide +kernel
theorem d_M_told_136 : decode b_M_told 136 = .ok (.iinc 3 1, 3) := by decide +kernel
theorem d_M_told_139 : decode b_M_told 139 = .ok (.goto (-59), 3) := by decide +kernel
theorem d_M_told_142 : decode b_M_told 142 = .ok (.iload_n 2, 1) := by decide +kernel
theorem d_M_told_143 : decode b_M_told 143 = .ok (.ireturn, 1) := by decide +kernel
