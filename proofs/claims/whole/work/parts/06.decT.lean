theorem d_S_init_0 : decode b_S_init 0 = .ok (.aload_n 0, 1) := by decide +kernel
theorem d_S_init_1 : decode b_S_init 1 = .ok (.invokespecial 3, 3) := by decide +kernel
theorem d_S_init_4 : decode b_S_init 4 = .ok (.aload_n 0, 1) := by decide +kernel
theorem d_S_init_5 : decode b_S_init 5 = .ok (.iload_n 1, 1) := by decide +kernel
theorem d_S_init_6 : decode b_S_init 6 = .ok (.putfield 9, 3) := by decide +kernel
theorem d_S_init_9 : decode b_S_init 9 = .ok (.aload_n 0, 1) := by decide +kernel
theorem d_S_init_10 : decode b_S_init 10 = .ok (.new 15, 3) := by decide +kernel
theorem d_S_init_13 : decode b_S_init 13 = .ok (.dup, 1) := by decide +kernel
theorem d_S_init_14 : decode b_S_init 14 = .ok (.iload_n 1, 1) := by decide +kernel
theorem d_S_init_15 : decode b_S_init 15 = .ok (.invokespecial 17, 3) := by decide +kernel
theorem d_S_init_18 : decode b_S_init 18 = .ok (.putfield 20, 3) := by decide +kernel
theorem d_S_init_21 : decode b_S_init 21 = .ok (.aload_n 0, 1) := by decide +kernel
theorem d_S_init_22 : decode b_S_init 22 = .ok (.new 15, 3) := by decide +kernel
theorem d_S_init_25 : decode b_S_init 25 = .ok (.dup, 1) := by decide +kernel
theorem d_S_init_26 : decode b_S_init 26 = .ok (.iload_n 1, 1) := by decide +kernel
theorem d_S_init_27 : decode b_S_init 27 = .ok (.invokespecial 17, 3) := by decide +kernel
theorem d_S_init_30 : decode b_S_init 30 = .ok (.putfield 24, 3) := by decide +kernel
theorem d_S_init_33 : decode b_S_init 33 = .ok (.aload_n 0, 1) := by decide +kernel
theorem d_S_init_34 : decode b_S_init 34 = .ok (.getfield 24, 3) := by decide +kernel
theorem d_S_init_37 : decode b_S_init 37 = .ok (.lconst 0, 1) := by decide +kernel
theorem d_S_init_38 : decode b_S_init 38 = .ok (.invokevirtual 27, 3) := by decide +kernel
theorem d_S_init_41 : decode b_S_init 41 = .ok (.aload_n 0, 1) := by decide +kernel
theorem d_S_init_42 : decode b_S_init 42 = .ok (.iconst 0, 1) := by decide +kernel
theorem d_S_init_43 : decode b_S_init 43 = .ok (.putfield 31, 3) := by decide +kernel
theorem d_S_init_46 : decode b_S_init 46 = .ok (.return_, 1) := by decide +kernel
theorem d_S_becomeAll_0 : decode b_S_becomeAll 0 = .ok (.aload_n 0, 1) := by decide +kernel
theorem d_S_becomeAll_1 : decode b_S_becomeAll 1 = .ok (.iconst 0, 1) := by decide +kernel
theorem d_S_becomeAll_2 : decode b_S_becomeAll 2 = .ok (.putfield 31, 3) := by decide +kernel
theorem d_S_becomeAll_5 : decode b_S_becomeAll 5 = .ok (.aload_n 0, 1) := by decide +kernel
theorem d_S_becomeAll_6 : decode b_S_becomeAll 6 = .ok (.getfield 20, 3) := by decide +kernel
theorem d_S_becomeAll_9 : decode b_S_becomeAll 9 = .ok (.invokevirtual 35, 3) := by decide +kernel
theorem d_S_becomeAll_12 : decode b_S_becomeAll 12 = .ok (.aload_n 0, 1) := by decide +kernel
theorem d_S_becomeAll_13 : decode b_S_becomeAll 13 = .ok (.getfield 24, 3) := by decide +kernel
theorem d_S_becomeAll_16 : decode b_S_becomeAll 16 = .ok (.invokevirtual 35, 3) := by decide +kernel
theorem d_S_becomeAll_19 : decode b_S_becomeAll 19 = .ok (.aload_n 0, 1) := by decide +kernel
theorem d_S_becomeAll_20 : decode b_S_becomeAll 20 = .ok (.getfield 24, 3) := by decide +kernel
theorem d_S_becomeAll_23 : decode b_S_becomeAll 23 = .ok (.lconst 0, 1) := by decide +kernel
theorem d_S_becomeAll_24 : decode b_S_becomeAll 24 = .ok (.invokevirtual 27, 3) := by decide +kernel
theorem d_S_becomeAll_27 : decode b_S_becomeAll 27 = .ok (.return_, 1) := by decide +kernel
theorem d_S_becomeEmpty_0 : decode b_S_becomeEmpty 0 = .ok (.aload_n 0, 1) := by decide +kernel
theorem d_S_becomeEmpty_1 : decode b_S_becomeEmpty 1 = .ok (.invokevirtual 38, 3) := by decide +kernel
theorem d_S_becomeEmpty_4 : decode b_S_becomeEmpty 4 = .ok (.aload_n 0, 1) := by decide +kernel
theorem d_S_becomeEmpty_5 : decode b_S_becomeEmpty 5 = .ok (.iconst 1, 1) := by decide +kernel
theorem d_S_becomeEmpty_6 : decode b_S_becomeEmpty 6 = .ok (.putfield 31, 3) := by decide +kernel
theorem d_S_becomeEmpty_9 : decode b_S_becomeEmpty 9 = .ok (.return_, 1) := by decide +kernel
theorem d_S_becomeLike_0 : decode b_S_becomeLike 0 = .ok (.aload_n 0, 1) := by decide +kernel
theorem d_S_becomeLike_1 : decode b_S_becomeLike 1 = .ok (.aload_n 1, 1) := by decide +kernel
theorem d_S_becomeLike_2 : decode b_S_becomeLike 2 = .ok (.getfield 31, 3) := by decide +kernel
theorem d_S_becomeLike_5 : decode b_S_becomeLike 5 = .ok (.putfield 31, 3) := by decide +kernel
theorem d_S_becomeLike_8 : decode b_S_becomeLike 8 = .ok (.aload_n 0, 1) := by decide +kernel
theorem d_S_becomeLike_9 : decode b_S_becomeLike 9 = .ok (.getfield 20, 3) := by decide +kernel
theorem d_S_becomeLike_12 : decode b_S_becomeLike 12 = .ok (.aload_n 1, 1) := by decide +kernel
theorem d_S_becomeLike_13 : decode b_S_becomeLike 13 = .ok (.getfield 20, 3) := by decide +kernel
theorem d_S_becomeLike_16 : decode b_S_becomeLike 16 = .ok (.invokevirtual 41, 3) := by decide +kernel
theorem d_S_becomeLike_19 : decode b_S_becomeLike 19 = .ok (.aload_n 0, 1) := by decide +kernel
theorem d_S_becomeLike_20 : decode b_S_becomeLike 20 = .ok (.getfield 24, 3) := by decide +kernel
theorem d_S_becomeLike_23 : decode b_S_becomeLike 23 = .ok (.aload_n 1, 1) := by decide +kernel
theorem d_S_becomeLike_24 : decode b_S_becomeLike 24 = .ok (.getfield 24, 3) := by decide +kernel
theorem d_S_becomeLike_27 : decode b_S_becomeLike 27 = .ok (.invokevirtual 41, 3) := by decide +kernel
theorem d_S_becomeLike_30 : decode b_S_becomeLike 30 = .ok (.return_, 1) := by decide +kernel
theorem d_S_greatest_0 : decode b_S_greatest 0 = .ok (.aload_n 0, 1) := by decide +kernel
theorem d_S_greatest_1 : decode b_S_greatest 1 = .ok (.getfield 31, 3) := by decide +kernel
theorem d_S_greatest_4 : decode b_S_greatest 4 = .ok (.ifCond .eq 7, 3) := by decide +kernel
theorem d_S_greatest_7 : decode b_S_greatest 7 = .ok (.ldc2_w 45, 3) := by decide +kernel
theorem d_S_greatest_10 : decode b_S_greatest 10 = .ok (.lreturn, 1) := by decide +kernel
theorem d_S_greatest_11 : decode b_S_greatest 11 = .ok (.iload_n 1, 1) := by decide +kernel
theorem d_S_greatest_12 : decode b_S_greatest 12 = .ok (.iload_n 2, 1) := by decide +kernel
theorem d_S_greatest_13 : decode b_S_greatest 13 = .ok (.ineg, 1) := by decide +kernel
theorem d_S_greatest_14 : decode b_S_greatest 14 = .ok (.if_icmp .ne 7, 3) := by decide +kernel
theorem d_S_greatest_17 : decode b_S_greatest 17 = .ok (.lconst 0, 1) := by decide +kernel
theorem d_S_greatest_18 : decode b_S_greatest 18 = .ok (.goto 12, 3) := by decide +kernel
theorem d_S_greatest_21 : decode b_S_greatest 21 = .ok (.aload_n 0, 1) := by decide +kernel
theorem d_S_greatest_22 : decode b_S_greatest 22 = .ok (.getfield 24, 3) := by decide +kernel
theorem d_S_greatest_25 : decode b_S_greatest 25 = .ok (.iload_n 1, 1) := by decide +kernel
theorem d_S_greatest_26 : decode b_S_greatest 26 = .ok (.iload_n 2, 1) := by decide +kernel
theorem d_S_greatest_27 : decode b_S_greatest 27 = .ok (.invokevirtual 47, 3) := by decide +kernel
theorem d_S_greatest_30 : decode b_S_greatest 30 = .ok (.lreturn, 1) := by decide +kernel
theorem d_S_addRow_0 : decode b_S_addRow 0 = .ok (.aload_n 0, 1) := by decide +kernel
theorem d_S_addRow_1 : decode b_S_addRow 1 = .ok (.getfield 31, 3) := by decide +kernel
theorem d_S_addRow_4 : decode b_S_addRow 4 = .ok (.ifCond .eq 4, 3) := by decide +kernel
theorem d_S_addRow_7 : decode b_S_addRow 7 = .ok (.return_, 1) := by decide +kernel
theorem d_S_addRow_8 : decode b_S_addRow 8 = .ok (.iload_n 1, 1) := by decide +kernel
theorem d_S_addRow_9 : decode b_S_addRow 9 = .ok (.iload_n 2, 1) := by decide +kernel
theorem d_S_addRow_10 : decode b_S_addRow 10 = .ok (.ineg, 1) := by decide +kernel
theorem d_S_addRow_11 : decode b_S_addRow 11 = .ok (.if_icmp .ne 14, 3) := by decide +kernel
theorem d_S_addRow_14 : decode b_S_addRow 14 = .ok (.lload_n 3, 1) := by decide +kernel
theorem d_S_addRow_15 : decode b_S_addRow 15 = .ok (.lconst 0, 1) := by decide +kernel
theorem d_S_addRow_16 : decode b_S_addRow 16 = .ok (.lcmp, 1) := by decide +kernel
theorem d_S_addRow_17 : decode b_S_addRow 17 = .ok (.ifCond .ge 7, 3) := by decide +kernel
theorem d_S_addRow_20 : decode b_S_addRow 20 = .ok (.aload_n 0, 1) := by decide +kernel
theorem d_S_addRow_21 : decode b_S_addRow 21 = .ok (.invokevirtual 51, 3) := by decide +kernel
theorem d_S_addRow_24 : decode b_S_addRow 24 = .ok (.return_, 1) := by decide +kernel
theorem d_S_addRow_25 : decode b_S_addRow 25 = .ok (.iload_n 1, 1) := by decide +kernel
theorem d_S_addRow_26 : decode b_S_addRow 26 = .ok (.ifCond .eq 7, 3) := by decide +kernel
theorem d_S_addRow_29 : decode b_S_addRow 29 = .ok (.iload_n 2, 1) := by decide +kernel
theorem d_S_addRow_30 : decode b_S_addRow 30 = .ok (.ifCond .ne 36, 3) := by decide +kernel
theorem d_S_addRow_33 : decode b_S_addRow 33 = .ok (.iload_n 1, 1) := by decide +kernel
theorem d_S_addRow_34 : decode b_S_addRow 34 = .ok (.ifCond .ne 7, 3) := by decide +kernel
theorem d_S_addRow_37 : decode b_S_addRow 37 = .ok (.iload_n 2, 1) := by decide +kernel
theorem d_S_addRow_38 : decode b_S_addRow 38 = .ok (.goto 4, 3) := by decide +kernel
theorem d_S_addRow_41 : decode b_S_addRow 41 = .ok (.iload_n 1, 1) := by decide +kernel
theorem d_S_addRow_42 : decode b_S_addRow 42 = .ok (.invokestatic 54, 3) := by decide +kernel
theorem d_S_addRow_45 : decode b_S_addRow 45 = .ok (.istore 5, 2) := by decide +kernel
theorem d_S_addRow_47 : decode b_S_addRow 47 = .ok (.aload_n 0, 1) := by decide +kernel
theorem d_S_addRow_48 : decode b_S_addRow 48 = .ok (.getfield 20, 3) := by decide +kernel
theorem d_S_addRow_51 : decode b_S_addRow 51 = .ok (.iload 5, 2) := by decide +kernel
theorem d_S_addRow_53 : decode b_S_addRow 53 = .ok (.iload 5, 2) := by decide +kernel
theorem d_S_addRow_55 : decode b_S_addRow 55 = .ok (.ldc2_w 58, 3) := by decide +kernel
theorem d_S_addRow_58 : decode b_S_addRow 58 = .ok (.lload_n 3, 1) := by decide +kernel
theorem d_S_addRow_59 : decode b_S_addRow 59 = .ok (.lmul, 1) := by decide +kernel
theorem d_S_addRow_60 : decode b_S_addRow 60 = .ok (.invokevirtual 60, 3) := by decide +kernel
theorem d_S_addRow_63 : decode b_S_addRow 63 = .ok (.goto 53, 3) := by decide +kernel
theorem d_S_addRow_66 : decode b_S_addRow 66 = .ok (.iload_n 1, 1) := by decide +kernel
theorem d_S_addRow_67 : decode b_S_addRow 67 = .ok (.iload_n 2, 1) := by decide +kernel
theorem d_S_addRow_68 : decode b_S_addRow 68 = .ok (.if_icmp .ne 32, 3) := by decide +kernel
theorem d_S_addRow_71 : decode b_S_addRow 71 = .ok (.aload_n 0, 1) := by decide +kernel
theorem d_S_addRow_72 : decode b_S_addRow 72 = .ok (.getfield 20, 3) := by decide +kernel
theorem d_S_addRow_75 : decode b_S_addRow 75 = .ok (.iload_n 1, 1) := by decide +kernel
theorem d_S_addRow_76 : decode b_S_addRow 76 = .ok (.invokestatic 54, 3) := by decide +kernel
theorem d_S_addRow_79 : decode b_S_addRow 79 = .ok (.iload_n 1, 1) := by decide +kernel
theorem d_S_addRow_80 : decode b_S_addRow 80 = .ok (.invokestatic 54, 3) := by decide +kernel
theorem d_S_addRow_83 : decode b_S_addRow 83 = .ok (.ldc2_w 58, 3) := by decide +kernel
theorem d_S_addRow_86 : decode b_S_addRow 86 = .ok (.lload_n 3, 1) := by decide +kernel
theorem d_S_addRow_87 : decode b_S_addRow 87 = .ok (.ldc2_w 58, 3) := by decide +kernel
theorem d_S_addRow_90 : decode b_S_addRow 90 = .ok (.invokestatic 64, 3) := by decide +kernel
theorem d_S_addRow_93 : decode b_S_addRow 93 = .ok (.lmul, 1) := by decide +kernel
theorem d_S_addRow_94 : decode b_S_addRow 94 = .ok (.invokevirtual 60, 3) := by decide +kernel
theorem d_S_addRow_97 : decode b_S_addRow 97 = .ok (.goto 19, 3) := by decide +kernel
theorem d_S_addRow_100 : decode b_S_addRow 100 = .ok (.aload_n 0, 1) := by decide +kernel
theorem d_S_addRow_101 : decode b_S_addRow 101 = .ok (.getfield 20, 3) := by decide +kernel
theorem d_S_addRow_104 : decode b_S_addRow 104 = .ok (.iload_n 1, 1) := by decide +kernel
theorem d_S_addRow_105 : decode b_S_addRow 105 = .ok (.invokestatic 54, 3) := by decide +kernel
theorem d_S_addRow_108 : decode b_S_addRow 108 = .ok (.iload_n 2, 1) := by decide +kernel
theorem d_S_addRow_109 : decode b_S_addRow 109 = .ok (.invokestatic 54, 3) := by decide +kernel
theorem d_S_addRow_112 : decode b_S_addRow 112 = .ok (.lload_n 3, 1) := by decide +kernel
theorem d_S_addRow_113 : decode b_S_addRow 113 = .ok (.invokevirtual 60, 3) := by decide +kernel
theorem d_S_addRow_116 : decode b_S_addRow 116 = .ok (.aload_n 0, 1) := by decide +kernel
theorem d_S_addRow_117 : decode b_S_addRow 117 = .ok (.invokevirtual 70, 3) := by decide +kernel
theorem d_S_addRow_120 : decode b_S_addRow 120 = .ok (.return_, 1) := by decide +kernel
theorem d_S_becomeMeeting_0 : decode b_S_becomeMeeting 0 = .ok (.aload_n 1, 1) := by decide +kernel
theorem d_S_becomeMeeting_1 : decode b_S_becomeMeeting 1 = .ok (.getfield 31, 3) := by decide +kernel
theorem d_S_becomeMeeting_4 : decode b_S_becomeMeeting 4 = .ok (.ifCond .ne 10, 3) := by decide +kernel
theorem d_S_becomeMeeting_7 : decode b_S_becomeMeeting 7 = .ok (.aload_n 2, 1) := by decide +kernel
theorem d_S_becomeMeeting_8 : decode b_S_becomeMeeting 8 = .ok (.getfield 31, 3) := by decide +kernel
theorem d_S_becomeMeeting_11 : decode b_S_becomeMeeting 11 = .ok (.ifCond .eq 8, 3) := by decide +kernel
theorem d_S_becomeMeeting_14 : decode b_S_becomeMeeting 14 = .ok (.aload_n 0, 1) := by decide +kernel
theorem d_S_becomeMeeting_15 : decode b_S_becomeMeeting 15 = .ok (.invokevirtual 51, 3) := by decide +kernel
theorem d_S_becomeMeeting_18 : decode b_S_becomeMeeting 18 = .ok (.return_, 1) := by decide +kernel
theorem d_S_becomeMeeting_19 : decode b_S_becomeMeeting 19 = .ok (.aload_n 0, 1) := by decide +kernel
theorem d_S_becomeMeeting_20 : decode b_S_becomeMeeting 20 = .ok (.invokevirtual 38, 3) := by decide +kernel
theorem d_S_becomeMeeting_23 : decode b_S_becomeMeeting 23 = .ok (.iconst 0, 1) := by decide +kernel
theorem d_S_becomeMeeting_24 : decode b_S_becomeMeeting 24 = .ok (.istore_n 3, 1) := by decide +kernel
theorem d_S_becomeMeeting_25 : decode b_S_becomeMeeting 25 = .ok (.iload_n 3, 1) := by decide +kernel
theorem d_S_becomeMeeting_26 : decode b_S_becomeMeeting 26 = .ok (.aload_n 0, 1) := by decide +kernel
theorem d_S_becomeMeeting_27 : decode b_S_becomeMeeting 27 = .ok (.getfield 9, 3) := by decide +kernel
theorem d_S_becomeMeeting_30 : decode b_S_becomeMeeting 30 = .ok (.if_icmp .ge 60, 3) := by decide +kernel
theorem d_S_becomeMeeting_33 : decode b_S_becomeMeeting 33 = .ok (.iload_n 3, 1) := by decide +kernel
theorem d_S_becomeMeeting_34 : decode b_S_becomeMeeting 34 = .ok (.istore 4, 2) := by decide +kernel
theorem d_S_becomeMeeting_36 : decode b_S_becomeMeeting 36 = .ok (.iload 4, 2) := by decide +kernel
theorem d_S_becomeMeeting_38 : decode b_S_becomeMeeting 38 = .ok (.aload_n 0, 1) := by decide +kernel
theorem d_S_becomeMeeting_39 : decode b_S_becomeMeeting 39 = .ok (.getfield 9, 3) := by decide +kernel
theorem d_S_becomeMeeting_42 : decode b_S_becomeMeeting 42 = .ok (.if_icmp .ge 42, 3) := by decide +kernel
theorem d_S_becomeMeeting_45 : decode b_S_becomeMeeting 45 = .ok (.aload_n 0, 1) := by decide +kernel
theorem d_S_becomeMeeting_46 : decode b_S_becomeMeeting 46 = .ok (.getfield 20, 3) := by decide +kernel
theorem d_S_becomeMeeting_49 : decode b_S_becomeMeeting 49 = .ok (.iload_n 3, 1) := by decide +kernel
theorem d_S_becomeMeeting_50 : decode b_S_becomeMeeting 50 = .ok (.iload 4, 2) := by decide +kernel
theorem d_S_becomeMeeting_52 : decode b_S_becomeMeeting 52 = .ok (.aload_n 1, 1) := by decide +kernel
theorem d_S_becomeMeeting_53 : decode b_S_becomeMeeting 53 = .ok (.getfield 24, 3) := by decide +kernel
theorem d_S_becomeMeeting_56 : decode b_S_becomeMeeting 56 = .ok (.iload_n 3, 1) := by decide +kernel
theorem d_S_becomeMeeting_57 : decode b_S_becomeMeeting 57 = .ok (.iload 4, 2) := by decide +kernel
theorem d_S_becomeMeeting_59 : decode b_S_becomeMeeting 59 = .ok (.invokevirtual 73, 3) := by decide +kernel
theorem d_S_becomeMeeting_62 : decode b_S_becomeMeeting 62 = .ok (.aload_n 2, 1) := by decide +kernel
theorem d_S_becomeMeeting_63 : decode b_S_becomeMeeting 63 = .ok (.getfield 24, 3) := by decide +kernel
theorem d_S_becomeMeeting_66 : decode b_S_becomeMeeting 66 = .ok (.iload_n 3, 1) := by decide +kernel
theorem d_S_becomeMeeting_67 : decode b_S_becomeMeeting 67 = .ok (.iload 4, 2) := by decide +kernel
theorem d_S_becomeMeeting_69 : decode b_S_becomeMeeting 69 = .ok (.invokevirtual 73, 3) := by decide +kernel
theorem d_S_becomeMeeting_72 : decode b_S_becomeMeeting 72 = .ok (.invokestatic 76, 3) := by decide +kernel
theorem d_S_becomeMeeting_75 : decode b_S_becomeMeeting 75 = .ok (.invokevirtual 79, 3) := by decide +kernel
theorem d_S_becomeMeeting_78 : decode b_S_becomeMeeting 78 = .ok (.iinc 4 1, 3) := by decide +kernel
theorem d_S_becomeMeeting_81 : decode b_S_becomeMeeting 81 = .ok (.goto (-45), 3) := by decide +kernel
theorem d_S_becomeMeeting_84 : decode b_S_becomeMeeting 84 = .ok (.iinc 3 1, 3) := by decide +kernel
theorem d_S_becomeMeeting_87 : decode b_S_becomeMeeting 87 = .ok (.goto (-62), 3) := by decide +kernel
theorem d_S_becomeMeeting_90 : decode b_S_becomeMeeting 90 = .ok (.aload_n 0, 1) := by decide +kernel
theorem d_S_becomeMeeting_91 : decode b_S_becomeMeeting 91 = .ok (.invokevirtual 70, 3) := by decide +kernel
theorem d_S_becomeMeeting_94 : decode b_S_becomeMeeting 94 = .ok (.aload_n 0, 1) := by decide +kernel
theorem d_S_becomeMeeting_95 : decode b_S_becomeMeeting 95 = .ok (.invokevirtual 82, 3) := by decide +kernel
theorem d_S_becomeMeeting_98 : decode b_S_becomeMeeting 98 = .ok (.return_, 1) := by decide +kernel
theorem d_S_becomeJoin_0 : decode b_S_becomeJoin 0 = .ok (.aload_n 1, 1) := by decide +kernel
theorem d_S_becomeJoin_1 : decode b_S_becomeJoin 1 = .ok (.getfield 31, 3) := by decide +kernel
theorem d_S_becomeJoin_4 : decode b_S_becomeJoin 4 = .ok (.ifCond .ne 10, 3) := by decide +kernel
theorem d_S_becomeJoin_7 : decode b_S_becomeJoin 7 = .ok (.aload_n 2, 1) := by decide +kernel
theorem d_S_becomeJoin_8 : decode b_S_becomeJoin 8 = .ok (.getfield 31, 3) := by decide +kernel
theorem d_S_becomeJoin_11 : decode b_S_becomeJoin 11 = .ok (.ifCond .eq 24, 3) := by decide +kernel
theorem d_S_becomeJoin_14 : decode b_S_becomeJoin 14 = .ok (.aload_n 0, 1) := by decide +kernel
theorem d_S_becomeJoin_15 : decode b_S_becomeJoin 15 = .ok (.aload_n 1, 1) := by decide +kernel
theorem d_S_becomeJoin_16 : decode b_S_becomeJoin 16 = .ok (.getfield 31, 3) := by decide +kernel
theorem d_S_becomeJoin_19 : decode b_S_becomeJoin 19 = .ok (.ifCond .eq 7, 3) := by decide +kernel
theorem d_S_becomeJoin_22 : decode b_S_becomeJoin 22 = .ok (.aload_n 2, 1) := by decide +kernel
theorem d_S_becomeJoin_23 : decode b_S_becomeJoin 23 = .ok (.goto 4, 3) := by decide +kernel
theorem d_S_becomeJoin_26 : decode b_S_becomeJoin 26 = .ok (.aload_n 1, 1) := by decide +kernel
theorem d_S_becomeJoin_27 : decode b_S_becomeJoin 27 = .ok (.invokevirtual 85, 3) := by decide +kernel
theorem d_S_becomeJoin_30 : decode b_S_becomeJoin 30 = .ok (.aload_n 0, 1) := by decide +kernel
theorem d_S_becomeJoin_31 : decode b_S_becomeJoin 31 = .ok (.invokevirtual 82, 3) := by decide +kernel
theorem d_S_becomeJoin_34 : decode b_S_becomeJoin 34 = .ok (.return_, 1) := by decide +kernel
theorem d_S_becomeJoin_35 : decode b_S_becomeJoin 35 = .ok (.aload_n 0, 1) := by decide +kernel
theorem d_S_becomeJoin_36 : decode b_S_becomeJoin 36 = .ok (.invokevirtual 38, 3) := by decide +kernel
theorem d_S_becomeJoin_39 : decode b_S_becomeJoin 39 = .ok (.iconst 0, 1) := by decide +kernel
theorem d_S_becomeJoin_40 : decode b_S_becomeJoin 40 = .ok (.istore_n 3, 1) := by decide +kernel
theorem d_S_becomeJoin_41 : decode b_S_becomeJoin 41 = .ok (.iload_n 3, 1) := by decide +kernel
theorem d_S_becomeJoin_42 : decode b_S_becomeJoin 42 = .ok (.aload_n 0, 1) := by decide +kernel
theorem d_S_becomeJoin_43 : decode b_S_becomeJoin 43 = .ok (.getfield 9, 3) := by decide +kernel
theorem d_S_becomeJoin_46 : decode b_S_becomeJoin 46 = .ok (.if_icmp .ge 60, 3) := by decide +kernel
theorem d_S_becomeJoin_49 : decode b_S_becomeJoin 49 = .ok (.iload_n 3, 1) := by decide +kernel
theorem d_S_becomeJoin_50 : decode b_S_becomeJoin 50 = .ok (.istore 4, 2) := by decide +kernel
theorem d_S_becomeJoin_52 : decode b_S_becomeJoin 52 = .ok (.iload 4, 2) := by decide +kernel
theorem d_S_becomeJoin_54 : decode b_S_becomeJoin 54 = .ok (.aload_n 0, 1) := by decide +kernel
theorem d_S_becomeJoin_55 : decode b_S_becomeJoin 55 = .ok (.getfield 9, 3) := by decide +kernel
theorem d_S_becomeJoin_58 : decode b_S_becomeJoin 58 = .ok (.if_icmp .ge 42, 3) := by decide +kernel
theorem d_S_becomeJoin_61 : decode b_S_becomeJoin 61 = .ok (.aload_n 0, 1) := by decide +kernel
theorem d_S_becomeJoin_62 : decode b_S_becomeJoin 62 = .ok (.getfield 24, 3) := by decide +kernel
theorem d_S_becomeJoin_65 : decode b_S_becomeJoin 65 = .ok (.iload_n 3, 1) := by decide +kernel
theorem d_S_becomeJoin_66 : decode b_S_becomeJoin 66 = .ok (.iload 4, 2) := by decide +kernel
theorem d_S_becomeJoin_68 : decode b_S_becomeJoin 68 = .ok (.aload_n 1, 1) := by decide +kernel
theorem d_S_becomeJoin_69 : decode b_S_becomeJoin 69 = .ok (.getfield 24, 3) := by decide +kernel
theorem d_S_becomeJoin_72 : decode b_S_becomeJoin 72 = .ok (.iload_n 3, 1) := by decide +kernel
theorem d_S_becomeJoin_73 : decode b_S_becomeJoin 73 = .ok (.iload 4, 2) := by decide +kernel
theorem d_S_becomeJoin_75 : decode b_S_becomeJoin 75 = .ok (.invokevirtual 73, 3) := by decide +kernel
theorem d_S_becomeJoin_78 : decode b_S_becomeJoin 78 = .ok (.aload_n 2, 1) := by decide +kernel
theorem d_S_becomeJoin_79 : decode b_S_becomeJoin 79 = .ok (.getfield 24, 3) := by decide +kernel
theorem d_S_becomeJoin_82 : decode b_S_becomeJoin 82 = .ok (.iload_n 3, 1) := by decide +kernel
theorem d_S_becomeJoin_83 : decode b_S_becomeJoin 83 = .ok (.iload 4, 2) := by decide +kernel
theorem d_S_becomeJoin_85 : decode b_S_becomeJoin 85 = .ok (.invokevirtual 73, 3) := by decide +kernel
theorem d_S_becomeJoin_88 : decode b_S_becomeJoin 88 = .ok (.invokestatic 89, 3) := by decide +kernel
theorem d_S_becomeJoin_91 : decode b_S_becomeJoin 91 = .ok (.invokevirtual 79, 3) := by decide +kernel
theorem d_S_becomeJoin_94 : decode b_S_becomeJoin 94 = .ok (.iinc 4 1, 3) := by decide +kernel
theorem d_S_becomeJoin_97 : decode b_S_becomeJoin 97 = .ok (.goto (-45), 3) := by decide +kernel
theorem d_S_becomeJoin_100 : decode b_S_becomeJoin 100 = .ok (.iinc 3 1, 3) := by decide +kernel
theorem d_S_becomeJoin_103 : decode b_S_becomeJoin 103 = .ok (.goto (-62), 3) := by decide +kernel
theorem d_S_becomeJoin_106 : decode b_S_becomeJoin 106 = .ok (.aload_n 0, 1) := by decide +kernel
theorem d_S_becomeJoin_107 : decode b_S_becomeJoin 107 = .ok (.invokevirtual 82, 3) := by decide +kernel
theorem d_S_becomeJoin_110 : decode b_S_becomeJoin 110 = .ok (.return_, 1) := by decide +kernel
theorem d_S_becomeWidened_0 : decode b_S_becomeWidened 0 = .ok (.aload_n 1, 1) := by decide +kernel
theorem d_S_becomeWidened_1 : decode b_S_becomeWidened 1 = .ok (.getfield 31, 3) := by decide +kernel
theorem d_S_becomeWidened_4 : decode b_S_becomeWidened 4 = .ok (.ifCond .ne 10, 3) := by decide +kernel
theorem d_S_becomeWidened_7 : decode b_S_becomeWidened 7 = .ok (.aload_n 2, 1) := by decide +kernel
theorem d_S_becomeWidened_8 : decode b_S_becomeWidened 8 = .ok (.getfield 31, 3) := by decide +kernel
theorem d_S_becomeWidened_11 : decode b_S_becomeWidened 11 = .ok (.ifCond .eq 20, 3) := by decide +kernel
theorem d_S_becomeWidened_14 : decode b_S_becomeWidened 14 = .ok (.aload_n 0, 1) := by decide +kernel
theorem d_S_becomeWidened_15 : decode b_S_becomeWidened 15 = .ok (.aload_n 1, 1) := by decide +kernel
theorem d_S_becomeWidened_16 : decode b_S_becomeWidened 16 = .ok (.getfield 31, 3) := by decide +kernel
theorem d_S_becomeWidened_19 : decode b_S_becomeWidened 19 = .ok (.ifCond .eq 7, 3) := by decide +kernel
theorem d_S_becomeWidened_22 : decode b_S_becomeWidened 22 = .ok (.aload_n 2, 1) := by decide +kernel
theorem d_S_becomeWidened_23 : decode b_S_becomeWidened 23 = .ok (.goto 4, 3) := by decide +kernel
theorem d_S_becomeWidened_26 : decode b_S_becomeWidened 26 = .ok (.aload_n 1, 1) := by decide +kernel
theorem d_S_becomeWidened_27 : decode b_S_becomeWidened 27 = .ok (.invokevirtual 85, 3) := by decide +kernel
theorem d_S_becomeWidened_30 : decode b_S_becomeWidened 30 = .ok (.return_, 1) := by decide +kernel
theorem d_S_becomeWidened_31 : decode b_S_becomeWidened 31 = .ok (.aload_n 0, 1) := by decide +kernel
theorem d_S_becomeWidened_32 : decode b_S_becomeWidened 32 = .ok (.invokevirtual 38, 3) := by decide +kernel
theorem d_S_becomeWidened_35 : decode b_S_becomeWidened 35 = .ok (.iconst 0, 1) := by decide +kernel
theorem d_S_becomeWidened_36 : decode b_S_becomeWidened 36 = .ok (.istore_n 3, 1) := by decide +kernel
theorem d_S_becomeWidened_37 : decode b_S_becomeWidened 37 = .ok (.iload_n 3, 1) := by decide +kernel
theorem d_S_becomeWidened_38 : decode b_S_becomeWidened 38 = .ok (.aload_n 0, 1) := by decide +kernel
theorem d_S_becomeWidened_39 : decode b_S_becomeWidened 39 = .ok (.getfield 9, 3) := by decide +kernel
theorem d_S_becomeWidened_42 : decode b_S_becomeWidened 42 = .ok (.if_icmp .ge 73, 3) := by decide +kernel
theorem d_S_becomeWidened_45 : decode b_S_becomeWidened 45 = .ok (.iload_n 3, 1) := by decide +kernel
theorem d_S_becomeWidened_46 : decode b_S_becomeWidened 46 = .ok (.istore 4, 2) := by decide +kernel
theorem d_S_becomeWidened_48 : decode b_S_becomeWidened 48 = .ok (.iload 4, 2) := by decide +kernel
theorem d_S_becomeWidened_50 : decode b_S_becomeWidened 50 = .ok (.aload_n 0, 1) := by decide +kernel
theorem d_S_becomeWidened_51 : decode b_S_becomeWidened 51 = .ok (.getfield 9, 3) := by decide +kernel
theorem d_S_becomeWidened_54 : decode b_S_becomeWidened 54 = .ok (.if_icmp .ge 55, 3) := by decide +kernel
theorem d_S_becomeWidened_57 : decode b_S_becomeWidened 57 = .ok (.aload_n 1, 1) := by decide +kernel
theorem d_S_becomeWidened_58 : decode b_S_becomeWidened 58 = .ok (.getfield 20, 3) := by decide +kernel
theorem d_S_becomeWidened_61 : decode b_S_becomeWidened 61 = .ok (.iload_n 3, 1) := by decide +kernel
theorem d_S_becomeWidened_62 : decode b_S_becomeWidened 62 = .ok (.iload 4, 2) := by decide +kernel
theorem d_S_becomeWidened_64 : decode b_S_becomeWidened 64 = .ok (.invokevirtual 73, 3) := by decide +kernel
theorem d_S_becomeWidened_67 : decode b_S_becomeWidened 67 = .ok (.lstore 5, 2) := by decide +kernel
theorem d_S_becomeWidened_69 : decode b_S_becomeWidened 69 = .ok (.aload_n 0, 1) := by decide +kernel
theorem d_S_becomeWidened_70 : decode b_S_becomeWidened 70 = .ok (.getfield 20, 3) := by decide +kernel
theorem d_S_becomeWidened_73 : decode b_S_becomeWidened 73 = .ok (.iload_n 3, 1) := by decide +kernel
theorem d_S_becomeWidened_74 : decode b_S_becomeWidened 74 = .ok (.iload 4, 2) := by decide +kernel
theorem d_S_becomeWidened_76 : decode b_S_becomeWidened 76 = .ok (.aload_n 2, 1) := by decide +kernel
theorem d_S_becomeWidened_77 : decode b_S_becomeWidened 77 = .ok (.getfield 24, 3) := by decide +kernel
theorem d_S_becomeWidened_80 : decode b_S_becomeWidened 80 = .ok (.iload_n 3, 1) := by decide +kernel
theorem d_S_becomeWidened_81 : decode b_S_becomeWidened 81 = .ok (.iload 4, 2) := by decide +kernel
theorem d_S_becomeWidened_83 : decode b_S_becomeWidened 83 = .ok (.invokevirtual 73, 3) := by decide +kernel
theorem d_S_becomeWidened_86 : decode b_S_becomeWidened 86 = .ok (.lload 5, 2) := by decide +kernel
theorem d_S_becomeWidened_88 : decode b_S_becomeWidened 88 = .ok (.lcmp, 1) := by decide +kernel
theorem d_S_becomeWidened_89 : decode b_S_becomeWidened 89 = .ok (.ifCond .gt 8, 3) := by decide +kernel
theorem d_S_becomeWidened_92 : decode b_S_becomeWidened 92 = .ok (.lload 5, 2) := by decide +kernel
theorem d_S_becomeWidened_94 : decode b_S_becomeWidened 94 = .ok (.goto 6, 3) := by decide +kernel
theorem d_S_becomeWidened_97 : decode b_S_becomeWidened 97 = .ok (.ldc2_w 92, 3) := by decide +kernel
theorem d_S_becomeWidened_100 : decode b_S_becomeWidened 100 = .ok (.invokevirtual 79, 3) := by decide +kernel
theorem d_S_becomeWidened_103 : decode b_S_becomeWidened 103 = .ok (.iinc 4 1, 3) := by decide +kernel
theorem d_S_becomeWidened_106 : decode b_S_becomeWidened 106 = .ok (.goto (-58), 3) := by decide +kernel
theorem d_S_becomeWidened_109 : decode b_S_becomeWidened 109 = .ok (.iinc 3 1, 3) := by decide +kernel
theorem d_S_becomeWidened_112 : decode b_S_becomeWidened 112 = .ok (.goto (-75), 3) := by decide +kernel
theorem d_S_becomeWidened_115 : decode b_S_becomeWidened 115 = .ok (.aload_n 0, 1) := by decide +kernel
theorem d_S_becomeWidened_116 : decode b_S_becomeWidened 116 = .ok (.invokevirtual 70, 3) := by decide +kernel
theorem d_S_becomeWidened_119 : decode b_S_becomeWidened 119 = .ok (.return_, 1) := by decide +kernel
theorem d_S_becomeNarrowed_0 : decode b_S_becomeNarrowed 0 = .ok (.aload_n 1, 1) := by decide +kernel
theorem d_S_becomeNarrowed_1 : decode b_S_becomeNarrowed 1 = .ok (.getfield 31, 3) := by decide +kernel
theorem d_S_becomeNarrowed_4 : decode b_S_becomeNarrowed 4 = .ok (.ifCond .ne 10, 3) := by decide +kernel
theorem d_S_becomeNarrowed_7 : decode b_S_becomeNarrowed 7 = .ok (.aload_n 2, 1) := by decide +kernel
theorem d_S_becomeNarrowed_8 : decode b_S_becomeNarrowed 8 = .ok (.getfield 31, 3) := by decide +kernel
theorem d_S_becomeNarrowed_11 : decode b_S_becomeNarrowed 11 = .ok (.ifCond .eq 8, 3) := by decide +kernel
theorem d_S_becomeNarrowed_14 : decode b_S_becomeNarrowed 14 = .ok (.aload_n 0, 1) := by decide +kernel
theorem d_S_becomeNarrowed_15 : decode b_S_becomeNarrowed 15 = .ok (.invokevirtual 51, 3) := by decide +kernel
theorem d_S_becomeNarrowed_18 : decode b_S_becomeNarrowed 18 = .ok (.return_, 1) := by decide +kernel
theorem d_S_becomeNarrowed_19 : decode b_S_becomeNarrowed 19 = .ok (.aload_n 0, 1) := by decide +kernel
theorem d_S_becomeNarrowed_20 : decode b_S_becomeNarrowed 20 = .ok (.invokevirtual 38, 3) := by decide +kernel
theorem d_S_becomeNarrowed_23 : decode b_S_becomeNarrowed 23 = .ok (.iconst 0, 1) := by decide +kernel
theorem d_S_becomeNarrowed_24 : decode b_S_becomeNarrowed 24 = .ok (.istore_n 3, 1) := by decide +kernel
theorem d_S_becomeNarrowed_25 : decode b_S_becomeNarrowed 25 = .ok (.iload_n 3, 1) := by decide +kernel
theorem d_S_becomeNarrowed_26 : decode b_S_becomeNarrowed 26 = .ok (.aload_n 0, 1) := by decide +kernel
theorem d_S_becomeNarrowed_27 : decode b_S_becomeNarrowed 27 = .ok (.getfield 9, 3) := by decide +kernel
theorem d_S_becomeNarrowed_30 : decode b_S_becomeNarrowed 30 = .ok (.if_icmp .ge 89, 3) := by decide +kernel
theorem d_S_becomeNarrowed_33 : decode b_S_becomeNarrowed 33 = .ok (.iload_n 3, 1) := by decide +kernel
theorem d_S_becomeNarrowed_34 : decode b_S_becomeNarrowed 34 = .ok (.istore 4, 2) := by decide +kernel
theorem d_S_becomeNarrowed_36 : decode b_S_becomeNarrowed 36 = .ok (.iload 4, 2) := by decide +kernel
theorem d_S_becomeNarrowed_38 : decode b_S_becomeNarrowed 38 = .ok (.aload_n 0, 1) := by decide +kernel
theorem d_S_becomeNarrowed_39 : decode b_S_becomeNarrowed 39 = .ok (.getfield 9, 3) := by decide +kernel
theorem d_S_becomeNarrowed_42 : decode b_S_becomeNarrowed 42 = .ok (.if_icmp .ge 71, 3) := by decide +kernel
theorem d_S_becomeNarrowed_45 : decode b_S_becomeNarrowed 45 = .ok (.aload_n 1, 1) := by decide +kernel
theorem d_S_becomeNarrowed_46 : decode b_S_becomeNarrowed 46 = .ok (.getfield 24, 3) := by decide +kernel
theorem d_S_becomeNarrowed_49 : decode b_S_becomeNarrowed 49 = .ok (.iload_n 3, 1) := by decide +kernel
theorem d_S_becomeNarrowed_50 : decode b_S_becomeNarrowed 50 = .ok (.iload 4, 2) := by decide +kernel
theorem d_S_becomeNarrowed_52 : decode b_S_becomeNarrowed 52 = .ok (.invokevirtual 73, 3) := by decide +kernel
theorem d_S_becomeNarrowed_55 : decode b_S_becomeNarrowed 55 = .ok (.ldc2_w 92, 3) := by decide +kernel
theorem d_S_becomeNarrowed_58 : decode b_S_becomeNarrowed 58 = .ok (.lcmp, 1) := by decide +kernel
theorem d_S_becomeNarrowed_59 : decode b_S_becomeNarrowed 59 = .ok (.ifCond .ne 7, 3) := by decide +kernel
theorem d_S_becomeNarrowed_62 : decode b_S_becomeNarrowed 62 = .ok (.iconst 1, 1) := by decide +kernel
theorem d_S_becomeNarrowed_63 : decode b_S_becomeNarrowed 63 = .ok (.goto 4, 3) := by decide +kernel
theorem d_S_becomeNarrowed_66 : decode b_S_becomeNarrowed 66 = .ok (.iconst 0, 1) := by decide +kernel
theorem d_S_becomeNarrowed_67 : decode b_S_becomeNarrowed 67 = .ok (.istore 5, 2) := by decide +kernel
theorem d_S_becomeNarrowed_69 : decode b_S_becomeNarrowed 69 = .ok (.aload_n 0, 1) := by decide +kernel
theorem d_S_becomeNarrowed_70 : decode b_S_becomeNarrowed 70 = .ok (.getfield 20, 3) := by decide +kernel
theorem d_S_becomeNarrowed_73 : decode b_S_becomeNarrowed 73 = .ok (.iload_n 3, 1) := by decide +kernel
theorem d_S_becomeNarrowed_74 : decode b_S_becomeNarrowed 74 = .ok (.iload 4, 2) := by decide +kernel
theorem d_S_becomeNarrowed_76 : decode b_S_becomeNarrowed 76 = .ok (.iload 5, 2) := by decide +kernel
theorem d_S_becomeNarrowed_78 : decode b_S_becomeNarrowed 78 = .ok (.ifCond .eq 16, 3) := by decide +kernel
theorem d_S_becomeNarrowed_81 : decode b_S_becomeNarrowed 81 = .ok (.aload_n 2, 1) := by decide +kernel
theorem d_S_becomeNarrowed_82 : decode b_S_becomeNarrowed 82 = .ok (.getfield 24, 3) := by decide +kernel
theorem d_S_becomeNarrowed_85 : decode b_S_becomeNarrowed 85 = .ok (.iload_n 3, 1) := by decide +kernel
theorem d_S_becomeNarrowed_86 : decode b_S_becomeNarrowed 86 = .ok (.iload 4, 2) := by decide +kernel
theorem d_S_becomeNarrowed_88 : decode b_S_becomeNarrowed 88 = .ok (.invokevirtual 73, 3) := by decide +kernel
theorem d_S_becomeNarrowed_91 : decode b_S_becomeNarrowed 91 = .ok (.goto 13, 3) := by decide +kernel
theorem d_S_becomeNarrowed_94 : decode b_S_becomeNarrowed 94 = .ok (.aload_n 1, 1) := by decide +kernel
theorem d_S_becomeNarrowed_95 : decode b_S_becomeNarrowed 95 = .ok (.getfield 20, 3) := by decide +kernel
theorem d_S_becomeNarrowed_98 : decode b_S_becomeNarrowed 98 = .ok (.iload_n 3, 1) := by decide +kernel
theorem d_S_becomeNarrowed_99 : decode b_S_becomeNarrowed 99 = .ok (.iload 4, 2) := by decide +kernel
theorem d_S_becomeNarrowed_101 : decode b_S_becomeNarrowed 101 = .ok (.invokevirtual 73, 3) := by decide +kernel
theorem d_S_becomeNarrowed_104 : decode b_S_becomeNarrowed 104 = .ok (.invokevirtual 79, 3) := by decide +kernel
theorem d_S_becomeNarrowed_107 : decode b_S_becomeNarrowed 107 = .ok (.iinc 4 1, 3) := by decide +kernel
theorem d_S_becomeNarrowed_110 : decode b_S_becomeNarrowed 110 = .ok (.goto (-74), 3) := by decide +kernel
theorem d_S_becomeNarrowed_113 : decode b_S_becomeNarrowed 113 = .ok (.iinc 3 1, 3) := by decide +kernel
theorem d_S_becomeNarrowed_116 : decode b_S_becomeNarrowed 116 = .ok (.goto (-91), 3) := by decide +kernel
theorem d_S_becomeNarrowed_119 : decode b_S_becomeNarrowed 119 = .ok (.aload_n 0, 1) := by decide +kernel
theorem d_S_becomeNarrowed_120 : decode b_S_becomeNarrowed 120 = .ok (.invokevirtual 70, 3) := by decide +kernel
theorem d_S_becomeNarrowed_123 : decode b_S_becomeNarrowed 123 = .ok (.return_, 1) := by decide +kernel
theorem d_S_becomeAssigned_0 : decode b_S_becomeAssigned 0 = .ok (.aload_n 1, 1) := by decide +kernel
theorem d_S_becomeAssigned_1 : decode b_S_becomeAssigned 1 = .ok (.getfield 31, 3) := by decide +kernel
theorem d_S_becomeAssigned_4 : decode b_S_becomeAssigned 4 = .ok (.ifCond .eq 8, 3) := by decide +kernel
theorem d_S_becomeAssigned_7 : decode b_S_becomeAssigned 7 = .ok (.aload_n 0, 1) := by decide +kernel
theorem d_S_becomeAssigned_8 : decode b_S_becomeAssigned 8 = .ok (.invokevirtual 51, 3) := by decide +kernel
theorem d_S_becomeAssigned_11 : decode b_S_becomeAssigned 11 = .ok (.return_, 1) := by decide +kernel
theorem d_S_becomeAssigned_12 : decode b_S_becomeAssigned 12 = .ok (.aload_n 0, 1) := by decide +kernel
theorem d_S_becomeAssigned_13 : decode b_S_becomeAssigned 13 = .ok (.invokevirtual 38, 3) := by decide +kernel
theorem d_S_becomeAssigned_16 : decode b_S_becomeAssigned 16 = .ok (.iconst 0, 1) := by decide +kernel
theorem d_S_becomeAssigned_17 : decode b_S_becomeAssigned 17 = .ok (.istore 6, 2) := by decide +kernel
theorem d_S_becomeAssigned_19 : decode b_S_becomeAssigned 19 = .ok (.iload 6, 2) := by decide +kernel
theorem d_S_becomeAssigned_21 : decode b_S_becomeAssigned 21 = .ok (.aload_n 0, 1) := by decide +kernel
theorem d_S_becomeAssigned_22 : decode b_S_becomeAssigned 22 = .ok (.getfield 9, 3) := by decide +kernel
theorem d_S_becomeAssigned_25 : decode b_S_becomeAssigned 25 = .ok (.if_icmp .ge 81, 3) := by decide +kernel
theorem d_S_becomeAssigned_28 : decode b_S_becomeAssigned 28 = .ok (.iload 6, 2) := by decide +kernel
theorem d_S_becomeAssigned_30 : decode b_S_becomeAssigned 30 = .ok (.istore 7, 2) := by decide +kernel
theorem d_S_becomeAssigned_32 : decode b_S_becomeAssigned 32 = .ok (.iload 7, 2) := by decide +kernel
theorem d_S_becomeAssigned_34 : decode b_S_becomeAssigned 34 = .ok (.aload_n 0, 1) := by decide +kernel
theorem d_S_becomeAssigned_35 : decode b_S_becomeAssigned 35 = .ok (.getfield 9, 3) := by decide +kernel
theorem d_S_becomeAssigned_38 : decode b_S_becomeAssigned 38 = .ok (.if_icmp .ge 62, 3) := by decide +kernel
theorem d_S_becomeAssigned_41 : decode b_S_becomeAssigned 41 = .ok (.aload_n 1, 1) := by decide +kernel
theorem d_S_becomeAssigned_42 : decode b_S_becomeAssigned 42 = .ok (.iload 6, 2) := by decide +kernel
theorem d_S_becomeAssigned_44 : decode b_S_becomeAssigned 44 = .ok (.iload_n 2, 1) := by decide +kernel
theorem d_S_becomeAssigned_45 : decode b_S_becomeAssigned 45 = .ok (.iload_n 3, 1) := by decide +kernel
theorem d_S_becomeAssigned_46 : decode b_S_becomeAssigned 46 = .ok (.invokestatic 94, 3) := by decide +kernel
theorem d_S_becomeAssigned_49 : decode b_S_becomeAssigned 49 = .ok (.iload 7, 2) := by decide +kernel
theorem d_S_becomeAssigned_51 : decode b_S_becomeAssigned 51 = .ok (.iload_n 2, 1) := by decide +kernel
theorem d_S_becomeAssigned_52 : decode b_S_becomeAssigned 52 = .ok (.iload_n 3, 1) := by decide +kernel
theorem d_S_becomeAssigned_53 : decode b_S_becomeAssigned 53 = .ok (.invokestatic 94, 3) := by decide +kernel
theorem d_S_becomeAssigned_56 : decode b_S_becomeAssigned 56 = .ok (.invokevirtual 98, 3) := by decide +kernel
theorem d_S_becomeAssigned_59 : decode b_S_becomeAssigned 59 = .ok (.lstore 8, 2) := by decide +kernel
theorem d_S_becomeAssigned_61 : decode b_S_becomeAssigned 61 = .ok (.aload_n 0, 1) := by decide +kernel
theorem d_S_becomeAssigned_62 : decode b_S_becomeAssigned 62 = .ok (.getfield 24, 3) := by decide +kernel
theorem d_S_becomeAssigned_65 : decode b_S_becomeAssigned 65 = .ok (.iload 6, 2) := by decide +kernel
theorem d_S_becomeAssigned_67 : decode b_S_becomeAssigned 67 = .ok (.iload 7, 2) := by decide +kernel
theorem d_S_becomeAssigned_69 : decode b_S_becomeAssigned 69 = .ok (.lload 8, 2) := by decide +kernel
theorem d_S_becomeAssigned_71 : decode b_S_becomeAssigned 71 = .ok (.iload 6, 2) := by decide +kernel
theorem d_S_becomeAssigned_73 : decode b_S_becomeAssigned 73 = .ok (.iload_n 2, 1) := by decide +kernel
theorem d_S_becomeAssigned_74 : decode b_S_becomeAssigned 74 = .ok (.lload 4, 2) := by decide +kernel
theorem d_S_becomeAssigned_76 : decode b_S_becomeAssigned 76 = .ok (.invokestatic 101, 3) := by decide +kernel
theorem d_S_becomeAssigned_79 : decode b_S_becomeAssigned 79 = .ok (.iload 7, 2) := by decide +kernel
theorem d_S_becomeAssigned_81 : decode b_S_becomeAssigned 81 = .ok (.iload_n 2, 1) := by decide +kernel
theorem d_S_becomeAssigned_82 : decode b_S_becomeAssigned 82 = .ok (.lload 4, 2) := by decide +kernel
theorem d_S_becomeAssigned_84 : decode b_S_becomeAssigned 84 = .ok (.invokestatic 101, 3) := by decide +kernel
theorem d_S_becomeAssigned_87 : decode b_S_becomeAssigned 87 = .ok (.ladd, 1) := by decide +kernel
theorem d_S_becomeAssigned_88 : decode b_S_becomeAssigned 88 = .ok (.invokestatic 105, 3) := by decide +kernel
theorem d_S_becomeAssigned_91 : decode b_S_becomeAssigned 91 = .ok (.invokevirtual 79, 3) := by decide +kernel
theorem d_S_becomeAssigned_94 : decode b_S_becomeAssigned 94 = .ok (.iinc 7 1, 3) := by decide +kernel
theorem d_S_becomeAssigned_97 : decode b_S_becomeAssigned 97 = .ok (.goto (-65), 3) := by decide +kernel
theorem d_S_becomeAssigned_100 : decode b_S_becomeAssigned 100 = .ok (.iinc 6 1, 3) := by decide +kernel
theorem d_S_becomeAssigned_103 : decode b_S_becomeAssigned 103 = .ok (.goto (-84), 3) := by decide +kernel
theorem d_S_becomeAssigned_106 : decode b_S_becomeAssigned 106 = .ok (.aload_n 0, 1) := by decide +kernel
theorem d_S_becomeAssigned_107 : decode b_S_becomeAssigned 107 = .ok (.invokevirtual 82, 3) := by decide +kernel
theorem d_S_becomeAssigned_110 : decode b_S_becomeAssigned 110 = .ok (.return_, 1) := by decide +kernel
theorem d_S_becomeFree_0 : decode b_S_becomeFree 0 = .ok (.aload_n 0, 1) := by decide +kernel
theorem d_S_becomeFree_1 : decode b_S_becomeFree 1 = .ok (.aload_n 1, 1) := by decide +kernel
theorem d_S_becomeFree_2 : decode b_S_becomeFree 2 = .ok (.invokevirtual 85, 3) := by decide +kernel
theorem d_S_becomeFree_5 : decode b_S_becomeFree 5 = .ok (.aload_n 0, 1) := by decide +kernel
theorem d_S_becomeFree_6 : decode b_S_becomeFree 6 = .ok (.getfield 31, 3) := by decide +kernel
theorem d_S_becomeFree_9 : decode b_S_becomeFree 9 = .ok (.ifCond .eq 4, 3) := by decide +kernel
theorem d_S_becomeFree_12 : decode b_S_becomeFree 12 = .ok (.return_, 1) := by decide +kernel
theorem d_S_becomeFree_13 : decode b_S_becomeFree 13 = .ok (.iconst 0, 1) := by decide +kernel
theorem d_S_becomeFree_14 : decode b_S_becomeFree 14 = .ok (.istore_n 3, 1) := by decide +kernel
theorem d_S_becomeFree_15 : decode b_S_becomeFree 15 = .ok (.iload_n 3, 1) := by decide +kernel
theorem d_S_becomeFree_16 : decode b_S_becomeFree 16 = .ok (.aload_n 0, 1) := by decide +kernel
theorem d_S_becomeFree_17 : decode b_S_becomeFree 17 = .ok (.getfield 9, 3) := by decide +kernel
theorem d_S_becomeFree_20 : decode b_S_becomeFree 20 = .ok (.if_icmp .ge 40, 3) := by decide +kernel
theorem d_S_becomeFree_23 : decode b_S_becomeFree 23 = .ok (.aload_n 0, 1) := by decide +kernel
theorem d_S_becomeFree_24 : decode b_S_becomeFree 24 = .ok (.getfield 24, 3) := by decide +kernel
theorem d_S_becomeFree_27 : decode b_S_becomeFree 27 = .ok (.iload_n 2, 1) := by decide +kernel
theorem d_S_becomeFree_28 : decode b_S_becomeFree 28 = .ok (.invokestatic 54, 3) := by decide +kernel
theorem d_S_becomeFree_31 : decode b_S_becomeFree 31 = .ok (.iload_n 3, 1) := by decide +kernel
theorem d_S_becomeFree_32 : decode b_S_becomeFree 32 = .ok (.ldc2_w 92, 3) := by decide +kernel
theorem d_S_becomeFree_35 : decode b_S_becomeFree 35 = .ok (.invokevirtual 79, 3) := by decide +kernel
theorem d_S_becomeFree_38 : decode b_S_becomeFree 38 = .ok (.aload_n 0, 1) := by decide +kernel
theorem d_S_becomeFree_39 : decode b_S_becomeFree 39 = .ok (.getfield 24, 3) := by decide +kernel
theorem d_S_becomeFree_42 : decode b_S_becomeFree 42 = .ok (.iload_n 2, 1) := by decide +kernel
theorem d_S_becomeFree_43 : decode b_S_becomeFree 43 = .ok (.ineg, 1) := by decide +kernel
theorem d_S_becomeFree_44 : decode b_S_becomeFree 44 = .ok (.invokestatic 54, 3) := by decide +kernel
theorem d_S_becomeFree_47 : decode b_S_becomeFree 47 = .ok (.iload_n 3, 1) := by decide +kernel
theorem d_S_becomeFree_48 : decode b_S_becomeFree 48 = .ok (.ldc2_w 92, 3) := by decide +kernel
theorem d_S_becomeFree_51 : decode b_S_becomeFree 51 = .ok (.invokevirtual 79, 3) := by decide +kernel
theorem d_S_becomeFree_54 : decode b_S_becomeFree 54 = .ok (.iinc 3 1, 3) := by decide +kernel
theorem d_S_becomeFree_57 : decode b_S_becomeFree 57 = .ok (.goto (-42), 3) := by decide +kernel
theorem d_S_becomeFree_60 : decode b_S_becomeFree 60 = .ok (.aload_n 0, 1) := by decide +kernel
theorem d_S_becomeFree_61 : decode b_S_becomeFree 61 = .ok (.getfield 24, 3) := by decide +kernel
theorem d_S_becomeFree_64 : decode b_S_becomeFree 64 = .ok (.lconst 0, 1) := by decide +kernel
theorem d_S_becomeFree_65 : decode b_S_becomeFree 65 = .ok (.invokevirtual 27, 3) := by decide +kernel
theorem d_S_becomeFree_68 : decode b_S_becomeFree 68 = .ok (.aload_n 0, 1) := by decide +kernel
theorem d_S_becomeFree_69 : decode b_S_becomeFree 69 = .ok (.invokevirtual 82, 3) := by decide +kernel
theorem d_S_becomeFree_72 : decode b_S_becomeFree 72 = .ok (.return_, 1) := by decide +kernel
theorem d_S_sourceOf_0 : decode b_S_sourceOf 0 = .ok (.iload_n 0, 1) := by decide +kernel
theorem d_S_sourceOf_1 : decode b_S_sourceOf 1 = .ok (.invokestatic 108, 3) := by decide +kernel
theorem d_S_sourceOf_4 : decode b_S_sourceOf 4 = .ok (.istore_n 3, 1) := by decide +kernel
theorem d_S_sourceOf_5 : decode b_S_sourceOf 5 = .ok (.iload_n 3, 1) := by decide +kernel
theorem d_S_sourceOf_6 : decode b_S_sourceOf 6 = .ok (.iload_n 1, 1) := by decide +kernel
theorem d_S_sourceOf_7 : decode b_S_sourceOf 7 = .ok (.if_icmp .ne 5, 3) := by decide +kernel
theorem d_S_sourceOf_10 : decode b_S_sourceOf 10 = .ok (.iload_n 2, 1) := by decide +kernel
theorem d_S_sourceOf_11 : decode b_S_sourceOf 11 = .ok (.ireturn, 1) := by decide +kernel
theorem d_S_sourceOf_12 : decode b_S_sourceOf 12 = .ok (.iload_n 3, 1) := by decide +kernel
theorem d_S_sourceOf_13 : decode b_S_sourceOf 13 = .ok (.iload_n 1, 1) := by decide +kernel
theorem d_S_sourceOf_14 : decode b_S_sourceOf 14 = .ok (.ineg, 1) := by decide +kernel
theorem d_S_sourceOf_15 : decode b_S_sourceOf 15 = .ok (.if_icmp .ne 8, 3) := by decide +kernel
theorem d_S_sourceOf_18 : decode b_S_sourceOf 18 = .ok (.iload_n 2, 1) := by decide +kernel
theorem d_S_sourceOf_19 : decode b_S_sourceOf 19 = .ok (.ineg, 1) := by decide +kernel
theorem d_S_sourceOf_20 : decode b_S_sourceOf 20 = .ok (.goto 4, 3) := by decide +kernel
theorem d_S_sourceOf_23 : decode b_S_sourceOf 23 = .ok (.iload_n 3, 1) := by decide +kernel
theorem d_S_sourceOf_24 : decode b_S_sourceOf 24 = .ok (.ireturn, 1) := by decide +kernel
theorem d_S_addedTo_0 : decode b_S_addedTo 0 = .ok (.iload_n 0, 1) := by decide +kernel
theorem d_S_addedTo_1 : decode b_S_addedTo 1 = .ok (.invokestatic 108, 3) := by decide +kernel
theorem d_S_addedTo_4 : decode b_S_addedTo 4 = .ok (.istore 4, 2) := by decide +kernel
theorem d_S_addedTo_6 : decode b_S_addedTo 6 = .ok (.iload 4, 2) := by decide +kernel
theorem d_S_addedTo_8 : decode b_S_addedTo 8 = .ok (.iload_n 1, 1) := by decide +kernel
theorem d_S_addedTo_9 : decode b_S_addedTo 9 = .ok (.if_icmp .ne 5, 3) := by decide +kernel
theorem d_S_addedTo_12 : decode b_S_addedTo 12 = .ok (.lload_n 2, 1) := by decide +kernel
theorem d_S_addedTo_13 : decode b_S_addedTo 13 = .ok (.lreturn, 1) := by decide +kernel
theorem d_S_addedTo_14 : decode b_S_addedTo 14 = .ok (.iload 4, 2) := by decide +kernel
theorem d_S_addedTo_16 : decode b_S_addedTo 16 = .ok (.iload_n 1, 1) := by decide +kernel
theorem d_S_addedTo_17 : decode b_S_addedTo 17 = .ok (.ineg, 1) := by decide +kernel
theorem d_S_addedTo_18 : decode b_S_addedTo 18 = .ok (.if_icmp .ne 8, 3) := by decide +kernel
theorem d_S_addedTo_21 : decode b_S_addedTo 21 = .ok (.lload_n 2, 1) := by decide +kernel
theorem d_S_addedTo_22 : decode b_S_addedTo 22 = .ok (.lneg, 1) := by decide +kernel
theorem d_S_addedTo_23 : decode b_S_addedTo 23 = .ok (.goto 4, 3) := by decide +kernel
theorem d_S_addedTo_26 : decode b_S_addedTo 26 = .ok (.lconst 0, 1) := by decide +kernel
theorem d_S_addedTo_27 : decode b_S_addedTo 27 = .ok (.lreturn, 1) := by decide +kernel
theorem d_S_closeKeptRows_0 : decode b_S_closeKeptRows 0 = .ok (.aload_n 0, 1) := by decide +kernel
theorem d_S_closeKeptRows_1 : decode b_S_closeKeptRows 1 = .ok (.getfield 24, 3) := by decide +kernel
theorem d_S_closeKeptRows_4 : decode b_S_closeKeptRows 4 = .ok (.aload_n 0, 1) := by decide +kernel
theorem d_S_closeKeptRows_5 : decode b_S_closeKeptRows 5 = .ok (.getfield 20, 3) := by decide +kernel
theorem d_S_closeKeptRows_8 : decode b_S_closeKeptRows 8 = .ok (.invokevirtual 41, 3) := by decide +kernel
theorem d_S_closeKeptRows_11 : decode b_S_closeKeptRows 11 = .ok (.aload_n 0, 1) := by decide +kernel
theorem d_S_closeKeptRows_12 : decode b_S_closeKeptRows 12 = .ok (.getfield 24, 3) := by decide +kernel
theorem d_S_closeKeptRows_15 : decode b_S_closeKeptRows 15 = .ok (.invokevirtual 111, 3) := by decide +kernel
theorem d_S_closeKeptRows_18 : decode b_S_closeKeptRows 18 = .ok (.ifCond .ne 7, 3) := by decide +kernel
theorem d_S_closeKeptRows_21 : decode b_S_closeKeptRows 21 = .ok (.aload_n 0, 1) := by decide +kernel
theorem d_S_closeKeptRows_22 : decode b_S_closeKeptRows 22 = .ok (.invokevirtual 51, 3) := by decide +kernel
theorem d_S_closeKeptRows_25 : decode b_S_closeKeptRows 25 = .ok (.return_, 1) := by decide +kernel
theorem d_S_keepBounds_0 : decode b_S_keepBounds 0 = .ok (.aload_n 0, 1) := by decide +kernel
theorem d_S_keepBounds_1 : decode b_S_keepBounds 1 = .ok (.getfield 31, 3) := by decide +kernel
theorem d_S_keepBounds_4 : decode b_S_keepBounds 4 = .ok (.ifCond .eq 4, 3) := by decide +kernel
theorem d_S_keepBounds_7 : decode b_S_keepBounds 7 = .ok (.return_, 1) := by decide +kernel
theorem d_S_keepBounds_8 : decode b_S_keepBounds 8 = .ok (.aload_n 0, 1) := by decide +kernel
theorem d_S_keepBounds_9 : decode b_S_keepBounds 9 = .ok (.getfield 20, 3) := by decide +kernel
theorem d_S_keepBounds_12 : decode b_S_keepBounds 12 = .ok (.aload_n 0, 1) := by decide +kernel
theorem d_S_keepBounds_13 : decode b_S_keepBounds 13 = .ok (.getfield 24, 3) := by decide +kernel
theorem d_S_keepBounds_16 : decode b_S_keepBounds 16 = .ok (.invokevirtual 41, 3) := by decide +kernel
theorem d_S_keepBounds_19 : decode b_S_keepBounds 19 = .ok (.aload_n 0, 1) := by decide +kernel
theorem d_S_keepBounds_20 : decode b_S_keepBounds 20 = .ok (.getfield 20, 3) := by decide +kernel
theorem d_S_keepBounds_23 : decode b_S_keepBounds 23 = .ok (.ldc2_w 92, 3) := by decide +kernel
theorem d_S_keepBounds_26 : decode b_S_keepBounds 26 = .ok (.invokevirtual 27, 3) := by decide +kernel
theorem d_S_keepBounds_29 : decode b_S_keepBounds 29 = .ok (.return_, 1) := by decide +kernel
theorem d_T_init_0 : decode b_T_init 0 = .ok (.aload_n 0, 1) := by decide +kernel
theorem d_T_init_1 : decode b_T_init 1 = .ok (.invokespecial 3, 3) := by decide +kernel
theorem d_T_init_4 : decode b_T_init 4 = .ok (.aload_n 0, 1) := by decide +kernel
theorem d_T_init_5 : decode b_T_init 5 = .ok (.iload_n 1, 1) := by decide +kernel
theorem d_T_init_6 : decode b_T_init 6 = .ok (.putfield 9, 3) := by decide +kernel
theorem d_T_init_9 : decode b_T_init 9 = .ok (.aload_n 0, 1) := by decide +kernel
theorem d_T_init_10 : decode b_T_init 10 = .ok (.iload_n 1, 1) := by decide +kernel
theorem d_T_init_11 : decode b_T_init 11 = .ok (.iload_n 1, 1) := by decide +kernel
theorem d_T_init_12 : decode b_T_init 12 = .ok (.imul, 1) := by decide +kernel
theorem d_T_init_13 : decode b_T_init 13 = .ok (.newarray .long, 2) := by decide +kernel
theorem d_T_init_15 : decode b_T_init 15 = .ok (.putfield 15, 3) := by decide +kernel
theorem d_T_init_18 : decode b_T_init 18 = .ok (.aload_n 0, 1) := by decide +kernel
theorem d_T_init_19 : decode b_T_init 19 = .ok (.getfield 15, 3) := by decide +kernel
theorem d_T_init_22 : decode b_T_init 22 = .ok (.ldc2_w 19, 3) := by decide +kernel
theorem d_T_init_25 : decode b_T_init 25 = .ok (.invokestatic 21, 3) := by decide +kernel
theorem d_T_init_28 : decode b_T_init 28 = .ok (.return_, 1) := by decide +kernel
theorem d_T_at_0 : decode b_T_at 0 = .ok (.aload_n 0, 1) := by decide +kernel
theorem d_T_at_1 : decode b_T_at 1 = .ok (.getfield 15, 3) := by decide +kernel
theorem d_T_at_4 : decode b_T_at 4 = .ok (.iload_n 1, 1) := by decide +kernel
theorem d_T_at_5 : decode b_T_at 5 = .ok (.aload_n 0, 1) := by decide +kernel
theorem d_T_at_6 : decode b_T_at 6 = .ok (.getfield 9, 3) := by decide +kernel
theorem d_T_at_9 : decode b_T_at 9 = .ok (.imul, 1) := by decide +kernel
theorem d_T_at_10 : decode b_T_at 10 = .ok (.iload_n 2, 1) := by decide +kernel
theorem d_T_at_11 : decode b_T_at 11 = .ok (.iadd, 1) := by decide +kernel
theorem d_T_at_12 : decode b_T_at 12 = .ok (.laload, 1) := by decide +kernel
theorem d_T_at_13 : decode b_T_at 13 = .ok (.lreturn, 1) := by decide +kernel
theorem d_T_half_0 : decode b_T_half 0 = .ok (.aload_n 0, 1) := by decide +kernel
theorem d_T_half_1 : decode b_T_half 1 = .ok (.iload_n 1, 1) := by decide +kernel
theorem d_T_half_2 : decode b_T_half 2 = .ok (.iload_n 1, 1) := by decide +kernel
theorem d_T_half_3 : decode b_T_half 3 = .ok (.invokevirtual 27, 3) := by decide +kernel
theorem d_T_half_6 : decode b_T_half 6 = .ok (.ldc2_w 19, 3) := by decide +kernel
theorem d_T_half_9 : decode b_T_half 9 = .ok (.lcmp, 1) := by decide +kernel
theorem d_T_half_10 : decode b_T_half 10 = .ok (.ifCond .ne 9, 3) := by decide +kernel
theorem d_T_half_13 : decode b_T_half 13 = .ok (.ldc2_w 19, 3) := by decide +kernel
theorem d_T_half_16 : decode b_T_half 16 = .ok (.goto 13, 3) := by decide +kernel
theorem d_T_half_19 : decode b_T_half 19 = .ok (.aload_n 0, 1) := by decide +kernel
theorem d_T_half_20 : decode b_T_half 20 = .ok (.iload_n 1, 1) := by decide +kernel
theorem d_T_half_21 : decode b_T_half 21 = .ok (.iload_n 1, 1) := by decide +kernel
theorem d_T_half_22 : decode b_T_half 22 = .ok (.invokevirtual 27, 3) := by decide +kernel
theorem d_T_half_25 : decode b_T_half 25 = .ok (.ldc2_w 31, 3) := by decide +kernel
theorem d_T_half_28 : decode b_T_half 28 = .ok (.ldiv, 1) := by decide +kernel
theorem d_T_half_29 : decode b_T_half 29 = .ok (.lreturn, 1) := by decide +kernel
theorem d_T_ofTerms_0 : decode b_T_ofTerms 0 = .ok (.iload_n 1, 1) := by decide +kernel
theorem d_T_ofTerms_1 : decode b_T_ofTerms 1 = .ok (.ifCond .eq 7, 3) := by decide +kernel
theorem d_T_ofTerms_4 : decode b_T_ofTerms 4 = .ok (.iload_n 2, 1) := by decide +kernel
theorem d_T_ofTerms_5 : decode b_T_ofTerms 5 = .ok (.ifCond .ne 20, 3) := by decide +kernel
theorem d_T_ofTerms_8 : decode b_T_ofTerms 8 = .ok (.aload_n 0, 1) := by decide +kernel
theorem d_T_ofTerms_9 : decode b_T_ofTerms 9 = .ok (.iload_n 1, 1) := by decide +kernel
theorem d_T_ofTerms_10 : decode b_T_ofTerms 10 = .ok (.ifCond .ne 7, 3) := by decide +kernel
theorem d_T_ofTerms_13 : decode b_T_ofTerms 13 = .ok (.iload_n 2, 1) := by decide +kernel
theorem d_T_ofTerms_14 : decode b_T_ofTerms 14 = .ok (.goto 4, 3) := by decide +kernel
theorem d_T_ofTerms_17 : decode b_T_ofTerms 17 = .ok (.iload_n 1, 1) := by decide +kernel
theorem d_T_ofTerms_18 : decode b_T_ofTerms 18 = .ok (.invokestatic 33, 3) := by decide +kernel
theorem d_T_ofTerms_21 : decode b_T_ofTerms 21 = .ok (.invokevirtual 37, 3) := by decide +kernel
theorem d_T_ofTerms_24 : decode b_T_ofTerms 24 = .ok (.lreturn, 1) := by decide +kernel
theorem d_T_ofTerms_25 : decode b_T_ofTerms 25 = .ok (.aload_n 0, 1) := by decide +kernel
theorem d_T_ofTerms_26 : decode b_T_ofTerms 26 = .ok (.iload_n 1, 1) := by decide +kernel
theorem d_T_ofTerms_27 : decode b_T_ofTerms 27 = .ok (.invokestatic 33, 3) := by decide +kernel
theorem d_T_ofTerms_30 : decode b_T_ofTerms 30 = .ok (.iload_n 2, 1) := by decide +kernel
theorem d_T_ofTerms_31 : decode b_T_ofTerms 31 = .ok (.invokestatic 33, 3) := by decide +kernel
theorem d_T_ofTerms_34 : decode b_T_ofTerms 34 = .ok (.invokevirtual 27, 3) := by decide +kernel
theorem d_T_ofTerms_37 : decode b_T_ofTerms 37 = .ok (.lreturn, 1) := by decide +kernel
theorem d_T_store_0 : decode b_T_store 0 = .ok (.aload_n 0, 1) := by decide +kernel
theorem d_T_store_1 : decode b_T_store 1 = .ok (.getfield 15, 3) := by decide +kernel
theorem d_T_store_4 : decode b_T_store 4 = .ok (.iload_n 1, 1) := by decide +kernel
theorem d_T_store_5 : decode b_T_store 5 = .ok (.aload_n 0, 1) := by decide +kernel
theorem d_T_store_6 : decode b_T_store 6 = .ok (.getfield 9, 3) := by decide +kernel
theorem d_T_store_9 : decode b_T_store 9 = .ok (.imul, 1) := by decide +kernel
theorem d_T_store_10 : decode b_T_store 10 = .ok (.iload_n 2, 1) := by decide +kernel
theorem d_T_store_11 : decode b_T_store 11 = .ok (.iadd, 1) := by decide +kernel
theorem d_T_store_12 : decode b_T_store 12 = .ok (.lload_n 3, 1) := by decide +kernel
theorem d_T_store_13 : decode b_T_store 13 = .ok (.lastore, 1) := by decide +kernel
theorem d_T_store_14 : decode b_T_store 14 = .ok (.aload_n 0, 1) := by decide +kernel
theorem d_T_store_15 : decode b_T_store 15 = .ok (.getfield 15, 3) := by decide +kernel
theorem d_T_store_18 : decode b_T_store 18 = .ok (.iload_n 2, 1) := by decide +kernel
theorem d_T_store_19 : decode b_T_store 19 = .ok (.aload_n 0, 1) := by decide +kernel
theorem d_T_store_20 : decode b_T_store 20 = .ok (.getfield 9, 3) := by decide +kernel
theorem d_T_store_23 : decode b_T_store 23 = .ok (.imul, 1) := by decide +kernel
theorem d_T_store_24 : decode b_T_store 24 = .ok (.iload_n 1, 1) := by decide +kernel
theorem d_T_store_25 : decode b_T_store 25 = .ok (.iadd, 1) := by decide +kernel
theorem d_T_store_26 : decode b_T_store 26 = .ok (.lload_n 3, 1) := by decide +kernel
theorem d_T_store_27 : decode b_T_store 27 = .ok (.lastore, 1) := by decide +kernel
theorem d_T_store_28 : decode b_T_store 28 = .ok (.return_, 1) := by decide +kernel
theorem d_T_lowerTo_0 : decode b_T_lowerTo 0 = .ok (.aload_n 0, 1) := by decide +kernel
theorem d_T_lowerTo_1 : decode b_T_lowerTo 1 = .ok (.iload_n 1, 1) := by decide +kernel
theorem d_T_lowerTo_2 : decode b_T_lowerTo 2 = .ok (.iload_n 2, 1) := by decide +kernel
theorem d_T_lowerTo_3 : decode b_T_lowerTo 3 = .ok (.aload_n 0, 1) := by decide +kernel
theorem d_T_lowerTo_4 : decode b_T_lowerTo 4 = .ok (.iload_n 1, 1) := by decide +kernel
theorem d_T_lowerTo_5 : decode b_T_lowerTo 5 = .ok (.iload_n 2, 1) := by decide +kernel
theorem d_T_lowerTo_6 : decode b_T_lowerTo 6 = .ok (.invokevirtual 27, 3) := by decide +kernel
theorem d_T_lowerTo_9 : decode b_T_lowerTo 9 = .ok (.lload_n 3, 1) := by decide +kernel
theorem d_T_lowerTo_10 : decode b_T_lowerTo 10 = .ok (.invokestatic 41, 3) := by decide +kernel
theorem d_T_lowerTo_13 : decode b_T_lowerTo 13 = .ok (.invokevirtual 47, 3) := by decide +kernel
theorem d_T_lowerTo_16 : decode b_T_lowerTo 16 = .ok (.return_, 1) := by decide +kernel
theorem d_T_takeFrom_0 : decode b_T_takeFrom 0 = .ok (.aload_n 1, 1) := by decide +kernel
theorem d_T_takeFrom_1 : decode b_T_takeFrom 1 = .ok (.getfield 15, 3) := by decide +kernel
theorem d_T_takeFrom_4 : decode b_T_takeFrom 4 = .ok (.iconst 0, 1) := by decide +kernel
theorem d_T_takeFrom_5 : decode b_T_takeFrom 5 = .ok (.aload_n 0, 1) := by decide +kernel
theorem d_T_takeFrom_6 : decode b_T_takeFrom 6 = .ok (.getfield 15, 3) := by decide +kernel
theorem d_T_takeFrom_9 : decode b_T_takeFrom 9 = .ok (.iconst 0, 1) := by decide +kernel
theorem d_T_takeFrom_10 : decode b_T_takeFrom 10 = .ok (.aload_n 0, 1) := by decide +kernel
theorem d_T_takeFrom_11 : decode b_T_takeFrom 11 = .ok (.getfield 15, 3) := by decide +kernel
theorem d_T_takeFrom_14 : decode b_T_takeFrom 14 = .ok (.arraylength, 1) := by decide +kernel
theorem d_T_takeFrom_15 : decode b_T_takeFrom 15 = .ok (.aload_n 1, 1) := by decide +kernel
theorem d_T_takeFrom_16 : decode b_T_takeFrom 16 = .ok (.getfield 15, 3) := by decide +kernel
theorem d_T_takeFrom_19 : decode b_T_takeFrom 19 = .ok (.arraylength, 1) := by decide +kernel
theorem d_T_takeFrom_20 : decode b_T_takeFrom 20 = .ok (.invokestatic 51, 3) := by decide +kernel
theorem d_T_takeFrom_23 : decode b_T_takeFrom 23 = .ok (.invokestatic 54, 3) := by decide +kernel
theorem d_T_takeFrom_26 : decode b_T_takeFrom 26 = .ok (.return_, 1) := by decide +kernel
theorem d_T_dropRows_0 : decode b_T_dropRows 0 = .ok (.aload_n 0, 1) := by decide +kernel
theorem d_T_dropRows_1 : decode b_T_dropRows 1 = .ok (.getfield 15, 3) := by decide +kernel
theorem d_T_dropRows_4 : decode b_T_dropRows 4 = .ok (.ldc2_w 19, 3) := by decide +kernel
theorem d_T_dropRows_7 : decode b_T_dropRows 7 = .ok (.invokestatic 21, 3) := by decide +kernel
theorem d_T_dropRows_10 : decode b_T_dropRows 10 = .ok (.return_, 1) := by decide +kernel
theorem d_T_storeOpposites_0 : decode b_T_storeOpposites 0 = .ok (.iconst 0, 1) := by decide +kernel
theorem d_T_storeOpposites_1 : decode b_T_storeOpposites 1 = .ok (.istore_n 3, 1) := by decide +kernel
theorem d_T_storeOpposites_2 : decode b_T_storeOpposites 2 = .ok (.iload_n 3, 1) := by decide +kernel
theorem d_T_storeOpposites_3 : decode b_T_storeOpposites 3 = .ok (.aload_n 0, 1) := by decide +kernel
theorem d_T_storeOpposites_4 : decode b_T_storeOpposites 4 = .ok (.getfield 9, 3) := by decide +kernel
theorem d_T_storeOpposites_7 : decode b_T_storeOpposites 7 = .ok (.if_icmp .ge 25, 3) := by decide +kernel
theorem d_T_storeOpposites_10 : decode b_T_storeOpposites 10 = .ok (.aload_n 0, 1) := by decide +kernel
theorem d_T_storeOpposites_11 : decode b_T_storeOpposites 11 = .ok (.getfield 15, 3) := by decide +kernel
theorem d_T_storeOpposites_14 : decode b_T_storeOpposites 14 = .ok (.iload_n 3, 1) := by decide +kernel
theorem d_T_storeOpposites_15 : decode b_T_storeOpposites 15 = .ok (.aload_n 0, 1) := by decide +kernel
theorem d_T_storeOpposites_16 : decode b_T_storeOpposites 16 = .ok (.getfield 9, 3) := by decide +kernel
theorem d_T_storeOpposites_19 : decode b_T_storeOpposites 19 = .ok (.imul, 1) := by decide +kernel
theorem d_T_storeOpposites_20 : decode b_T_storeOpposites 20 = .ok (.iload_n 3, 1) := by decide +kernel
theorem d_T_storeOpposites_21 : decode b_T_storeOpposites 21 = .ok (.iconst 1, 1) := by decide +kernel
theorem d_T_storeOpposites_22 : decode b_T_storeOpposites 22 = .ok (.ixor, 1) := by decide +kernel
theorem d_T_storeOpposites_23 : decode b_T_storeOpposites 23 = .ok (.iadd, 1) := by decide +kernel
theorem d_T_storeOpposites_24 : decode b_T_storeOpposites 24 = .ok (.lload_n 1, 1) := by decide +kernel
theorem d_T_storeOpposites_25 : decode b_T_storeOpposites 25 = .ok (.lastore, 1) := by decide +kernel
theorem d_T_storeOpposites_26 : decode b_T_storeOpposites 26 = .ok (.iinc 3 1, 3) := by decide +kernel
theorem d_T_storeOpposites_29 : decode b_T_storeOpposites 29 = .ok (.goto (-27), 3) := by decide +kernel
theorem d_T_storeOpposites_32 : decode b_T_storeOpposites 32 = .ok (.return_, 1) := by decide +kernel
theorem d_T_countRows_0 : decode b_T_countRows 0 = .ok (.iconst 0, 1) := by decide +kernel
theorem d_T_countRows_1 : decode b_T_countRows 1 = .ok (.istore_n 1, 1) := by decide +kernel
theorem d_T_countRows_2 : decode b_T_countRows 2 = .ok (.iconst 0, 1) := by decide +kernel
theorem d_T_countRows_3 : decode b_T_countRows 3 = .ok (.istore_n 2, 1) := by decide +kernel
theorem d_T_countRows_4 : decode b_T_countRows 4 = .ok (.iload_n 2, 1) := by decide +kernel
theorem d_T_countRows_5 : decode b_T_countRows 5 = .ok (.aload_n 0, 1) := by decide +kernel
theorem d_T_countRows_6 : decode b_T_countRows 6 = .ok (.getfield 9, 3) := by decide +kernel
theorem d_T_countRows_9 : decode b_T_countRows 9 = .ok (.if_icmp .ge 46, 3) := by decide +kernel
theorem d_T_countRows_12 : decode b_T_countRows 12 = .ok (.iload_n 2, 1) := by decide +kernel
theorem d_T_countRows_13 : decode b_T_countRows 13 = .ok (.istore_n 3, 1) := by decide +kernel
theorem d_T_countRows_14 : decode b_T_countRows 14 = .ok (.iload_n 3, 1) := by decide +kernel
theorem d_T_countRows_15 : decode b_T_countRows 15 = .ok (.aload_n 0, 1) := by decide +kernel
theorem d_T_countRows_16 : decode b_T_countRows 16 = .ok (.getfield 9, 3) := by decide +kernel
theorem d_T_countRows_19 : decode b_T_countRows 19 = .ok (.if_icmp .ge 30, 3) := by decide +kernel
theorem d_T_countRows_22 : decode b_T_countRows 22 = .ok (.iload_n 1, 1) := by decide +kernel
theorem d_T_countRows_23 : decode b_T_countRows 23 = .ok (.aload_n 0, 1) := by decide +kernel
theorem d_T_countRows_24 : decode b_T_countRows 24 = .ok (.iload_n 2, 1) := by decide +kernel
theorem d_T_countRows_25 : decode b_T_countRows 25 = .ok (.iload_n 3, 1) := by decide +kernel
theorem d_T_countRows_26 : decode b_T_countRows 26 = .ok (.invokevirtual 27, 3) := by decide +kernel
theorem d_T_countRows_29 : decode b_T_countRows 29 = .ok (.ldc2_w 19, 3) := by decide +kernel
theorem d_T_countRows_32 : decode b_T_countRows 32 = .ok (.lcmp, 1) := by decide +kernel
theorem d_T_countRows_33 : decode b_T_countRows 33 = .ok (.ifCond .ne 7, 3) := by decide +kernel
theorem d_T_countRows_36 : decode b_T_countRows 36 = .ok (.iconst 0, 1) := by decide +kernel
theorem d_T_countRows_37 : decode b_T_countRows 37 = .ok (.goto 4, 3) := by decide +kernel
theorem d_T_countRows_40 : decode b_T_countRows 40 = .ok (.iconst 1, 1) := by decide +kernel
theorem d_T_countRows_41 : decode b_T_countRows 41 = .ok (.iadd, 1) := by decide +kernel
theorem d_T_countRows_42 : decode b_T_countRows 42 = .ok (.istore_n 1, 1) := by decide +kernel
theorem d_T_countRows_43 : decode b_T_countRows 43 = .ok (.iinc 3 1, 3) := by decide +kernel
theorem d_T_countRows_46 : decode b_T_countRows 46 = .ok (.goto (-32), 3) := by decide +kernel
theorem d_T_countRows_49 : decode b_T_countRows 49 = .ok (.iinc 2 1, 3) := by decide +kernel
theorem d_T_countRows_52 : decode b_T_countRows 52 = .ok (.goto (-48), 3) := by decide +kernel
theorem d_T_countRows_55 : decode b_T_countRows 55 = .ok (.iload_n 1, 1) := by decide +kernel
theorem d_T_countRows_56 : decode b_T_countRows 56 = .ok (.ireturn, 1) := by decide +kernel
theorem d_T_isNowhereAbove_0 : decode b_T_isNowhereAbove 0 = .ok (.iconst 0, 1) := by decide +kernel
theorem d_T_isNowhereAbove_1 : decode b_T_isNowhereAbove 1 = .ok (.istore_n 2, 1) := by decide +kernel
theorem d_T_isNowhereAbove_2 : decode b_T_isNowhereAbove 2 = .ok (.iload_n 2, 1) := by decide +kernel
theorem d_T_isNowhereAbove_3 : decode b_T_isNowhereAbove 3 = .ok (.aload_n 0, 1) := by decide +kernel
theorem d_T_isNowhereAbove_4 : decode b_T_isNowhereAbove 4 = .ok (.getfield 9, 3) := by decide +kernel
theorem d_T_isNowhereAbove_7 : decode b_T_isNowhereAbove 7 = .ok (.if_icmp .ge 43, 3) := by decide +kernel
theorem d_T_isNowhereAbove_10 : decode b_T_isNowhereAbove 10 = .ok (.iload_n 2, 1) := by decide +kernel
theorem d_T_isNowhereAbove_11 : decode b_T_isNowhereAbove 11 = .ok (.istore_n 3, 1) := by decide +kernel
theorem d_T_isNowhereAbove_12 : decode b_T_isNowhereAbove 12 = .ok (.iload_n 3, 1) := by decide +kernel
theorem d_T_isNowhereAbove_13 : decode b_T_isNowhereAbove 13 = .ok (.aload_n 0, 1) := by decide +kernel
theorem d_T_isNowhereAbove_14 : decode b_T_isNowhereAbove 14 = .ok (.getfield 9, 3) := by decide +kernel
theorem d_T_isNowhereAbove_17 : decode b_T_isNowhereAbove 17 = .ok (.if_icmp .ge 27, 3) := by decide +kernel
theorem d_T_isNowhereAbove_20 : decode b_T_isNowhereAbove 20 = .ok (.aload_n 0, 1) := by decide +kernel
theorem d_T_isNowhereAbove_21 : decode b_T_isNowhereAbove 21 = .ok (.iload_n 2, 1) := by decide +kernel
theorem d_T_isNowhereAbove_22 : decode b_T_isNowhereAbove 22 = .ok (.iload_n 3, 1) := by decide +kernel
theorem d_T_isNowhereAbove_23 : decode b_T_isNowhereAbove 23 = .ok (.invokevirtual 27, 3) := by decide +kernel
theorem d_T_isNowhereAbove_26 : decode b_T_isNowhereAbove 26 = .ok (.aload_n 1, 1) := by decide +kernel
theorem d_T_isNowhereAbove_27 : decode b_T_isNowhereAbove 27 = .ok (.iload_n 2, 1) := by decide +kernel
theorem d_T_isNowhereAbove_28 : decode b_T_isNowhereAbove 28 = .ok (.iload_n 3, 1) := by decide +kernel
theorem d_T_isNowhereAbove_29 : decode b_T_isNowhereAbove 29 = .ok (.invokevirtual 27, 3) := by decide +kernel
theorem d_T_isNowhereAbove_32 : decode b_T_isNowhereAbove 32 = .ok (.lcmp, 1) := by decide +kernel
theorem d_T_isNowhereAbove_33 : decode b_T_isNowhereAbove 33 = .ok (.ifCond .le 5, 3) := by decide +kernel
theorem d_T_isNowhereAbove_36 : decode b_T_isNowhereAbove 36 = .ok (.iconst 0, 1) := by decide +kernel
theorem d_T_isNowhereAbove_37 : decode b_T_isNowhereAbove 37 = .ok (.ireturn, 1) := by decide +kernel
theorem d_T_isNowhereAbove_38 : decode b_T_isNowhereAbove 38 = .ok (.iinc 3 1, 3) := by decide +kernel
theorem d_T_isNowhereAbove_41 : decode b_T_isNowhereAbove 41 = .ok (.goto (-29), 3) := by decide +kernel
theorem d_T_isNowhereAbove_44 : decode b_T_isNowhereAbove 44 = .ok (.iinc 2 1, 3) := by decide +kernel
theorem d_T_isNowhereAbove_47 : decode b_T_isNowhereAbove 47 = .ok (.goto (-45), 3) := by decide +kernel
theorem d_T_isNowhereAbove_50 : decode b_T_isNowhereAbove 50 = .ok (.iconst 1, 1) := by decide +kernel
theorem d_T_isNowhereAbove_51 : decode b_T_isNowhereAbove 51 = .ok (.ireturn, 1) := by decide +kernel
theorem d_T_isTooFar_0 : decode b_T_isTooFar 0 = .ok (.iconst 0, 1) := by decide +kernel
theorem d_T_isTooFar_1 : decode b_T_isTooFar 1 = .ok (.istore_n 1, 1) := by decide +kernel
theorem d_T_isTooFar_2 : decode b_T_isTooFar 2 = .ok (.iload_n 1, 1) := by decide +kernel
theorem d_T_isTooFar_3 : decode b_T_isTooFar 3 = .ok (.aload_n 0, 1) := by decide +kernel
theorem d_T_isTooFar_4 : decode b_T_isTooFar 4 = .ok (.getfield 9, 3) := by decide +kernel
theorem d_T_isTooFar_7 : decode b_T_isTooFar 7 = .ok (.if_icmp .ge 71, 3) := by decide +kernel
theorem d_T_isTooFar_10 : decode b_T_isTooFar 10 = .ok (.iload_n 1, 1) := by decide +kernel
theorem d_T_isTooFar_11 : decode b_T_isTooFar 11 = .ok (.istore_n 2, 1) := by decide +kernel
theorem d_T_isTooFar_12 : decode b_T_isTooFar 12 = .ok (.iload_n 2, 1) := by decide +kernel
theorem d_T_isTooFar_13 : decode b_T_isTooFar 13 = .ok (.aload_n 0, 1) := by decide +kernel
theorem d_T_isTooFar_14 : decode b_T_isTooFar 14 = .ok (.getfield 9, 3) := by decide +kernel
theorem d_T_isTooFar_17 : decode b_T_isTooFar 17 = .ok (.if_icmp .ge 55, 3) := by decide +kernel
theorem d_T_isTooFar_20 : decode b_T_isTooFar 20 = .ok (.iload_n 1, 1) := by decide +kernel
theorem d_T_isTooFar_21 : decode b_T_isTooFar 21 = .ok (.iload_n 2, 1) := by decide +kernel
theorem d_T_isTooFar_22 : decode b_T_isTooFar 22 = .ok (.if_icmp .ne 11, 3) := by decide +kernel
theorem d_T_isTooFar_25 : decode b_T_isTooFar 25 = .ok (.aload_n 0, 1) := by decide +kernel
theorem d_T_isTooFar_26 : decode b_T_isTooFar 26 = .ok (.iload_n 1, 1) := by decide +kernel
theorem d_T_isTooFar_27 : decode b_T_isTooFar 27 = .ok (.invokevirtual 37, 3) := by decide +kernel
theorem d_T_isTooFar_30 : decode b_T_isTooFar 30 = .ok (.goto 9, 3) := by decide +kernel
theorem d_T_isTooFar_33 : decode b_T_isTooFar 33 = .ok (.aload_n 0, 1) := by decide +kernel
theorem d_T_isTooFar_34 : decode b_T_isTooFar 34 = .ok (.iload_n 1, 1) := by decide +kernel
theorem d_T_isTooFar_35 : decode b_T_isTooFar 35 = .ok (.iload_n 2, 1) := by decide +kernel
theorem d_T_isTooFar_36 : decode b_T_isTooFar 36 = .ok (.invokevirtual 27, 3) := by decide +kernel
theorem d_T_isTooFar_39 : decode b_T_isTooFar 39 = .ok (.lstore_n 3, 1) := by decide +kernel
theorem d_T_isTooFar_40 : decode b_T_isTooFar 40 = .ok (.lload_n 3, 1) := by decide +kernel
theorem d_T_isTooFar_41 : decode b_T_isTooFar 41 = .ok (.ldc2_w 19, 3) := by decide +kernel
theorem d_T_isTooFar_44 : decode b_T_isTooFar 44 = .ok (.lcmp, 1) := by decide +kernel
theorem d_T_isTooFar_45 : decode b_T_isTooFar 45 = .ok (.ifCond .eq 21, 3) := by decide +kernel
theorem d_T_isTooFar_48 : decode b_T_isTooFar 48 = .ok (.lload_n 3, 1) := by decide +kernel
theorem d_T_isTooFar_49 : decode b_T_isTooFar 49 = .ok (.ldc2_w 60, 3) := by decide +kernel
theorem d_T_isTooFar_52 : decode b_T_isTooFar 52 = .ok (.lcmp, 1) := by decide +kernel
theorem d_T_isTooFar_53 : decode b_T_isTooFar 53 = .ok (.ifCond .gt 11, 3) := by decide +kernel
theorem d_T_isTooFar_56 : decode b_T_isTooFar 56 = .ok (.lload_n 3, 1) := by decide +kernel
theorem d_T_isTooFar_57 : decode b_T_isTooFar 57 = .ok (.ldc2_w 62, 3) := by decide +kernel
theorem d_T_isTooFar_60 : decode b_T_isTooFar 60 = .ok (.lcmp, 1) := by decide +kernel
theorem d_T_isTooFar_61 : decode b_T_isTooFar 61 = .ok (.ifCond .ge 5, 3) := by decide +kernel
theorem d_T_isTooFar_64 : decode b_T_isTooFar 64 = .ok (.iconst 1, 1) := by decide +kernel
theorem d_T_isTooFar_65 : decode b_T_isTooFar 65 = .ok (.ireturn, 1) := by decide +kernel
theorem d_T_isTooFar_66 : decode b_T_isTooFar 66 = .ok (.iinc 2 1, 3) := by decide +kernel
theorem d_T_isTooFar_69 : decode b_T_isTooFar 69 = .ok (.goto (-57), 3) := by decide +kernel
theorem d_T_isTooFar_72 : decode b_T_isTooFar 72 = .ok (.iinc 1 1, 3) := by decide +kernel
theorem d_T_isTooFar_75 : decode b_T_isTooFar 75 = .ok (.goto (-73), 3) := by decide +kernel
theorem d_T_isTooFar_78 : decode b_T_isTooFar 78 = .ok (.iconst 0, 1) := by decide +kernel
theorem d_T_isTooFar_79 : decode b_T_isTooFar 79 = .ok (.ireturn, 1) := by decide +kernel
theorem d_T_close_0 : decode b_T_close 0 = .ok (.aload_n 0, 1) := by decide +kernel
theorem d_T_close_1 : decode b_T_close 1 = .ok (.lconst 0, 1) := by decide +kernel
theorem d_T_close_2 : decode b_T_close 2 = .ok (.invokevirtual 64, 3) := by decide +kernel
theorem d_T_close_5 : decode b_T_close 5 = .ok (.iconst 0, 1) := by decide +kernel
theorem d_T_close_6 : decode b_T_close 6 = .ok (.istore_n 1, 1) := by decide +kernel
theorem d_T_close_7 : decode b_T_close 7 = .ok (.iload_n 1, 1) := by decide +kernel
theorem d_T_close_8 : decode b_T_close 8 = .ok (.aload_n 0, 1) := by decide +kernel
theorem d_T_close_9 : decode b_T_close 9 = .ok (.getfield 9, 3) := by decide +kernel
theorem d_T_close_12 : decode b_T_close 12 = .ok (.if_icmp .ge 23, 3) := by decide +kernel
theorem d_T_close_15 : decode b_T_close 15 = .ok (.aload_n 0, 1) := by decide +kernel
theorem d_T_close_16 : decode b_T_close 16 = .ok (.iload_n 1, 1) := by decide +kernel
theorem d_T_close_17 : decode b_T_close 17 = .ok (.invokevirtual 68, 3) := by decide +kernel
theorem d_T_close_20 : decode b_T_close 20 = .ok (.aload_n 0, 1) := by decide +kernel
theorem d_T_close_21 : decode b_T_close 21 = .ok (.invokevirtual 72, 3) := by decide +kernel
theorem d_T_close_24 : decode b_T_close 24 = .ok (.ifCond .eq 5, 3) := by decide +kernel
theorem d_T_close_27 : decode b_T_close 27 = .ok (.iconst 0, 1) := by decide +kernel
theorem d_T_close_28 : decode b_T_close 28 = .ok (.ireturn, 1) := by decide +kernel
theorem d_T_close_29 : decode b_T_close 29 = .ok (.iinc 1 1, 3) := by decide +kernel
theorem d_T_close_32 : decode b_T_close 32 = .ok (.goto (-25), 3) := by decide +kernel
theorem d_T_close_35 : decode b_T_close 35 = .ok (.aload_n 0, 1) := by decide +kernel
theorem d_T_close_36 : decode b_T_close 36 = .ok (.invokevirtual 76, 3) := by decide +kernel
theorem d_T_close_39 : decode b_T_close 39 = .ok (.aload_n 0, 1) := by decide +kernel
theorem d_T_close_40 : decode b_T_close 40 = .ok (.invokevirtual 79, 3) := by decide +kernel
theorem d_T_close_43 : decode b_T_close 43 = .ok (.ifCond .eq 5, 3) := by decide +kernel
theorem d_T_close_46 : decode b_T_close 46 = .ok (.iconst 0, 1) := by decide +kernel
theorem d_T_close_47 : decode b_T_close 47 = .ok (.ireturn, 1) := by decide +kernel
theorem d_T_close_48 : decode b_T_close 48 = .ok (.aload_n 0, 1) := by decide +kernel
theorem d_T_close_49 : decode b_T_close 49 = .ok (.invokevirtual 82, 3) := by decide +kernel
theorem d_T_close_52 : decode b_T_close 52 = .ok (.iconst 1, 1) := by decide +kernel
theorem d_T_close_53 : decode b_T_close 53 = .ok (.ireturn, 1) := by decide +kernel
theorem d_T_chainThrough_0 : decode b_T_chainThrough 0 = .ok (.iload_n 1, 1) := by decide +kernel
theorem d_T_chainThrough_1 : decode b_T_chainThrough 1 = .ok (.iconst 1, 1) := by decide +kernel
theorem d_T_chainThrough_2 : decode b_T_chainThrough 2 = .ok (.ixor, 1) := by decide +kernel
theorem d_T_chainThrough_3 : decode b_T_chainThrough 3 = .ok (.aload_n 0, 1) := by decide +kernel
theorem d_T_chainThrough_4 : decode b_T_chainThrough 4 = .ok (.getfield 9, 3) := by decide +kernel
theorem d_T_chainThrough_7 : decode b_T_chainThrough 7 = .ok (.imul, 1) := by decide +kernel
theorem d_T_chainThrough_8 : decode b_T_chainThrough 8 = .ok (.istore_n 2, 1) := by decide +kernel
theorem d_T_chainThrough_9 : decode b_T_chainThrough 9 = .ok (.iconst 0, 1) := by decide +kernel
theorem d_T_chainThrough_10 : decode b_T_chainThrough 10 = .ok (.istore_n 3, 1) := by decide +kernel
theorem d_T_chainThrough_11 : decode b_T_chainThrough 11 = .ok (.iload_n 3, 1) := by decide +kernel
theorem d_T_chainThrough_12 : decode b_T_chainThrough 12 = .ok (.aload_n 0, 1) := by decide +kernel
theorem d_T_chainThrough_13 : decode b_T_chainThrough 13 = .ok (.getfield 9, 3) := by decide +kernel
theorem d_T_chainThrough_16 : decode b_T_chainThrough 16 = .ok (.if_icmp .ge 112, 3) := by decide +kernel
theorem d_T_chainThrough_19 : decode b_T_chainThrough 19 = .ok (.iload_n 3, 1) := by decide +kernel
theorem d_T_chainThrough_20 : decode b_T_chainThrough 20 = .ok (.aload_n 0, 1) := by decide +kernel
theorem d_T_chainThrough_21 : decode b_T_chainThrough 21 = .ok (.getfield 9, 3) := by decide +kernel
theorem d_T_chainThrough_24 : decode b_T_chainThrough 24 = .ok (.imul, 1) := by decide +kernel
theorem d_T_chainThrough_25 : decode b_T_chainThrough 25 = .ok (.istore 4, 2) := by decide +kernel
theorem d_T_chainThrough_27 : decode b_T_chainThrough 27 = .ok (.aload_n 0, 1) := by decide +kernel
theorem d_T_chainThrough_28 : decode b_T_chainThrough 28 = .ok (.getfield 15, 3) := by decide +kernel
theorem d_T_chainThrough_31 : decode b_T_chainThrough 31 = .ok (.iload 4, 2) := by decide +kernel
theorem d_T_chainThrough_33 : decode b_T_chainThrough 33 = .ok (.iload_n 1, 1) := by decide +kernel
theorem d_T_chainThrough_34 : decode b_T_chainThrough 34 = .ok (.iadd, 1) := by decide +kernel
theorem d_T_chainThrough_35 : decode b_T_chainThrough 35 = .ok (.laload, 1) := by decide +kernel
theorem d_T_chainThrough_36 : decode b_T_chainThrough 36 = .ok (.lstore 5, 2) := by decide +kernel
theorem d_T_chainThrough_38 : decode b_T_chainThrough 38 = .ok (.lload 5, 2) := by decide +kernel
theorem d_T_chainThrough_40 : decode b_T_chainThrough 40 = .ok (.ldc2_w 19, 3) := by decide +kernel
theorem d_T_chainThrough_43 : decode b_T_chainThrough 43 = .ok (.lcmp, 1) := by decide +kernel
theorem d_T_chainThrough_44 : decode b_T_chainThrough 44 = .ok (.ifCond .ne 6, 3) := by decide +kernel
theorem d_T_chainThrough_47 : decode b_T_chainThrough 47 = .ok (.goto 75, 3) := by decide +kernel
theorem d_T_chainThrough_50 : decode b_T_chainThrough 50 = .ok (.iconst 0, 1) := by decide +kernel
theorem d_T_chainThrough_51 : decode b_T_chainThrough 51 = .ok (.istore 7, 2) := by decide +kernel
theorem d_T_chainThrough_53 : decode b_T_chainThrough 53 = .ok (.iload 7, 2) := by decide +kernel
theorem d_T_chainThrough_55 : decode b_T_chainThrough 55 = .ok (.aload_n 0, 1) := by decide +kernel
theorem d_T_chainThrough_56 : decode b_T_chainThrough 56 = .ok (.getfield 9, 3) := by decide +kernel
theorem d_T_chainThrough_59 : decode b_T_chainThrough 59 = .ok (.if_icmp .ge 63, 3) := by decide +kernel
theorem d_T_chainThrough_62 : decode b_T_chainThrough 62 = .ok (.aload_n 0, 1) := by decide +kernel
theorem d_T_chainThrough_63 : decode b_T_chainThrough 63 = .ok (.getfield 15, 3) := by decide +kernel
theorem d_T_chainThrough_66 : decode b_T_chainThrough 66 = .ok (.iload_n 2, 1) := by decide +kernel
theorem d_T_chainThrough_67 : decode b_T_chainThrough 67 = .ok (.iload 7, 2) := by decide +kernel
theorem d_T_chainThrough_69 : decode b_T_chainThrough 69 = .ok (.iadd, 1) := by decide +kernel
theorem d_T_chainThrough_70 : decode b_T_chainThrough 70 = .ok (.laload, 1) := by decide +kernel
theorem d_T_chainThrough_71 : decode b_T_chainThrough 71 = .ok (.lstore 8, 2) := by decide +kernel
theorem d_T_chainThrough_73 : decode b_T_chainThrough 73 = .ok (.lload 8, 2) := by decide +kernel
theorem d_T_chainThrough_75 : decode b_T_chainThrough 75 = .ok (.ldc2_w 19, 3) := by decide +kernel
theorem d_T_chainThrough_78 : decode b_T_chainThrough 78 = .ok (.lcmp, 1) := by decide +kernel
theorem d_T_chainThrough_79 : decode b_T_chainThrough 79 = .ok (.ifCond .eq 37, 3) := by decide +kernel
theorem d_T_chainThrough_82 : decode b_T_chainThrough 82 = .ok (.lload 5, 2) := by decide +kernel
theorem d_T_chainThrough_84 : decode b_T_chainThrough 84 = .ok (.lload 8, 2) := by decide +kernel
theorem d_T_chainThrough_86 : decode b_T_chainThrough 86 = .ok (.ladd, 1) := by decide +kernel
theorem d_T_chainThrough_87 : decode b_T_chainThrough 87 = .ok (.aload_n 0, 1) := by decide +kernel
theorem d_T_chainThrough_88 : decode b_T_chainThrough 88 = .ok (.getfield 15, 3) := by decide +kernel
theorem d_T_chainThrough_91 : decode b_T_chainThrough 91 = .ok (.iload 4, 2) := by decide +kernel
theorem d_T_chainThrough_93 : decode b_T_chainThrough 93 = .ok (.iload 7, 2) := by decide +kernel
theorem d_T_chainThrough_95 : decode b_T_chainThrough 95 = .ok (.iadd, 1) := by decide +kernel
theorem d_T_chainThrough_96 : decode b_T_chainThrough 96 = .ok (.laload, 1) := by decide +kernel
theorem d_T_chainThrough_97 : decode b_T_chainThrough 97 = .ok (.lcmp, 1) := by decide +kernel
theorem d_T_chainThrough_98 : decode b_T_chainThrough 98 = .ok (.ifCond .ge 18, 3) := by decide +kernel
theorem d_T_chainThrough_101 : decode b_T_chainThrough 101 = .ok (.aload_n 0, 1) := by decide +kernel
theorem d_T_chainThrough_102 : decode b_T_chainThrough 102 = .ok (.getfield 15, 3) := by decide +kernel
theorem d_T_chainThrough_105 : decode b_T_chainThrough 105 = .ok (.iload 4, 2) := by decide +kernel
theorem d_T_chainThrough_107 : decode b_T_chainThrough 107 = .ok (.iload 7, 2) := by decide +kernel
theorem d_T_chainThrough_109 : decode b_T_chainThrough 109 = .ok (.iadd, 1) := by decide +kernel
theorem d_T_chainThrough_110 : decode b_T_chainThrough 110 = .ok (.lload 5, 2) := by decide +kernel
theorem d_T_chainThrough_112 : decode b_T_chainThrough 112 = .ok (.lload 8, 2) := by decide +kernel
theorem d_T_chainThrough_114 : decode b_T_chainThrough 114 = .ok (.ladd, 1) := by decide +kernel
theorem d_T_chainThrough_115 : decode b_T_chainThrough 115 = .ok (.lastore, 1) := by decide +kernel
theorem d_T_chainThrough_116 : decode b_T_chainThrough 116 = .ok (.iinc 7 1, 3) := by decide +kernel
theorem d_T_chainThrough_119 : decode b_T_chainThrough 119 = .ok (.goto (-66), 3) := by decide +kernel
theorem d_T_chainThrough_122 : decode b_T_chainThrough 122 = .ok (.iinc 3 1, 3) := by decide +kernel
theorem d_T_chainThrough_125 : decode b_T_chainThrough 125 = .ok (.goto (-114), 3) := by decide +kernel
theorem d_T_chainThrough_128 : decode b_T_chainThrough 128 = .ok (.return_, 1) := by decide +kernel
theorem d_T_hasOppositesBelowZero_0 : decode b_T_hasOppositesBelowZero 0 = .ok (.iconst 0, 1) := by decide +kernel
theorem d_T_hasOppositesBelowZero_1 : decode b_T_hasOppositesBelowZero 1 = .ok (.istore_n 1, 1) := by decide +kernel
theorem d_T_hasOppositesBelowZero_2 : decode b_T_hasOppositesBelowZero 2 = .ok (.iload_n 1, 1) := by decide +kernel
theorem d_T_hasOppositesBelowZero_3 : decode b_T_hasOppositesBelowZero 3 = .ok (.aload_n 0, 1) := by decide +kernel
theorem d_T_hasOppositesBelowZero_4 : decode b_T_hasOppositesBelowZero 4 = .ok (.getfield 9, 3) := by decide +kernel
theorem d_T_hasOppositesBelowZero_7 : decode b_T_hasOppositesBelowZero 7 = .ok (.if_icmp .ge 24, 3) := by decide +kernel
theorem d_T_hasOppositesBelowZero_10 : decode b_T_hasOppositesBelowZero 10 = .ok (.aload_n 0, 1) := by decide +kernel
theorem d_T_hasOppositesBelowZero_11 : decode b_T_hasOppositesBelowZero 11 = .ok (.iload_n 1, 1) := by decide +kernel
theorem d_T_hasOppositesBelowZero_12 : decode b_T_hasOppositesBelowZero 12 = .ok (.iload_n 1, 1) := by decide +kernel
theorem d_T_hasOppositesBelowZero_13 : decode b_T_hasOppositesBelowZero 13 = .ok (.iconst 1, 1) := by decide +kernel
theorem d_T_hasOppositesBelowZero_14 : decode b_T_hasOppositesBelowZero 14 = .ok (.ixor, 1) := by decide +kernel
theorem d_T_hasOppositesBelowZero_15 : decode b_T_hasOppositesBelowZero 15 = .ok (.invokevirtual 27, 3) := by decide +kernel
theorem d_T_hasOppositesBelowZero_18 : decode b_T_hasOppositesBelowZero 18 = .ok (.lconst 0, 1) := by decide +kernel
theorem d_T_hasOppositesBelowZero_19 : decode b_T_hasOppositesBelowZero 19 = .ok (.lcmp, 1) := by decide +kernel
theorem d_T_hasOppositesBelowZero_20 : decode b_T_hasOppositesBelowZero 20 = .ok (.ifCond .ge 5, 3) := by decide +kernel
theorem d_T_hasOppositesBelowZero_23 : decode b_T_hasOppositesBelowZero 23 = .ok (.iconst 1, 1) := by decide +kernel
theorem d_T_hasOppositesBelowZero_24 : decode b_T_hasOppositesBelowZero 24 = .ok (.ireturn, 1) := by decide +kernel
theorem d_T_hasOppositesBelowZero_25 : decode b_T_hasOppositesBelowZero 25 = .ok (.iinc 1 1, 3) := by decide +kernel
theorem d_T_hasOppositesBelowZero_28 : decode b_T_hasOppositesBelowZero 28 = .ok (.goto (-26), 3) := by decide +kernel
theorem d_T_hasOppositesBelowZero_31 : decode b_T_hasOppositesBelowZero 31 = .ok (.iconst 0, 1) := by decide +kernel
theorem d_T_hasOppositesBelowZero_32 : decode b_T_hasOppositesBelowZero 32 = .ok (.ireturn, 1) := by decide +kernel
theorem d_T_cutToEven_0 : decode b_T_cutToEven 0 = .ok (.iconst 0, 1) := by decide +kernel
theorem d_T_cutToEven_1 : decode b_T_cutToEven 1 = .ok (.istore_n 1, 1) := by decide +kernel
theorem d_T_cutToEven_2 : decode b_T_cutToEven 2 = .ok (.iload_n 1, 1) := by decide +kernel
theorem d_T_cutToEven_3 : decode b_T_cutToEven 3 = .ok (.aload_n 0, 1) := by decide +kernel
theorem d_T_cutToEven_4 : decode b_T_cutToEven 4 = .ok (.getfield 9, 3) := by decide +kernel
theorem d_T_cutToEven_7 : decode b_T_cutToEven 7 = .ok (.if_icmp .ge 44, 3) := by decide +kernel
theorem d_T_cutToEven_10 : decode b_T_cutToEven 10 = .ok (.aload_n 0, 1) := by decide +kernel
theorem d_T_cutToEven_11 : decode b_T_cutToEven 11 = .ok (.iload_n 1, 1) := by decide +kernel
theorem d_T_cutToEven_12 : decode b_T_cutToEven 12 = .ok (.iload_n 1, 1) := by decide +kernel
theorem d_T_cutToEven_13 : decode b_T_cutToEven 13 = .ok (.invokevirtual 27, 3) := by decide +kernel
theorem d_T_cutToEven_16 : decode b_T_cutToEven 16 = .ok (.ldc2_w 19, 3) := by decide +kernel
theorem d_T_cutToEven_19 : decode b_T_cutToEven 19 = .ok (.lcmp, 1) := by decide +kernel
theorem d_T_cutToEven_20 : decode b_T_cutToEven 20 = .ok (.ifCond .eq 25, 3) := by decide +kernel
theorem d_T_cutToEven_23 : decode b_T_cutToEven 23 = .ok (.aload_n 0, 1) := by decide +kernel
theorem d_T_cutToEven_24 : decode b_T_cutToEven 24 = .ok (.iload_n 1, 1) := by decide +kernel
theorem d_T_cutToEven_25 : decode b_T_cutToEven 25 = .ok (.iload_n 1, 1) := by decide +kernel
theorem d_T_cutToEven_26 : decode b_T_cutToEven 26 = .ok (.ldc2_w 31, 3) := by decide +kernel
theorem d_T_cutToEven_29 : decode b_T_cutToEven 29 = .ok (.aload_n 0, 1) := by decide +kernel
theorem d_T_cutToEven_30 : decode b_T_cutToEven 30 = .ok (.iload_n 1, 1) := by decide +kernel
theorem d_T_cutToEven_31 : decode b_T_cutToEven 31 = .ok (.iload_n 1, 1) := by decide +kernel
theorem d_T_cutToEven_32 : decode b_T_cutToEven 32 = .ok (.invokevirtual 27, 3) := by decide +kernel
theorem d_T_cutToEven_35 : decode b_T_cutToEven 35 = .ok (.ldc2_w 31, 3) := by decide +kernel
theorem d_T_cutToEven_38 : decode b_T_cutToEven 38 = .ok (.invokestatic 85, 3) := by decide +kernel
theorem d_T_cutToEven_41 : decode b_T_cutToEven 41 = .ok (.lmul, 1) := by decide +kernel
theorem d_T_cutToEven_42 : decode b_T_cutToEven 42 = .ok (.invokevirtual 47, 3) := by decide +kernel
theorem d_T_cutToEven_45 : decode b_T_cutToEven 45 = .ok (.iinc 1 1, 3) := by decide +kernel
theorem d_T_cutToEven_48 : decode b_T_cutToEven 48 = .ok (.goto (-46), 3) := by decide +kernel
theorem d_T_cutToEven_51 : decode b_T_cutToEven 51 = .ok (.return_, 1) := by decide +kernel
theorem d_T_hasTwicesThatContradict_0 : decode b_T_hasTwicesThatContradict 0 = .ok (.iconst 0, 1) := by decide +kernel
theorem d_T_hasTwicesThatContradict_1 : decode b_T_hasTwicesThatContradict 1 = .ok (.istore_n 1, 1) := by decide +kernel
theorem d_T_hasTwicesThatContradict_2 : decode b_T_hasTwicesThatContradict 2 = .ok (.iload_n 1, 1) := by decide +kernel
theorem d_T_hasTwicesThatContradict_3 : decode b_T_hasTwicesThatContradict 3 = .ok (.aload_n 0, 1) := by decide +kernel
theorem d_T_hasTwicesThatContradict_4 : decode b_T_hasTwicesThatContradict 4 = .ok (.getfield 9, 3) := by decide +kernel
theorem d_T_hasTwicesThatContradict_7 : decode b_T_hasTwicesThatContradict 7 = .ok (.if_icmp .ge 35, 3) := by decide +kernel
theorem d_T_hasTwicesThatContradict_10 : decode b_T_hasTwicesThatContradict 10 = .ok (.aload_n 0, 1) := by decide +kernel
theorem d_T_hasTwicesThatContradict_11 : decode b_T_hasTwicesThatContradict 11 = .ok (.iload_n 1, 1) := by decide +kernel
theorem d_T_hasTwicesThatContradict_12 : decode b_T_hasTwicesThatContradict 12 = .ok (.iload_n 1, 1) := by decide +kernel
theorem d_T_hasTwicesThatContradict_13 : decode b_T_hasTwicesThatContradict 13 = .ok (.invokevirtual 27, 3) := by decide +kernel
theorem d_T_hasTwicesThatContradict_16 : decode b_T_hasTwicesThatContradict 16 = .ok (.aload_n 0, 1) := by decide +kernel
theorem d_T_hasTwicesThatContradict_17 : decode b_T_hasTwicesThatContradict 17 = .ok (.iload_n 1, 1) := by decide +kernel
theorem d_T_hasTwicesThatContradict_18 : decode b_T_hasTwicesThatContradict 18 = .ok (.iconst 1, 1) := by decide +kernel
theorem d_T_hasTwicesThatContradict_19 : decode b_T_hasTwicesThatContradict 19 = .ok (.ixor, 1) := by decide +kernel
theorem d_T_hasTwicesThatContradict_20 : decode b_T_hasTwicesThatContradict 20 = .ok (.iload_n 1, 1) := by decide +kernel
theorem d_T_hasTwicesThatContradict_21 : decode b_T_hasTwicesThatContradict 21 = .ok (.iconst 1, 1) := by decide +kernel
theorem d_T_hasTwicesThatContradict_22 : decode b_T_hasTwicesThatContradict 22 = .ok (.ixor, 1) := by decide +kernel
theorem d_T_hasTwicesThatContradict_23 : decode b_T_hasTwicesThatContradict 23 = .ok (.invokevirtual 27, 3) := by decide +kernel
theorem d_T_hasTwicesThatContradict_26 : decode b_T_hasTwicesThatContradict 26 = .ok (.invokestatic 88, 3) := by decide +kernel
theorem d_T_hasTwicesThatContradict_29 : decode b_T_hasTwicesThatContradict 29 = .ok (.lconst 0, 1) := by decide +kernel
theorem d_T_hasTwicesThatContradict_30 : decode b_T_hasTwicesThatContradict 30 = .ok (.lcmp, 1) := by decide +kernel
theorem d_T_hasTwicesThatContradict_31 : decode b_T_hasTwicesThatContradict 31 = .ok (.ifCond .ge 5, 3) := by decide +kernel
theorem d_T_hasTwicesThatContradict_34 : decode b_T_hasTwicesThatContradict 34 = .ok (.iconst 1, 1) := by decide +kernel
theorem d_T_hasTwicesThatContradict_35 : decode b_T_hasTwicesThatContradict 35 = .ok (.ireturn, 1) := by decide +kernel
theorem d_T_hasTwicesThatContradict_36 : decode b_T_hasTwicesThatContradict 36 = .ok (.iinc 1 1, 3) := by decide +kernel
theorem d_T_hasTwicesThatContradict_39 : decode b_T_hasTwicesThatContradict 39 = .ok (.goto (-37), 3) := by decide +kernel
theorem d_T_hasTwicesThatContradict_42 : decode b_T_hasTwicesThatContradict 42 = .ok (.iconst 0, 1) := by decide +kernel
theorem d_T_hasTwicesThatContradict_43 : decode b_T_hasTwicesThatContradict 43 = .ok (.ireturn, 1) := by decide +kernel
theorem d_T_addHalves_0 : decode b_T_addHalves 0 = .ok (.iconst 0, 1) := by decide +kernel
theorem d_T_addHalves_1 : decode b_T_addHalves 1 = .ok (.istore_n 1, 1) := by decide +kernel
theorem d_T_addHalves_2 : decode b_T_addHalves 2 = .ok (.iload_n 1, 1) := by decide +kernel
theorem d_T_addHalves_3 : decode b_T_addHalves 3 = .ok (.aload_n 0, 1) := by decide +kernel
theorem d_T_addHalves_4 : decode b_T_addHalves 4 = .ok (.getfield 9, 3) := by decide +kernel
theorem d_T_addHalves_7 : decode b_T_addHalves 7 = .ok (.if_icmp .ge 46, 3) := by decide +kernel
theorem d_T_addHalves_10 : decode b_T_addHalves 10 = .ok (.iload_n 1, 1) := by decide +kernel
theorem d_T_addHalves_11 : decode b_T_addHalves 11 = .ok (.iconst 1, 1) := by decide +kernel
theorem d_T_addHalves_12 : decode b_T_addHalves 12 = .ok (.iadd, 1) := by decide +kernel
theorem d_T_addHalves_13 : decode b_T_addHalves 13 = .ok (.istore_n 2, 1) := by decide +kernel
theorem d_T_addHalves_14 : decode b_T_addHalves 14 = .ok (.iload_n 2, 1) := by decide +kernel
theorem d_T_addHalves_15 : decode b_T_addHalves 15 = .ok (.aload_n 0, 1) := by decide +kernel
theorem d_T_addHalves_16 : decode b_T_addHalves 16 = .ok (.getfield 9, 3) := by decide +kernel
theorem d_T_addHalves_19 : decode b_T_addHalves 19 = .ok (.if_icmp .ge 28, 3) := by decide +kernel
theorem d_T_addHalves_22 : decode b_T_addHalves 22 = .ok (.aload_n 0, 1) := by decide +kernel
theorem d_T_addHalves_23 : decode b_T_addHalves 23 = .ok (.iload_n 1, 1) := by decide +kernel
theorem d_T_addHalves_24 : decode b_T_addHalves 24 = .ok (.iload_n 2, 1) := by decide +kernel
theorem d_T_addHalves_25 : decode b_T_addHalves 25 = .ok (.aload_n 0, 1) := by decide +kernel
theorem d_T_addHalves_26 : decode b_T_addHalves 26 = .ok (.iload_n 1, 1) := by decide +kernel
theorem d_T_addHalves_27 : decode b_T_addHalves 27 = .ok (.invokevirtual 37, 3) := by decide +kernel
theorem d_T_addHalves_30 : decode b_T_addHalves 30 = .ok (.aload_n 0, 1) := by decide +kernel
theorem d_T_addHalves_31 : decode b_T_addHalves 31 = .ok (.iload_n 2, 1) := by decide +kernel
theorem d_T_addHalves_32 : decode b_T_addHalves 32 = .ok (.invokevirtual 37, 3) := by decide +kernel
theorem d_T_addHalves_35 : decode b_T_addHalves 35 = .ok (.invokestatic 88, 3) := by decide +kernel
theorem d_T_addHalves_38 : decode b_T_addHalves 38 = .ok (.invokevirtual 91, 3) := by decide +kernel
theorem d_T_addHalves_41 : decode b_T_addHalves 41 = .ok (.iinc 2 1, 3) := by decide +kernel
theorem d_T_addHalves_44 : decode b_T_addHalves 44 = .ok (.goto (-30), 3) := by decide +kernel
theorem d_T_addHalves_47 : decode b_T_addHalves 47 = .ok (.iinc 1 1, 3) := by decide +kernel
theorem d_T_addHalves_50 : decode b_T_addHalves 50 = .ok (.goto (-48), 3) := by decide +kernel
theorem d_T_addHalves_53 : decode b_T_addHalves 53 = .ok (.return_, 1) := by decide +kernel
theorem d_JM_floorDiv_0 : decode b_JM_floorDiv 0 = .ok (.lload_n 0, 1) := by decide +kernel
theorem d_JM_floorDiv_1 : decode b_JM_floorDiv 1 = .ok (.lload_n 2, 1) := by decide +kernel
theorem d_JM_floorDiv_2 : decode b_JM_floorDiv 2 = .ok (.ldiv, 1) := by decide +kernel
theorem d_JM_floorDiv_3 : decode b_JM_floorDiv 3 = .ok (.lstore 4, 2) := by decide +kernel
theorem d_JM_floorDiv_5 : decode b_JM_floorDiv 5 = .ok (.lload_n 0, 1) := by decide +kernel
theorem d_JM_floorDiv_6 : decode b_JM_floorDiv 6 = .ok (.lload_n 2, 1) := by decide +kernel
theorem d_JM_floorDiv_7 : decode b_JM_floorDiv 7 = .ok (.lxor, 1) := by decide +kernel
theorem d_JM_floorDiv_8 : decode b_JM_floorDiv 8 = .ok (.lconst 0, 1) := by decide +kernel
theorem d_JM_floorDiv_9 : decode b_JM_floorDiv 9 = .ok (.lcmp, 1) := by decide +kernel
theorem d_JM_floorDiv_10 : decode b_JM_floorDiv 10 = .ok (.ifCond .ge 17, 3) := by decide +kernel
theorem d_JM_floorDiv_13 : decode b_JM_floorDiv 13 = .ok (.lload 4, 2) := by decide +kernel
theorem d_JM_floorDiv_15 : decode b_JM_floorDiv 15 = .ok (.lload_n 2, 1) := by decide +kernel
theorem d_JM_floorDiv_16 : decode b_JM_floorDiv 16 = .ok (.lmul, 1) := by decide +kernel
theorem d_JM_floorDiv_17 : decode b_JM_floorDiv 17 = .ok (.lload_n 0, 1) := by decide +kernel
theorem d_JM_floorDiv_18 : decode b_JM_floorDiv 18 = .ok (.lcmp, 1) := by decide +kernel
theorem d_JM_floorDiv_19 : decode b_JM_floorDiv 19 = .ok (.ifCond .eq 8, 3) := by decide +kernel
theorem d_JM_floorDiv_22 : decode b_JM_floorDiv 22 = .ok (.lload 4, 2) := by decide +kernel
theorem d_JM_floorDiv_24 : decode b_JM_floorDiv 24 = .ok (.lconst 1, 1) := by decide +kernel
theorem d_JM_floorDiv_25 : decode b_JM_floorDiv 25 = .ok (.lsub, 1) := by decide +kernel
theorem d_JM_floorDiv_26 : decode b_JM_floorDiv 26 = .ok (.lreturn, 1) := by decide +kernel
theorem d_JM_floorDiv_27 : decode b_JM_floorDiv 27 = .ok (.lload 4, 2) := by decide +kernel
theorem d_JM_floorDiv_29 : decode b_JM_floorDiv 29 = .ok (.lreturn, 1) := by decide +kernel
theorem d_JM_max_0 : decode b_JM_max 0 = .ok (.iload_n 0, 1) := by decide +kernel
theorem d_JM_max_1 : decode b_JM_max 1 = .ok (.iload_n 1, 1) := by decide +kernel
theorem d_JM_max_2 : decode b_JM_max 2 = .ok (.if_icmp .lt 7, 3) := by decide +kernel
theorem d_JM_max_5 : decode b_JM_max 5 = .ok (.iload_n 0, 1) := by decide +kernel
theorem d_JM_max_6 : decode b_JM_max 6 = .ok (.goto 4, 3) := by decide +kernel
theorem d_JM_max_9 : decode b_JM_max 9 = .ok (.iload_n 1, 1) := by decide +kernel
theorem d_JM_max_10 : decode b_JM_max 10 = .ok (.ireturn, 1) := by decide +kernel
theorem d_JM_max_JJJ_0 : decode b_JM_max_JJJ 0 = .ok (.lload_n 0, 1) := by decide +kernel
theorem d_JM_max_JJJ_1 : decode b_JM_max_JJJ 1 = .ok (.lload_n 2, 1) := by decide +kernel
theorem d_JM_max_JJJ_2 : decode b_JM_max_JJJ 2 = .ok (.lcmp, 1) := by decide +kernel
theorem d_JM_max_JJJ_3 : decode b_JM_max_JJJ 3 = .ok (.ifCond .lt 7, 3) := by decide +kernel
theorem d_JM_max_JJJ_6 : decode b_JM_max_JJJ 6 = .ok (.lload_n 0, 1) := by decide +kernel
theorem d_JM_max_JJJ_7 : decode b_JM_max_JJJ 7 = .ok (.goto 4, 3) := by decide +kernel
theorem d_JM_max_JJJ_10 : decode b_JM_max_JJJ 10 = .ok (.lload_n 2, 1) := by decide +kernel
theorem d_JM_max_JJJ_11 : decode b_JM_max_JJJ 11 = .ok (.lreturn, 1) := by decide +kernel
theorem d_JM_min_0 : decode b_JM_min 0 = .ok (.iload_n 0, 1) := by decide +kernel
theorem d_JM_min_1 : decode b_JM_min 1 = .ok (.iload_n 1, 1) := by decide +kernel
theorem d_JM_min_2 : decode b_JM_min 2 = .ok (.if_icmp .gt 7, 3) := by decide +kernel
theorem d_JM_min_5 : decode b_JM_min 5 = .ok (.iload_n 0, 1) := by decide +kernel
theorem d_JM_min_6 : decode b_JM_min 6 = .ok (.goto 4, 3) := by decide +kernel
theorem d_JM_min_9 : decode b_JM_min 9 = .ok (.iload_n 1, 1) := by decide +kernel
theorem d_JM_min_10 : decode b_JM_min 10 = .ok (.ireturn, 1) := by decide +kernel
theorem d_JM_min_JJJ_0 : decode b_JM_min_JJJ 0 = .ok (.lload_n 0, 1) := by decide +kernel
theorem d_JM_min_JJJ_1 : decode b_JM_min_JJJ 1 = .ok (.lload_n 2, 1) := by decide +kernel
theorem d_JM_min_JJJ_2 : decode b_JM_min_JJJ 2 = .ok (.lcmp, 1) := by decide +kernel
theorem d_JM_min_JJJ_3 : decode b_JM_min_JJJ 3 = .ok (.ifCond .gt 7, 3) := by decide +kernel
theorem d_JM_min_JJJ_6 : decode b_JM_min_JJJ 6 = .ok (.lload_n 0, 1) := by decide +kernel
theorem d_JM_min_JJJ_7 : decode b_JM_min_JJJ 7 = .ok (.goto 4, 3) := by decide +kernel
theorem d_JM_min_JJJ_10 : decode b_JM_min_JJJ 10 = .ok (.lload_n 2, 1) := by decide +kernel
theorem d_JM_min_JJJ_11 : decode b_JM_min_JJJ 11 = .ok (.lreturn, 1) := by decide +kernel
theorem d_JA_fill_0 : decode b_JA_fill 0 = .ok (.iconst 0, 1) := by decide +kernel
theorem d_JA_fill_1 : decode b_JA_fill 1 = .ok (.istore_n 3, 1) := by decide +kernel
theorem d_JA_fill_2 : decode b_JA_fill 2 = .ok (.aload_n 0, 1) := by decide +kernel
theorem d_JA_fill_3 : decode b_JA_fill 3 = .ok (.arraylength, 1) := by decide +kernel
theorem d_JA_fill_4 : decode b_JA_fill 4 = .ok (.istore 4, 2) := by decide +kernel
theorem d_JA_fill_6 : decode b_JA_fill 6 = .ok (.iload_n 3, 1) := by decide +kernel
theorem d_JA_fill_7 : decode b_JA_fill 7 = .ok (.iload 4, 2) := by decide +kernel
theorem d_JA_fill_9 : decode b_JA_fill 9 = .ok (.if_icmp .ge 13, 3) := by decide +kernel
theorem d_JA_fill_12 : decode b_JA_fill 12 = .ok (.aload_n 0, 1) := by decide +kernel
theorem d_JA_fill_13 : decode b_JA_fill 13 = .ok (.iload_n 3, 1) := by decide +kernel
theorem d_JA_fill_14 : decode b_JA_fill 14 = .ok (.lload_n 1, 1) := by decide +kernel
theorem d_JA_fill_15 : decode b_JA_fill 15 = .ok (.lastore, 1) := by decide +kernel
theorem d_JA_fill_16 : decode b_JA_fill 16 = .ok (.iinc 3 1, 3) := by decide +kernel
theorem d_JA_fill_19 : decode b_JA_fill 19 = .ok (.goto (-13), 3) := by decide +kernel
theorem d_JA_fill_22 : decode b_JA_fill 22 = .ok (.return_, 1) := by decide +kernel
