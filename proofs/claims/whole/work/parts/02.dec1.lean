theorem dX11_friend_62 : decode cX11_friend 62 = .ok (.invokevirtual 146, 3) := by decide +kernel
theorem dX11_friend_65 : decode cX11_friend 65 = .ok (.ireturn, 1) := by decide +kernel
theorem dX11_friend_66 : decode cX11_friend 66 = .ok (.bipush (-102), 2) := by decide +kernel
theorem dX11_friend_68 : decode cX11_friend 68 = .ok (.ireturn, 1) := by decide +kernel
theorem dX11_black_0 : decode cX11_black 0 = .ok (.aload_n 0, 1) := by decide +kernel
theorem dX11_black_1 : decode cX11_black 1 = .ok (.iload_n 1, 1) := by decide +kernel
theorem dX11_black_2 : decode cX11_black 2 = .ok (.invokevirtual 87, 3) := by decide +kernel
theorem dX11_black_5 : decode cX11_black 5 = .ok (.astore 5, 2) := by decide +kernel
theorem dX11_black_7 : decode cX11_black 7 = .ok (.aload_n 0, 1) := by decide +kernel
theorem dX11_black_8 : decode cX11_black 8 = .ok (.iload 4, 2) := by decide +kernel
theorem dX11_black_10 : decode cX11_black 10 = .ok (.invokevirtual 99, 3) := by decide +kernel
theorem dX11_black_13 : decode cX11_black 13 = .ok (.astore 6, 2) := by decide +kernel
theorem dX11_black_15 : decode cX11_black 15 = .ok (.aload 5, 2) := by decide +kernel
theorem dX11_black_17 : decode cX11_black 17 = .ok (.ifnull 16, 3) := by decide +kernel
theorem dX11_black_20 : decode cX11_black 20 = .ok (.aload 6, 2) := by decide +kernel
theorem dX11_black_22 : decode cX11_black 22 = .ok (.ifnull 11, 3) := by decide +kernel
theorem dX11_black_25 : decode cX11_black 25 = .ok (.aload_n 0, 1) := by decide +kernel
theorem dX11_black_26 : decode cX11_black 26 = .ok (.iload_n 2, 1) := by decide +kernel
theorem dX11_black_27 : decode cX11_black 27 = .ok (.invokevirtual 129, 3) := by decide +kernel
theorem dX11_black_30 : decode cX11_black 30 = .ok (.ifCond .ne 6, 3) := by decide +kernel
theorem dX11_black_33 : decode cX11_black 33 = .ok (.bipush (-101), 2) := by decide +kernel
theorem dX11_black_35 : decode cX11_black 35 = .ok (.ireturn, 1) := by decide +kernel
theorem dX11_black_36 : decode cX11_black 36 = .ok (.aload_n 0, 1) := by decide +kernel
theorem dX11_black_37 : decode cX11_black 37 = .ok (.iload_n 3, 1) := by decide +kernel
theorem dX11_black_38 : decode cX11_black 38 = .ok (.invokevirtual 149, 3) := by decide +kernel
theorem dX11_black_41 : decode cX11_black 41 = .ok (.ifCond .eq 12, 3) := by decide +kernel
theorem dX11_black_44 : decode cX11_black 44 = .ok (.iload_n 3, 1) := by decide +kernel
theorem dX11_black_45 : decode cX11_black 45 = .ok (.iload 4, 2) := by decide +kernel
theorem dX11_black_47 : decode cX11_black 47 = .ok (.invokestatic 152, 3) := by decide +kernel
theorem dX11_black_50 : decode cX11_black 50 = .ok (.ifCond .ne 6, 3) := by decide +kernel
theorem dX11_black_53 : decode cX11_black 53 = .ok (.bipush (-102), 2) := by decide +kernel
theorem dX11_black_55 : decode cX11_black 55 = .ok (.ireturn, 1) := by decide +kernel
theorem dX11_black_56 : decode cX11_black 56 = .ok (.aload_n 0, 1) := by decide +kernel
theorem dX11_black_57 : decode cX11_black 57 = .ok (.aload 6, 2) := by decide +kernel
theorem dX11_black_59 : decode cX11_black 59 = .ok (.iload_n 2, 1) := by decide +kernel
theorem dX11_black_60 : decode cX11_black 60 = .ok (.aload 5, 2) := by decide +kernel
theorem dX11_black_62 : decode cX11_black 62 = .ok (.iload_n 3, 1) := by decide +kernel
theorem dX11_black_63 : decode cX11_black 63 = .ok (.invokestatic 156, 3) := by decide +kernel
theorem dX11_black_66 : decode cX11_black 66 = .ok (.invokevirtual 160, 3) := by decide +kernel
theorem dX11_black_69 : decode cX11_black 69 = .ok (.ireturn, 1) := by decide +kernel
theorem dX11_balls_0 : decode cX11_balls 0 = .ok (.aload_n 0, 1) := by decide +kernel
theorem dX11_balls_1 : decode cX11_balls 1 = .ok (.iload_n 1, 1) := by decide +kernel
theorem dX11_balls_2 : decode cX11_balls 2 = .ok (.invokevirtual 87, 3) := by decide +kernel
theorem dX11_balls_5 : decode cX11_balls 5 = .ok (.astore 6, 2) := by decide +kernel
theorem dX11_balls_7 : decode cX11_balls 7 = .ok (.aload 6, 2) := by decide +kernel
theorem dX11_balls_9 : decode cX11_balls 9 = .ok (.ifnull 11, 3) := by decide +kernel
theorem dX11_balls_12 : decode cX11_balls 12 = .ok (.aload_n 0, 1) := by decide +kernel
theorem dX11_balls_13 : decode cX11_balls 13 = .ok (.iload_n 2, 1) := by decide +kernel
theorem dX11_balls_14 : decode cX11_balls 14 = .ok (.invokevirtual 129, 3) := by decide +kernel
theorem dX11_balls_17 : decode cX11_balls 17 = .ok (.ifCond .ne 6, 3) := by decide +kernel
theorem dX11_balls_20 : decode cX11_balls 20 = .ok (.bipush (-101), 2) := by decide +kernel
theorem dX11_balls_22 : decode cX11_balls 22 = .ok (.ireturn, 1) := by decide +kernel
theorem dX11_balls_23 : decode cX11_balls 23 = .ok (.aload_n 0, 1) := by decide +kernel
theorem dX11_balls_24 : decode cX11_balls 24 = .ok (.iload_n 3, 1) := by decide +kernel
theorem dX11_balls_25 : decode cX11_balls 25 = .ok (.invokevirtual 149, 3) := by decide +kernel
theorem dX11_balls_28 : decode cX11_balls 28 = .ok (.ifCond .eq 22, 3) := by decide +kernel
theorem dX11_balls_31 : decode cX11_balls 31 = .ok (.iload 4, 2) := by decide +kernel
theorem dX11_balls_33 : decode cX11_balls 33 = .ok (.iconst 0, 1) := by decide +kernel
theorem dX11_balls_34 : decode cX11_balls 34 = .ok (.bipush 8, 2) := by decide +kernel
theorem dX11_balls_36 : decode cX11_balls 36 = .ok (.invokestatic 91, 3) := by decide +kernel
theorem dX11_balls_39 : decode cX11_balls 39 = .ok (.ifCond .eq 11, 3) := by decide +kernel
theorem dX11_balls_42 : decode cX11_balls 42 = .ok (.iload 5, 2) := by decide +kernel
theorem dX11_balls_44 : decode cX11_balls 44 = .ok (.invokestatic 164, 3) := by decide +kernel
theorem dX11_balls_47 : decode cX11_balls 47 = .ok (.ifCond .ne 6, 3) := by decide +kernel
theorem dX11_balls_50 : decode cX11_balls 50 = .ok (.bipush (-102), 2) := by decide +kernel
theorem dX11_balls_52 : decode cX11_balls 52 = .ok (.ireturn, 1) := by decide +kernel
theorem dX11_balls_53 : decode cX11_balls 53 = .ok (.aload_n 0, 1) := by decide +kernel
theorem dX11_balls_54 : decode cX11_balls 54 = .ok (.iload_n 2, 1) := by decide +kernel
theorem dX11_balls_55 : decode cX11_balls 55 = .ok (.iload_n 3, 1) := by decide +kernel
theorem dX11_balls_56 : decode cX11_balls 56 = .ok (.aload 6, 2) := by decide +kernel
theorem dX11_balls_58 : decode cX11_balls 58 = .ok (.iload_n 3, 1) := by decide +kernel
theorem dX11_balls_59 : decode cX11_balls 59 = .ok (.invokestatic 156, 3) := by decide +kernel
theorem dX11_balls_62 : decode cX11_balls 62 = .ok (.invokevirtual 167, 3) := by decide +kernel
theorem dX11_balls_65 : decode cX11_balls 65 = .ok (.aload_n 0, 1) := by decide +kernel
theorem dX11_balls_66 : decode cX11_balls 66 = .ok (.getfield 35, 3) := by decide +kernel
theorem dX11_balls_69 : decode cX11_balls 69 = .ok (.iload 4, 2) := by decide +kernel
theorem dX11_balls_71 : decode cX11_balls 71 = .ok (.invokevirtual 171, 3) := by decide +kernel
theorem dX11_balls_74 : decode cX11_balls 74 = .ok (.aload_n 0, 1) := by decide +kernel
theorem dX11_balls_75 : decode cX11_balls 75 = .ok (.getfield 35, 3) := by decide +kernel
theorem dX11_balls_78 : decode cX11_balls 78 = .ok (.invokevirtual 175, 3) := by decide +kernel
theorem dX11_balls_81 : decode cX11_balls 81 = .ok (.iload 5, 2) := by decide +kernel
theorem dX11_balls_83 : decode cX11_balls 83 = .ok (.invokestatic 179, 3) := by decide +kernel
theorem dX11_balls_86 : decode cX11_balls 86 = .ok (.l2i, 1) := by decide +kernel
theorem dX11_balls_87 : decode cX11_balls 87 = .ok (.ireturn, 1) := by decide +kernel
theorem dX11_in_0 : decode cX11_in 0 = .ok (.aload_n 0, 1) := by decide +kernel
theorem dX11_in_1 : decode cX11_in 1 = .ok (.iload_n 1, 1) := by decide +kernel
theorem dX11_in_2 : decode cX11_in 2 = .ok (.invokevirtual 87, 3) := by decide +kernel
theorem dX11_in_5 : decode cX11_in 5 = .ok (.astore 5, 2) := by decide +kernel
theorem dX11_in_7 : decode cX11_in 7 = .ok (.aload 5, 2) := by decide +kernel
theorem dX11_in_9 : decode cX11_in 9 = .ok (.ifnull 11, 3) := by decide +kernel
theorem dX11_in_12 : decode cX11_in 12 = .ok (.aload_n 0, 1) := by decide +kernel
theorem dX11_in_13 : decode cX11_in 13 = .ok (.iload_n 2, 1) := by decide +kernel
theorem dX11_in_14 : decode cX11_in 14 = .ok (.invokevirtual 129, 3) := by decide +kernel
theorem dX11_in_17 : decode cX11_in 17 = .ok (.ifCond .ne 7, 3) := by decide +kernel
theorem dX11_in_20 : decode cX11_in 20 = .ok (.ldc2_w 183, 3) := by decide +kernel
theorem dX11_in_23 : decode cX11_in 23 = .ok (.lreturn, 1) := by decide +kernel
theorem dX11_in_24 : decode cX11_in 24 = .ok (.aload_n 0, 1) := by decide +kernel
theorem dX11_in_25 : decode cX11_in 25 = .ok (.iload_n 3, 1) := by decide +kernel
theorem dX11_in_26 : decode cX11_in 26 = .ok (.invokevirtual 149, 3) := by decide +kernel
theorem dX11_in_29 : decode cX11_in 29 = .ok (.ifCond .eq 11, 3) := by decide +kernel
theorem dX11_in_32 : decode cX11_in 32 = .ok (.iload 4, 2) := by decide +kernel
theorem dX11_in_34 : decode cX11_in 34 = .ok (.invokestatic 164, 3) := by decide +kernel
theorem dX11_in_37 : decode cX11_in 37 = .ok (.ifCond .ne 7, 3) := by decide +kernel
theorem dX11_in_40 : decode cX11_in 40 = .ok (.ldc2_w 185, 3) := by decide +kernel
theorem dX11_in_43 : decode cX11_in 43 = .ok (.lreturn, 1) := by decide +kernel
theorem dX11_in_44 : decode cX11_in 44 = .ok (.aload_n 0, 1) := by decide +kernel
theorem dX11_in_45 : decode cX11_in 45 = .ok (.aload 5, 2) := by decide +kernel
theorem dX11_in_47 : decode cX11_in 47 = .ok (.iload_n 2, 1) := by decide +kernel
theorem dX11_in_48 : decode cX11_in 48 = .ok (.iload_n 3, 1) := by decide +kernel
theorem dX11_in_49 : decode cX11_in 49 = .ok (.invokevirtual 187, 3) := by decide +kernel
theorem dX11_in_52 : decode cX11_in 52 = .ok (.iload_n 3, 1) := by decide +kernel
theorem dX11_in_53 : decode cX11_in 53 = .ok (.invokestatic 191, 3) := by decide +kernel
theorem dX11_in_56 : decode cX11_in 56 = .ok (.iload 4, 2) := by decide +kernel
theorem dX11_in_58 : decode cX11_in 58 = .ok (.invokestatic 179, 3) := by decide +kernel
theorem dX11_in_61 : decode cX11_in 61 = .ok (.lreturn, 1) := by decide +kernel
theorem dX11_large_0 : decode cX11_large 0 = .ok (.aload_n 0, 1) := by decide +kernel
theorem dX11_large_1 : decode cX11_large 1 = .ok (.iload_n 1, 1) := by decide +kernel
theorem dX11_large_2 : decode cX11_large 2 = .ok (.invokevirtual 87, 3) := by decide +kernel
theorem dX11_large_5 : decode cX11_large 5 = .ok (.astore 4, 2) := by decide +kernel
theorem dX11_large_7 : decode cX11_large 7 = .ok (.aload 4, 2) := by decide +kernel
theorem dX11_large_9 : decode cX11_large 9 = .ok (.ifnull 11, 3) := by decide +kernel
theorem dX11_large_12 : decode cX11_large 12 = .ok (.aload_n 0, 1) := by decide +kernel
theorem dX11_large_13 : decode cX11_large 13 = .ok (.iload_n 2, 1) := by decide +kernel
theorem dX11_large_14 : decode cX11_large 14 = .ok (.invokevirtual 129, 3) := by decide +kernel
theorem dX11_large_17 : decode cX11_large 17 = .ok (.ifCond .ne 7, 3) := by decide +kernel
theorem dX11_large_20 : decode cX11_large 20 = .ok (.ldc2_w 183, 3) := by decide +kernel
theorem dX11_large_23 : decode cX11_large 23 = .ok (.lreturn, 1) := by decide +kernel
theorem dX11_large_24 : decode cX11_large 24 = .ok (.iload_n 3, 1) := by decide +kernel
theorem dX11_large_25 : decode cX11_large 25 = .ok (.invokestatic 164, 3) := by decide +kernel
theorem dX11_large_28 : decode cX11_large 28 = .ok (.ifCond .ne 7, 3) := by decide +kernel
theorem dX11_large_31 : decode cX11_large 31 = .ok (.ldc2_w 185, 3) := by decide +kernel
theorem dX11_large_34 : decode cX11_large 34 = .ok (.lreturn, 1) := by decide +kernel
theorem dX11_large_35 : decode cX11_large 35 = .ok (.aload 4, 2) := by decide +kernel
theorem dX11_large_37 : decode cX11_large 37 = .ok (.getfield 194, 3) := by decide +kernel
theorem dX11_large_40 : decode cX11_large 40 = .ok (.ifCond .eq 7, 3) := by decide +kernel
theorem dX11_large_43 : decode cX11_large 43 = .ok (.ldc2_w 198, 3) := by decide +kernel
theorem dX11_large_46 : decode cX11_large 46 = .ok (.lreturn, 1) := by decide +kernel
theorem dX11_large_47 : decode cX11_large 47 = .ok (.aload 4, 2) := by decide +kernel
theorem dX11_large_49 : decode cX11_large 49 = .ok (.aload_n 0, 1) := by decide +kernel
theorem dX11_large_50 : decode cX11_large 50 = .ok (.invokevirtual 200, 3) := by decide +kernel
theorem dX11_large_53 : decode cX11_large 53 = .ok (.invokestatic 156, 3) := by decide +kernel
theorem dX11_large_56 : decode cX11_large 56 = .ok (.istore 5, 2) := by decide +kernel
theorem dX11_large_58 : decode cX11_large 58 = .ok (.aload_n 0, 1) := by decide +kernel
theorem dX11_large_59 : decode cX11_large 59 = .ok (.getfield 42, 3) := by decide +kernel
theorem dX11_large_62 : decode cX11_large 62 = .ok (.invokevirtual 203, 3) := by decide +kernel
theorem dX11_large_65 : decode cX11_large 65 = .ok (.iconst 0, 1) := by decide +kernel
theorem dX11_large_66 : decode cX11_large 66 = .ok (.istore 6, 2) := by decide +kernel
theorem dX11_large_68 : decode cX11_large 68 = .ok (.iload 6, 2) := by decide +kernel
theorem dX11_large_70 : decode cX11_large 70 = .ok (.aload_n 0, 1) := by decide +kernel
theorem dX11_large_71 : decode cX11_large 71 = .ok (.getfield 103, 3) := by decide +kernel
theorem dX11_large_74 : decode cX11_large 74 = .ok (.if_icmp .ge 40, 3) := by decide +kernel
theorem dX11_large_77 : decode cX11_large 77 = .ok (.aload_n 0, 1) := by decide +kernel
theorem dX11_large_78 : decode cX11_large 78 = .ok (.getfield 42, 3) := by decide +kernel
theorem dX11_large_81 : decode cX11_large 81 = .ok (.aload_n 0, 1) := by decide +kernel
theorem dX11_large_82 : decode cX11_large 82 = .ok (.getfield 24, 3) := by decide +kernel
theorem dX11_large_85 : decode cX11_large 85 = .ok (.iload 6, 2) := by decide +kernel
theorem dX11_large_87 : decode cX11_large 87 = .ok (.aaload, 1) := by decide +kernel
theorem dX11_large_88 : decode cX11_large 88 = .ok (.getfield 123, 3) := by decide +kernel
theorem dX11_large_91 : decode cX11_large 91 = .ok (.aload_n 0, 1) := by decide +kernel
theorem dX11_large_92 : decode cX11_large 92 = .ok (.aload_n 0, 1) := by decide +kernel
theorem dX11_large_93 : decode cX11_large 93 = .ok (.getfield 24, 3) := by decide +kernel
theorem dX11_large_96 : decode cX11_large 96 = .ok (.iload 6, 2) := by decide +kernel
theorem dX11_large_98 : decode cX11_large 98 = .ok (.aaload, 1) := by decide +kernel
theorem dX11_large_99 : decode cX11_large 99 = .ok (.iload_n 2, 1) := by decide +kernel
theorem dX11_large_100 : decode cX11_large 100 = .ok (.iload 5, 2) := by decide +kernel
theorem dX11_large_102 : decode cX11_large 102 = .ok (.invokevirtual 160, 3) := by decide +kernel
theorem dX11_large_105 : decode cX11_large 105 = .ok (.invokevirtual 206, 3) := by decide +kernel
theorem dX11_large_108 : decode cX11_large 108 = .ok (.iinc 6 1, 3) := by decide +kernel
theorem dX11_large_111 : decode cX11_large 111 = .ok (.goto (-43), 3) := by decide +kernel
theorem dX11_large_114 : decode cX11_large 114 = .ok (.aload_n 0, 1) := by decide +kernel
theorem dX11_large_115 : decode cX11_large 115 = .ok (.getfield 42, 3) := by decide +kernel
theorem dX11_large_118 : decode cX11_large 118 = .ok (.aload 4, 2) := by decide +kernel
theorem dX11_large_120 : decode cX11_large 120 = .ok (.invokevirtual 209, 3) := by decide +kernel
theorem dX11_large_123 : decode cX11_large 123 = .ok (.aload_n 0, 1) := by decide +kernel
theorem dX11_large_124 : decode cX11_large 124 = .ok (.getfield 42, 3) := by decide +kernel
theorem dX11_large_127 : decode cX11_large 127 = .ok (.invokevirtual 213, 3) := by decide +kernel
theorem dX11_large_130 : decode cX11_large 130 = .ok (.iload_n 3, 1) := by decide +kernel
theorem dX11_large_131 : decode cX11_large 131 = .ok (.invokestatic 179, 3) := by decide +kernel
theorem dX11_large_134 : decode cX11_large 134 = .ok (.lreturn, 1) := by decide +kernel
theorem dX11_wrong_0 : decode cX11_wrong 0 = .ok (.aload_n 0, 1) := by decide +kernel
theorem dX11_wrong_1 : decode cX11_wrong 1 = .ok (.iload_n 1, 1) := by decide +kernel
theorem dX11_wrong_2 : decode cX11_wrong 2 = .ok (.invokevirtual 87, 3) := by decide +kernel
theorem dX11_wrong_5 : decode cX11_wrong 5 = .ok (.astore_n 3, 1) := by decide +kernel
theorem dX11_wrong_6 : decode cX11_wrong 6 = .ok (.aload_n 3, 1) := by decide +kernel
theorem dX11_wrong_7 : decode cX11_wrong 7 = .ok (.ifnonnull 7, 3) := by decide +kernel
theorem dX11_wrong_10 : decode cX11_wrong 10 = .ok (.ldc2_w 183, 3) := by decide +kernel
theorem dX11_wrong_13 : decode cX11_wrong 13 = .ok (.lreturn, 1) := by decide +kernel
theorem dX11_wrong_14 : decode cX11_wrong 14 = .ok (.aload_n 0, 1) := by decide +kernel
theorem dX11_wrong_15 : decode cX11_wrong 15 = .ok (.iload_n 2, 1) := by decide +kernel
theorem dX11_wrong_16 : decode cX11_wrong 16 = .ok (.invokevirtual 149, 3) := by decide +kernel
theorem dX11_wrong_19 : decode cX11_wrong 19 = .ok (.ifCond .ne 7, 3) := by decide +kernel
theorem dX11_wrong_22 : decode cX11_wrong 22 = .ok (.ldc2_w 185, 3) := by decide +kernel
theorem dX11_wrong_25 : decode cX11_wrong 25 = .ok (.lreturn, 1) := by decide +kernel
theorem dX11_wrong_26 : decode cX11_wrong 26 = .ok (.aload_n 0, 1) := by decide +kernel
theorem dX11_wrong_27 : decode cX11_wrong 27 = .ok (.aload_n 3, 1) := by decide +kernel
theorem dX11_wrong_28 : decode cX11_wrong 28 = .ok (.iload_n 2, 1) := by decide +kernel
theorem dX11_wrong_29 : decode cX11_wrong 29 = .ok (.invokevirtual 214, 3) := by decide +kernel
theorem dX11_wrong_32 : decode cX11_wrong 32 = .ok (.lreturn, 1) := by decide +kernel
theorem dX11_best_0 : decode cX11_best 0 = .ok (.aload_n 0, 1) := by decide +kernel
theorem dX11_best_1 : decode cX11_best 1 = .ok (.iload_n 1, 1) := by decide +kernel
theorem dX11_best_2 : decode cX11_best 2 = .ok (.invokevirtual 149, 3) := by decide +kernel
theorem dX11_best_5 : decode cX11_best 5 = .ok (.ifCond .ne 6, 3) := by decide +kernel
theorem dX11_best_8 : decode cX11_best 8 = .ok (.bipush (-102), 2) := by decide +kernel
theorem dX11_best_10 : decode cX11_best 10 = .ok (.ireturn, 1) := by decide +kernel
theorem dX11_best_11 : decode cX11_best 11 = .ok (.iconst (-1), 1) := by decide +kernel
theorem dX11_best_12 : decode cX11_best 12 = .ok (.istore_n 2, 1) := by decide +kernel
theorem dX11_best_13 : decode cX11_best 13 = .ok (.lconst 0, 1) := by decide +kernel
theorem dX11_best_14 : decode cX11_best 14 = .ok (.lstore_n 3, 1) := by decide +kernel
theorem dX11_best_15 : decode cX11_best 15 = .ok (.iconst 0, 1) := by decide +kernel
theorem dX11_best_16 : decode cX11_best 16 = .ok (.istore 5, 2) := by decide +kernel
theorem dX11_best_18 : decode cX11_best 18 = .ok (.iload 5, 2) := by decide +kernel
theorem dX11_best_20 : decode cX11_best 20 = .ok (.aload_n 0, 1) := by decide +kernel
theorem dX11_best_21 : decode cX11_best 21 = .ok (.getfield 79, 3) := by decide +kernel
theorem dX11_best_24 : decode cX11_best 24 = .ok (.if_icmp .ge 41, 3) := by decide +kernel
theorem dX11_best_27 : decode cX11_best 27 = .ok (.aload_n 0, 1) := by decide +kernel
theorem dX11_best_28 : decode cX11_best 28 = .ok (.aload_n 0, 1) := by decide +kernel
theorem dX11_best_29 : decode cX11_best 29 = .ok (.getfield 18, 3) := by decide +kernel
theorem dX11_best_32 : decode cX11_best 32 = .ok (.iload 5, 2) := by decide +kernel
theorem dX11_best_34 : decode cX11_best 34 = .ok (.aaload, 1) := by decide +kernel
theorem dX11_best_35 : decode cX11_best 35 = .ok (.iload_n 1, 1) := by decide +kernel
theorem dX11_best_36 : decode cX11_best 36 = .ok (.invokevirtual 214, 3) := by decide +kernel
theorem dX11_best_39 : decode cX11_best 39 = .ok (.lstore 6, 2) := by decide +kernel
theorem dX11_best_41 : decode cX11_best 41 = .ok (.iload_n 2, 1) := by decide +kernel
theorem dX11_best_42 : decode cX11_best 42 = .ok (.iconst (-1), 1) := by decide +kernel
theorem dX11_best_43 : decode cX11_best 43 = .ok (.if_icmp .eq 10, 3) := by decide +kernel
theorem dX11_best_46 : decode cX11_best 46 = .ok (.lload 6, 2) := by decide +kernel
theorem dX11_best_48 : decode cX11_best 48 = .ok (.lload_n 3, 1) := by decide +kernel
theorem dX11_best_49 : decode cX11_best 49 = .ok (.lcmp, 1) := by decide +kernel
theorem dX11_best_50 : decode cX11_best 50 = .ok (.ifCond .ge 9, 3) := by decide +kernel
theorem dX11_best_53 : decode cX11_best 53 = .ok (.iload 5, 2) := by decide +kernel
theorem dX11_best_55 : decode cX11_best 55 = .ok (.istore_n 2, 1) := by decide +kernel
theorem dX11_best_56 : decode cX11_best 56 = .ok (.lload 6, 2) := by decide +kernel
theorem dX11_best_58 : decode cX11_best 58 = .ok (.lstore_n 3, 1) := by decide +kernel
theorem dX11_best_59 : decode cX11_best 59 = .ok (.iinc 5 1, 3) := by decide +kernel
theorem dX11_best_62 : decode cX11_best 62 = .ok (.goto (-44), 3) := by decide +kernel
theorem dX11_best_65 : decode cX11_best 65 = .ok (.iload_n 2, 1) := by decide +kernel
theorem dX11_best_66 : decode cX11_best 66 = .ok (.ireturn, 1) := by decide +kernel
theorem dX11_who_0 : decode cX11_who 0 = .ok (.aload_n 0, 1) := by decide +kernel
theorem dX11_who_1 : decode cX11_who 1 = .ok (.iload_n 1, 1) := by decide +kernel
theorem dX11_who_2 : decode cX11_who 2 = .ok (.invokevirtual 87, 3) := by decide +kernel
theorem dX11_who_5 : decode cX11_who 5 = .ok (.astore 7, 2) := by decide +kernel
theorem dX11_who_7 : decode cX11_who 7 = .ok (.aload_n 0, 1) := by decide +kernel
theorem dX11_who_8 : decode cX11_who 8 = .ok (.iload 4, 2) := by decide +kernel
theorem dX11_who_10 : decode cX11_who 10 = .ok (.invokevirtual 99, 3) := by decide +kernel
theorem dX11_who_13 : decode cX11_who 13 = .ok (.astore 8, 2) := by decide +kernel
theorem dX11_who_15 : decode cX11_who 15 = .ok (.aload 7, 2) := by decide +kernel
theorem dX11_who_17 : decode cX11_who 17 = .ok (.ifnull 16, 3) := by decide +kernel
theorem dX11_who_20 : decode cX11_who 20 = .ok (.aload 8, 2) := by decide +kernel
theorem dX11_who_22 : decode cX11_who 22 = .ok (.ifnull 11, 3) := by decide +kernel
theorem dX11_who_25 : decode cX11_who 25 = .ok (.aload_n 0, 1) := by decide +kernel
theorem dX11_who_26 : decode cX11_who 26 = .ok (.iload_n 2, 1) := by decide +kernel
theorem dX11_who_27 : decode cX11_who 27 = .ok (.invokevirtual 129, 3) := by decide +kernel
theorem dX11_who_30 : decode cX11_who 30 = .ok (.ifCond .ne 6, 3) := by decide +kernel
theorem dX11_who_33 : decode cX11_who 33 = .ok (.bipush (-101), 2) := by decide +kernel
theorem dX11_who_35 : decode cX11_who 35 = .ok (.ireturn, 1) := by decide +kernel
theorem dX11_who_36 : decode cX11_who 36 = .ok (.aload_n 0, 1) := by decide +kernel
theorem dX11_who_37 : decode cX11_who 37 = .ok (.iload_n 3, 1) := by decide +kernel
theorem dX11_who_38 : decode cX11_who 38 = .ok (.invokevirtual 149, 3) := by decide +kernel
theorem dX11_who_41 : decode cX11_who 41 = .ok (.ifCond .eq 31, 3) := by decide +kernel
theorem dX11_who_44 : decode cX11_who 44 = .ok (.iload_n 3, 1) := by decide +kernel
theorem dX11_who_45 : decode cX11_who 45 = .ok (.iload 4, 2) := by decide +kernel
theorem dX11_who_47 : decode cX11_who 47 = .ok (.invokestatic 152, 3) := by decide +kernel
theorem dX11_who_50 : decode cX11_who 50 = .ok (.ifCond .eq 22, 3) := by decide +kernel
theorem dX11_who_53 : decode cX11_who 53 = .ok (.iload 5, 2) := by decide +kernel
theorem dX11_who_55 : decode cX11_who 55 = .ok (.iconst (-1), 1) := by decide +kernel
theorem dX11_who_56 : decode cX11_who 56 = .ok (.bipush 8, 2) := by decide +kernel
theorem dX11_who_58 : decode cX11_who 58 = .ok (.invokestatic 91, 3) := by decide +kernel
theorem dX11_who_61 : decode cX11_who 61 = .ok (.ifCond .eq 11, 3) := by decide +kernel
theorem dX11_who_64 : decode cX11_who 64 = .ok (.iload 6, 2) := by decide +kernel
theorem dX11_who_66 : decode cX11_who 66 = .ok (.invokestatic 164, 3) := by decide +kernel
theorem dX11_who_69 : decode cX11_who 69 = .ok (.ifCond .ne 6, 3) := by decide +kernel
theorem dX11_who_72 : decode cX11_who 72 = .ok (.bipush (-102), 2) := by decide +kernel
theorem dX11_who_74 : decode cX11_who 74 = .ok (.ireturn, 1) := by decide +kernel
theorem dX11_who_75 : decode cX11_who 75 = .ok (.aload 7, 2) := by decide +kernel
theorem dX11_who_77 : decode cX11_who 77 = .ok (.iload_n 3, 1) := by decide +kernel
theorem dX11_who_78 : decode cX11_who 78 = .ok (.invokestatic 156, 3) := by decide +kernel
theorem dX11_who_81 : decode cX11_who 81 = .ok (.istore 9, 2) := by decide +kernel
theorem dX11_who_83 : decode cX11_who 83 = .ok (.aload_n 0, 1) := by decide +kernel
theorem dX11_who_84 : decode cX11_who 84 = .ok (.aload 8, 2) := by decide +kernel
theorem dX11_who_86 : decode cX11_who 86 = .ok (.iload_n 2, 1) := by decide +kernel
theorem dX11_who_87 : decode cX11_who 87 = .ok (.iload 9, 2) := by decide +kernel
theorem dX11_who_89 : decode cX11_who 89 = .ok (.invokevirtual 160, 3) := by decide +kernel
theorem dX11_who_92 : decode cX11_who 92 = .ok (.istore 10, 2) := by decide +kernel
theorem dX11_who_94 : decode cX11_who 94 = .ok (.iload_n 3, 1) := by decide +kernel
theorem dX11_who_95 : decode cX11_who 95 = .ok (.invokestatic 218, 3) := by decide +kernel
theorem dX11_who_98 : decode cX11_who 98 = .ok (.istore 11, 2) := by decide +kernel
theorem dX11_who_100 : decode cX11_who 100 = .ok (.aload_n 0, 1) := by decide +kernel
theorem dX11_who_101 : decode cX11_who 101 = .ok (.iload_n 2, 1) := by decide +kernel
theorem dX11_who_102 : decode cX11_who 102 = .ok (.iload_n 3, 1) := by decide +kernel
theorem dX11_who_103 : decode cX11_who 103 = .ok (.iconst 1, 1) := by decide +kernel
theorem dX11_who_104 : decode cX11_who 104 = .ok (.iload 4, 2) := by decide +kernel
theorem dX11_who_106 : decode cX11_who 106 = .ok (.ishl, 1) := by decide +kernel
theorem dX11_who_107 : decode cX11_who 107 = .ok (.iconst (-1), 1) := by decide +kernel
theorem dX11_who_108 : decode cX11_who 108 = .ok (.ixor, 1) := by decide +kernel
theorem dX11_who_109 : decode cX11_who 109 = .ok (.iand, 1) := by decide +kernel
theorem dX11_who_110 : decode cX11_who 110 = .ok (.iload 9, 2) := by decide +kernel
theorem dX11_who_112 : decode cX11_who 112 = .ok (.invokevirtual 167, 3) := by decide +kernel
theorem dX11_who_115 : decode cX11_who 115 = .ok (.lconst 0, 1) := by decide +kernel
theorem dX11_who_116 : decode cX11_who 116 = .ok (.lstore 12, 2) := by decide +kernel
theorem dX11_who_118 : decode cX11_who 118 = .ok (.lconst 0, 1) := by decide +kernel
theorem dX11_who_119 : decode cX11_who 119 = .ok (.lstore 14, 2) := by decide +kernel
theorem dX11_who_121 : decode cX11_who 121 = .ok (.iconst 0, 1) := by decide +kernel
theorem dX11_who_122 : decode cX11_who 122 = .ok (.istore 16, 2) := by decide +kernel
theorem dX11_who_124 : decode cX11_who 124 = .ok (.iload 16, 2) := by decide +kernel
theorem dX11_who_126 : decode cX11_who 126 = .ok (.iload 11, 2) := by decide +kernel
theorem dX11_who_128 : decode cX11_who 128 = .ok (.if_icmp .gt 78, 3) := by decide +kernel
theorem dX11_who_131 : decode cX11_who 131 = .ok (.iload 5, 2) := by decide +kernel
theorem dX11_who_133 : decode cX11_who 133 = .ok (.iconst (-1), 1) := by decide +kernel
theorem dX11_who_134 : decode cX11_who 134 = .ok (.if_icmp .ne 18, 3) := by decide +kernel
theorem dX11_who_137 : decode cX11_who 137 = .ok (.aload 7, 2) := by decide +kernel
theorem dX11_who_139 : decode cX11_who 139 = .ok (.iload 16, 2) := by decide +kernel
theorem dX11_who_141 : decode cX11_who 141 = .ok (.iload 11, 2) := by decide +kernel
theorem dX11_who_143 : decode cX11_who 143 = .ok (.invokevirtual 223, 3) := by decide +kernel
theorem dX11_who_146 : decode cX11_who 146 = .ok (.ifCond .eq 54, 3) := by decide +kernel
theorem dX11_who_149 : decode cX11_who 149 = .ok (.goto 10, 3) := by decide +kernel
theorem dX11_who_152 : decode cX11_who 152 = .ok (.iload 16, 2) := by decide +kernel
theorem dX11_who_154 : decode cX11_who 154 = .ok (.iload 5, 2) := by decide +kernel
theorem dX11_who_156 : decode cX11_who 156 = .ok (.if_icmp .ne 44, 3) := by decide +kernel
theorem dX11_who_159 : decode cX11_who 159 = .ok (.lload 12, 2) := by decide +kernel
theorem dX11_who_161 : decode cX11_who 161 = .ok (.iload 10, 2) := by decide +kernel
theorem dX11_who_163 : decode cX11_who 163 = .ok (.i2l, 1) := by decide +kernel
theorem dX11_who_164 : decode cX11_who 164 = .ok (.aload_n 0, 1) := by decide +kernel
theorem dX11_who_165 : decode cX11_who 165 = .ok (.getfield 35, 3) := by decide +kernel
theorem dX11_who_168 : decode cX11_who 168 = .ok (.iload 16, 2) := by decide +kernel
theorem dX11_who_170 : decode cX11_who 170 = .ok (.iconst 1, 1) := by decide +kernel
theorem dX11_who_171 : decode cX11_who 171 = .ok (.isub, 1) := by decide +kernel
theorem dX11_who_172 : decode cX11_who 172 = .ok (.invokevirtual 171, 3) := by decide +kernel
theorem dX11_who_175 : decode cX11_who 175 = .ok (.lmul, 1) := by decide +kernel
theorem dX11_who_176 : decode cX11_who 176 = .ok (.ladd, 1) := by decide +kernel
theorem dX11_who_177 : decode cX11_who 177 = .ok (.lstore 12, 2) := by decide +kernel
theorem dX11_who_179 : decode cX11_who 179 = .ok (.lload 14, 2) := by decide +kernel
theorem dX11_who_181 : decode cX11_who 181 = .ok (.bipush 10, 2) := by decide +kernel
theorem dX11_who_183 : decode cX11_who 183 = .ok (.iload 10, 2) := by decide +kernel
theorem dX11_who_185 : decode cX11_who 185 = .ok (.isub, 1) := by decide +kernel
theorem dX11_who_186 : decode cX11_who 186 = .ok (.i2l, 1) := by decide +kernel
theorem dX11_who_187 : decode cX11_who 187 = .ok (.aload_n 0, 1) := by decide +kernel
theorem dX11_who_188 : decode cX11_who 188 = .ok (.getfield 35, 3) := by decide +kernel
theorem dX11_who_191 : decode cX11_who 191 = .ok (.iload 16, 2) := by decide +kernel
theorem dX11_who_193 : decode cX11_who 193 = .ok (.invokevirtual 171, 3) := by decide +kernel
theorem dX11_who_196 : decode cX11_who 196 = .ok (.lmul, 1) := by decide +kernel
theorem dX11_who_197 : decode cX11_who 197 = .ok (.ladd, 1) := by decide +kernel
theorem dX11_who_198 : decode cX11_who 198 = .ok (.lstore 14, 2) := by decide +kernel
theorem dX11_who_200 : decode cX11_who 200 = .ok (.iinc 16 1, 3) := by decide +kernel
theorem dX11_who_203 : decode cX11_who 203 = .ok (.goto (-79), 3) := by decide +kernel
theorem dX11_who_206 : decode cX11_who 206 = .ok (.lload 12, 2) := by decide +kernel
theorem dX11_who_208 : decode cX11_who 208 = .ok (.lload 12, 2) := by decide +kernel
theorem dX11_who_210 : decode cX11_who 210 = .ok (.lload 14, 2) := by decide +kernel
theorem dX11_who_212 : decode cX11_who 212 = .ok (.ladd, 1) := by decide +kernel
theorem dX11_who_213 : decode cX11_who 213 = .ok (.iload 6, 2) := by decide +kernel
theorem dX11_who_215 : decode cX11_who 215 = .ok (.invokestatic 179, 3) := by decide +kernel
theorem dX11_who_218 : decode cX11_who 218 = .ok (.l2i, 1) := by decide +kernel
theorem dX11_who_219 : decode cX11_who 219 = .ok (.ireturn, 1) := by decide +kernel
theorem dX11_heard_0 : decode cX11_heard 0 = .ok (.aload_n 0, 1) := by decide +kernel
theorem dX11_heard_1 : decode cX11_heard 1 = .ok (.iload_n 1, 1) := by decide +kernel
theorem dX11_heard_2 : decode cX11_heard 2 = .ok (.invokevirtual 87, 3) := by decide +kernel
theorem dX11_heard_5 : decode cX11_heard 5 = .ok (.astore 8, 2) := by decide +kernel
theorem dX11_heard_7 : decode cX11_heard 7 = .ok (.aload_n 0, 1) := by decide +kernel
theorem dX11_heard_8 : decode cX11_heard 8 = .ok (.iload 4, 2) := by decide +kernel
theorem dX11_heard_10 : decode cX11_heard 10 = .ok (.invokevirtual 99, 3) := by decide +kernel
theorem dX11_heard_13 : decode cX11_heard 13 = .ok (.astore 9, 2) := by decide +kernel
theorem dX11_heard_15 : decode cX11_heard 15 = .ok (.aload 8, 2) := by decide +kernel
theorem dX11_heard_17 : decode cX11_heard 17 = .ok (.ifnull 16, 3) := by decide +kernel
theorem dX11_heard_20 : decode cX11_heard 20 = .ok (.aload 9, 2) := by decide +kernel
theorem dX11_heard_22 : decode cX11_heard 22 = .ok (.ifnull 11, 3) := by decide +kernel
theorem dX11_heard_25 : decode cX11_heard 25 = .ok (.aload_n 0, 1) := by decide +kernel
theorem dX11_heard_26 : decode cX11_heard 26 = .ok (.iload_n 2, 1) := by decide +kernel
theorem dX11_heard_27 : decode cX11_heard 27 = .ok (.invokevirtual 129, 3) := by decide +kernel
theorem dX11_heard_30 : decode cX11_heard 30 = .ok (.ifCond .ne 6, 3) := by decide +kernel
theorem dX11_heard_33 : decode cX11_heard 33 = .ok (.bipush (-101), 2) := by decide +kernel
theorem dX11_heard_35 : decode cX11_heard 35 = .ok (.ireturn, 1) := by decide +kernel
theorem dX11_heard_36 : decode cX11_heard 36 = .ok (.aload_n 0, 1) := by decide +kernel
theorem dX11_heard_37 : decode cX11_heard 37 = .ok (.iload_n 3, 1) := by decide +kernel
theorem dX11_heard_38 : decode cX11_heard 38 = .ok (.invokevirtual 149, 3) := by decide +kernel
theorem dX11_heard_41 : decode cX11_heard 41 = .ok (.ifCond .eq 31, 3) := by decide +kernel
theorem dX11_heard_44 : decode cX11_heard 44 = .ok (.iload_n 3, 1) := by decide +kernel
theorem dX11_heard_45 : decode cX11_heard 45 = .ok (.iload 4, 2) := by decide +kernel
theorem dX11_heard_47 : decode cX11_heard 47 = .ok (.invokestatic 152, 3) := by decide +kernel
theorem dX11_heard_50 : decode cX11_heard 50 = .ok (.ifCond .eq 22, 3) := by decide +kernel
theorem dX11_heard_53 : decode cX11_heard 53 = .ok (.iload 5, 2) := by decide +kernel
theorem dX11_heard_55 : decode cX11_heard 55 = .ok (.iconst 0, 1) := by decide +kernel
theorem dX11_heard_56 : decode cX11_heard 56 = .ok (.bipush 10, 2) := by decide +kernel
theorem dX11_heard_58 : decode cX11_heard 58 = .ok (.invokestatic 91, 3) := by decide +kernel
theorem dX11_heard_61 : decode cX11_heard 61 = .ok (.ifCond .eq 11, 3) := by decide +kernel
theorem dX11_heard_64 : decode cX11_heard 64 = .ok (.iload 7, 2) := by decide +kernel
theorem dX11_heard_66 : decode cX11_heard 66 = .ok (.invokestatic 164, 3) := by decide +kernel
theorem dX11_heard_69 : decode cX11_heard 69 = .ok (.ifCond .ne 6, 3) := by decide +kernel
theorem dX11_heard_72 : decode cX11_heard 72 = .ok (.bipush (-102), 2) := by decide +kernel
theorem dX11_heard_74 : decode cX11_heard 74 = .ok (.ireturn, 1) := by decide +kernel
theorem dX11_heard_75 : decode cX11_heard 75 = .ok (.aload_n 0, 1) := by decide +kernel
theorem dX11_heard_76 : decode cX11_heard 76 = .ok (.aload 9, 2) := by decide +kernel
theorem dX11_heard_78 : decode cX11_heard 78 = .ok (.iload_n 2, 1) := by decide +kernel
theorem dX11_heard_79 : decode cX11_heard 79 = .ok (.aload 8, 2) := by decide +kernel
theorem dX11_heard_81 : decode cX11_heard 81 = .ok (.iload_n 3, 1) := by decide +kernel
theorem dX11_heard_82 : decode cX11_heard 82 = .ok (.invokestatic 156, 3) := by decide +kernel
theorem dX11_heard_85 : decode cX11_heard 85 = .ok (.invokevirtual 160, 3) := by decide +kernel
theorem dX11_heard_88 : decode cX11_heard 88 = .ok (.istore 10, 2) := by decide +kernel
theorem dX11_heard_90 : decode cX11_heard 90 = .ok (.iload 6, 2) := by decide +kernel
theorem dX11_heard_92 : decode cX11_heard 92 = .ok (.ifCond .eq 8, 3) := by decide +kernel
theorem dX11_heard_95 : decode cX11_heard 95 = .ok (.iload 5, 2) := by decide +kernel
theorem dX11_heard_97 : decode cX11_heard 97 = .ok (.goto 8, 3) := by decide +kernel
theorem dX11_heard_100 : decode cX11_heard 100 = .ok (.bipush 10, 2) := by decide +kernel
theorem dX11_heard_102 : decode cX11_heard 102 = .ok (.iload 5, 2) := by decide +kernel
theorem dX11_heard_104 : decode cX11_heard 104 = .ok (.isub, 1) := by decide +kernel
theorem dX11_heard_105 : decode cX11_heard 105 = .ok (.istore 11, 2) := by decide +kernel
theorem dX11_heard_107 : decode cX11_heard 107 = .ok (.iload 10, 2) := by decide +kernel
theorem dX11_heard_109 : decode cX11_heard 109 = .ok (.iload 11, 2) := by decide +kernel
theorem dX11_heard_111 : decode cX11_heard 111 = .ok (.imul, 1) := by decide +kernel
theorem dX11_heard_112 : decode cX11_heard 112 = .ok (.istore 12, 2) := by decide +kernel
theorem dX11_heard_114 : decode cX11_heard 114 = .ok (.bipush 10, 2) := by decide +kernel
theorem dX11_heard_116 : decode cX11_heard 116 = .ok (.iload 10, 2) := by decide +kernel
theorem dX11_heard_118 : decode cX11_heard 118 = .ok (.isub, 1) := by decide +kernel
theorem dX11_heard_119 : decode cX11_heard 119 = .ok (.bipush 10, 2) := by decide +kernel
theorem dX11_heard_121 : decode cX11_heard 121 = .ok (.iload 11, 2) := by decide +kernel
theorem dX11_heard_123 : decode cX11_heard 123 = .ok (.isub, 1) := by decide +kernel
theorem dX11_heard_124 : decode cX11_heard 124 = .ok (.imul, 1) := by decide +kernel
theorem dX11_heard_125 : decode cX11_heard 125 = .ok (.istore 13, 2) := by decide +kernel
theorem dX11_heard_127 : decode cX11_heard 127 = .ok (.iload 12, 2) := by decide +kernel
theorem dX11_heard_129 : decode cX11_heard 129 = .ok (.i2l, 1) := by decide +kernel
theorem dX11_heard_130 : decode cX11_heard 130 = .ok (.iload 12, 2) := by decide +kernel
theorem dX11_heard_132 : decode cX11_heard 132 = .ok (.iload 13, 2) := by decide +kernel
theorem dX11_heard_134 : decode cX11_heard 134 = .ok (.iadd, 1) := by decide +kernel
theorem dX11_heard_135 : decode cX11_heard 135 = .ok (.i2l, 1) := by decide +kernel
theorem dX11_heard_136 : decode cX11_heard 136 = .ok (.iload 7, 2) := by decide +kernel
theorem dX11_heard_138 : decode cX11_heard 138 = .ok (.invokestatic 179, 3) := by decide +kernel
theorem dX11_heard_141 : decode cX11_heard 141 = .ok (.l2i, 1) := by decide +kernel
theorem dX11_heard_142 : decode cX11_heard 142 = .ok (.ireturn, 1) := by decide +kernel
theorem dX11_sway_0 : decode cX11_sway 0 = .ok (.aload_n 0, 1) := by decide +kernel
theorem dX11_sway_1 : decode cX11_sway 1 = .ok (.iload_n 1, 1) := by decide +kernel
theorem dX11_sway_2 : decode cX11_sway 2 = .ok (.invokevirtual 87, 3) := by decide +kernel
theorem dX11_sway_5 : decode cX11_sway 5 = .ok (.astore 4, 2) := by decide +kernel
theorem dX11_sway_7 : decode cX11_sway 7 = .ok (.aload 4, 2) := by decide +kernel
theorem dX11_sway_9 : decode cX11_sway 9 = .ok (.ifnull 11, 3) := by decide +kernel
theorem dX11_sway_12 : decode cX11_sway 12 = .ok (.aload_n 0, 1) := by decide +kernel
theorem dX11_sway_13 : decode cX11_sway 13 = .ok (.iload_n 2, 1) := by decide +kernel
theorem dX11_sway_14 : decode cX11_sway 14 = .ok (.invokevirtual 129, 3) := by decide +kernel
theorem dX11_sway_17 : decode cX11_sway 17 = .ok (.ifCond .ne 6, 3) := by decide +kernel
theorem dX11_sway_20 : decode cX11_sway 20 = .ok (.bipush (-101), 2) := by decide +kernel
theorem dX11_sway_22 : decode cX11_sway 22 = .ok (.ireturn, 1) := by decide +kernel
theorem dX11_sway_23 : decode cX11_sway 23 = .ok (.aload_n 0, 1) := by decide +kernel
theorem dX11_sway_24 : decode cX11_sway 24 = .ok (.iload_n 3, 1) := by decide +kernel
theorem dX11_sway_25 : decode cX11_sway 25 = .ok (.invokevirtual 149, 3) := by decide +kernel
theorem dX11_sway_28 : decode cX11_sway 28 = .ok (.ifCond .ne 6, 3) := by decide +kernel
theorem dX11_sway_31 : decode cX11_sway 31 = .ok (.bipush (-102), 2) := by decide +kernel
theorem dX11_sway_33 : decode cX11_sway 33 = .ok (.ireturn, 1) := by decide +kernel
theorem dX11_sway_34 : decode cX11_sway 34 = .ok (.aload_n 0, 1) := by decide +kernel
theorem dX11_sway_35 : decode cX11_sway 35 = .ok (.aload 4, 2) := by decide +kernel
theorem dX11_sway_37 : decode cX11_sway 37 = .ok (.iload_n 2, 1) := by decide +kernel
theorem dX11_sway_38 : decode cX11_sway 38 = .ok (.iload_n 3, 1) := by decide +kernel
theorem dX11_sway_39 : decode cX11_sway 39 = .ok (.invokevirtual 187, 3) := by decide +kernel
theorem dX11_sway_42 : decode cX11_sway 42 = .ok (.lstore 5, 2) := by decide +kernel
theorem dX11_sway_44 : decode cX11_sway 44 = .ok (.iconst (-1), 1) := by decide +kernel
theorem dX11_sway_45 : decode cX11_sway 45 = .ok (.istore 7, 2) := by decide +kernel
theorem dX11_sway_47 : decode cX11_sway 47 = .ok (.ldc2_w 226, 3) := by decide +kernel
theorem dX11_sway_50 : decode cX11_sway 50 = .ok (.lstore 8, 2) := by decide +kernel
theorem dX11_sway_52 : decode cX11_sway 52 = .ok (.iconst 0, 1) := by decide +kernel
theorem dX11_sway_53 : decode cX11_sway 53 = .ok (.istore 10, 2) := by decide +kernel
theorem dX11_sway_55 : decode cX11_sway 55 = .ok (.iload 10, 2) := by decide +kernel
theorem dX11_sway_57 : decode cX11_sway 57 = .ok (.aload_n 0, 1) := by decide +kernel
theorem dX11_sway_58 : decode cX11_sway 58 = .ok (.getfield 103, 3) := by decide +kernel
theorem dX11_sway_61 : decode cX11_sway 61 = .ok (.if_icmp .ge 65, 3) := by decide +kernel
theorem dX11_sway_64 : decode cX11_sway 64 = .ok (.iload_n 3, 1) := by decide +kernel
theorem dX11_sway_65 : decode cX11_sway 65 = .ok (.iload 10, 2) := by decide +kernel
theorem dX11_sway_67 : decode cX11_sway 67 = .ok (.invokestatic 152, 3) := by decide +kernel
theorem dX11_sway_70 : decode cX11_sway 70 = .ok (.ifCond .eq 50, 3) := by decide +kernel
theorem dX11_sway_73 : decode cX11_sway 73 = .ok (.ldc2_w 228, 3) := by decide +kernel
theorem dX11_sway_76 : decode cX11_sway 76 = .ok (.aload_n 0, 1) := by decide +kernel
theorem dX11_sway_77 : decode cX11_sway 77 = .ok (.aload 4, 2) := by decide +kernel
theorem dX11_sway_79 : decode cX11_sway 79 = .ok (.iload_n 2, 1) := by decide +kernel
theorem dX11_sway_80 : decode cX11_sway 80 = .ok (.iload_n 3, 1) := by decide +kernel
theorem dX11_sway_81 : decode cX11_sway 81 = .ok (.iconst 1, 1) := by decide +kernel
theorem dX11_sway_82 : decode cX11_sway 82 = .ok (.iload 10, 2) := by decide +kernel
theorem dX11_sway_84 : decode cX11_sway 84 = .ok (.ishl, 1) := by decide +kernel
theorem dX11_sway_85 : decode cX11_sway 85 = .ok (.iconst (-1), 1) := by decide +kernel
theorem dX11_sway_86 : decode cX11_sway 86 = .ok (.ixor, 1) := by decide +kernel
theorem dX11_sway_87 : decode cX11_sway 87 = .ok (.iand, 1) := by decide +kernel
theorem dX11_sway_88 : decode cX11_sway 88 = .ok (.invokevirtual 187, 3) := by decide +kernel
theorem dX11_sway_91 : decode cX11_sway 91 = .ok (.lmul, 1) := by decide +kernel
theorem dX11_sway_92 : decode cX11_sway 92 = .ok (.lstore 11, 2) := by decide +kernel
theorem dX11_sway_94 : decode cX11_sway 94 = .ok (.lload 5, 2) := by decide +kernel
theorem dX11_sway_96 : decode cX11_sway 96 = .ok (.lload 11, 2) := by decide +kernel
theorem dX11_sway_98 : decode cX11_sway 98 = .ok (.lsub, 1) := by decide +kernel
theorem dX11_sway_99 : decode cX11_sway 99 = .ok (.invokestatic 230, 3) := by decide +kernel
theorem dX11_sway_102 : decode cX11_sway 102 = .ok (.lstore 13, 2) := by decide +kernel
theorem dX11_sway_104 : decode cX11_sway 104 = .ok (.lload 13, 2) := by decide +kernel
theorem dX11_sway_106 : decode cX11_sway 106 = .ok (.lload 8, 2) := by decide +kernel
theorem dX11_sway_108 : decode cX11_sway 108 = .ok (.lcmp, 1) := by decide +kernel
theorem dX11_sway_109 : decode cX11_sway 109 = .ok (.ifCond .le 11, 3) := by decide +kernel
theorem dX11_sway_112 : decode cX11_sway 112 = .ok (.iload 10, 2) := by decide +kernel
theorem dX11_sway_114 : decode cX11_sway 114 = .ok (.istore 7, 2) := by decide +kernel
theorem dX11_sway_116 : decode cX11_sway 116 = .ok (.lload 13, 2) := by decide +kernel
theorem dX11_sway_118 : decode cX11_sway 118 = .ok (.lstore 8, 2) := by decide +kernel
theorem dX11_sway_120 : decode cX11_sway 120 = .ok (.iinc 10 1, 3) := by decide +kernel
theorem dX11_sway_123 : decode cX11_sway 123 = .ok (.goto (-68), 3) := by decide +kernel
theorem dX11_sway_126 : decode cX11_sway 126 = .ok (.iload 7, 2) := by decide +kernel
theorem dX11_sway_128 : decode cX11_sway 128 = .ok (.ireturn, 1) := by decide +kernel
theorem dX11_word_0 : decode cX11_word 0 = .ok (.aload_n 0, 1) := by decide +kernel
theorem dX11_word_1 : decode cX11_word 1 = .ok (.iload_n 1, 1) := by decide +kernel
theorem dX11_word_2 : decode cX11_word 2 = .ok (.invokevirtual 87, 3) := by decide +kernel
theorem dX11_word_5 : decode cX11_word 5 = .ok (.astore 4, 2) := by decide +kernel
theorem dX11_word_7 : decode cX11_word 7 = .ok (.aload 4, 2) := by decide +kernel
theorem dX11_word_9 : decode cX11_word 9 = .ok (.ifnonnull 6, 3) := by decide +kernel
theorem dX11_word_12 : decode cX11_word 12 = .ok (.bipush (-101), 2) := by decide +kernel
theorem dX11_word_14 : decode cX11_word 14 = .ok (.ireturn, 1) := by decide +kernel
theorem dX11_word_15 : decode cX11_word 15 = .ok (.aload_n 0, 1) := by decide +kernel
theorem dX11_word_16 : decode cX11_word 16 = .ok (.iload_n 2, 1) := by decide +kernel
theorem dX11_word_17 : decode cX11_word 17 = .ok (.invokevirtual 149, 3) := by decide +kernel
theorem dX11_word_20 : decode cX11_word 20 = .ok (.ifCond .eq 13, 3) := by decide +kernel
theorem dX11_word_23 : decode cX11_word 23 = .ok (.iload_n 3, 1) := by decide +kernel
theorem dX11_word_24 : decode cX11_word 24 = .ok (.iconst 0, 1) := by decide +kernel
theorem dX11_word_25 : decode cX11_word 25 = .ok (.bipush 10, 2) := by decide +kernel
theorem dX11_word_27 : decode cX11_word 27 = .ok (.invokestatic 91, 3) := by decide +kernel
theorem dX11_word_30 : decode cX11_word 30 = .ok (.ifCond .ne 6, 3) := by decide +kernel
theorem dX11_word_33 : decode cX11_word 33 = .ok (.bipush (-102), 2) := by decide +kernel
theorem dX11_word_35 : decode cX11_word 35 = .ok (.ireturn, 1) := by decide +kernel
theorem dX11_word_36 : decode cX11_word 36 = .ok (.iconst 0, 1) := by decide +kernel
theorem dX11_word_37 : decode cX11_word 37 = .ok (.istore 5, 2) := by decide +kernel
theorem dX11_word_39 : decode cX11_word 39 = .ok (.iconst 0, 1) := by decide +kernel
theorem dX11_word_40 : decode cX11_word 40 = .ok (.istore 6, 2) := by decide +kernel
theorem dX11_word_42 : decode cX11_word 42 = .ok (.iload 6, 2) := by decide +kernel
theorem dX11_word_44 : decode cX11_word 44 = .ok (.aload_n 0, 1) := by decide +kernel
theorem dX11_word_45 : decode cX11_word 45 = .ok (.getfield 126, 3) := by decide +kernel
theorem dX11_word_48 : decode cX11_word 48 = .ok (.if_icmp .ge 35, 3) := by decide +kernel
theorem dX11_word_51 : decode cX11_word 51 = .ok (.aload_n 0, 1) := by decide +kernel
theorem dX11_word_52 : decode cX11_word 52 = .ok (.aload 4, 2) := by decide +kernel
theorem dX11_word_54 : decode cX11_word 54 = .ok (.iload 6, 2) := by decide +kernel
theorem dX11_word_56 : decode cX11_word 56 = .ok (.iload_n 2, 1) := by decide +kernel
theorem dX11_word_57 : decode cX11_word 57 = .ok (.invokevirtual 187, 3) := by decide +kernel
theorem dX11_word_60 : decode cX11_word 60 = .ok (.iload_n 2, 1) := by decide +kernel
theorem dX11_word_61 : decode cX11_word 61 = .ok (.iload_n 3, 1) := by decide +kernel
theorem dX11_word_62 : decode cX11_word 62 = .ok (.invokestatic 236, 3) := by decide +kernel
theorem dX11_word_65 : decode cX11_word 65 = .ok (.ifCond .eq 12, 3) := by decide +kernel
theorem dX11_word_68 : decode cX11_word 68 = .ok (.iload 5, 2) := by decide +kernel
theorem dX11_word_70 : decode cX11_word 70 = .ok (.iconst 1, 1) := by decide +kernel
theorem dX11_word_71 : decode cX11_word 71 = .ok (.iload 6, 2) := by decide +kernel
theorem dX11_word_73 : decode cX11_word 73 = .ok (.ishl, 1) := by decide +kernel
theorem dX11_word_74 : decode cX11_word 74 = .ok (.ior, 1) := by decide +kernel
theorem dX11_word_75 : decode cX11_word 75 = .ok (.istore 5, 2) := by decide +kernel
theorem dX11_word_77 : decode cX11_word 77 = .ok (.iinc 6 1, 3) := by decide +kernel
theorem dX11_word_80 : decode cX11_word 80 = .ok (.goto (-38), 3) := by decide +kernel
theorem dX11_word_83 : decode cX11_word 83 = .ok (.iload 5, 2) := by decide +kernel
theorem dX11_word_85 : decode cX11_word 85 = .ok (.ireturn, 1) := by decide +kernel
theorem dX11_seen_0 : decode cX11_seen 0 = .ok (.aload_n 0, 1) := by decide +kernel
theorem dX11_seen_1 : decode cX11_seen 1 = .ok (.iload_n 1, 1) := by decide +kernel
theorem dX11_seen_2 : decode cX11_seen 2 = .ok (.invokevirtual 87, 3) := by decide +kernel
theorem dX11_seen_5 : decode cX11_seen 5 = .ok (.astore 5, 2) := by decide +kernel
theorem dX11_seen_7 : decode cX11_seen 7 = .ok (.aload 5, 2) := by decide +kernel
theorem dX11_seen_9 : decode cX11_seen 9 = .ok (.ifnonnull 7, 3) := by decide +kernel
theorem dX11_seen_12 : decode cX11_seen 12 = .ok (.ldc2_w 183, 3) := by decide +kernel
theorem dX11_seen_15 : decode cX11_seen 15 = .ok (.lreturn, 1) := by decide +kernel
theorem dX11_seen_16 : decode cX11_seen 16 = .ok (.aload_n 0, 1) := by decide +kernel
theorem dX11_seen_17 : decode cX11_seen 17 = .ok (.iload_n 2, 1) := by decide +kernel
theorem dX11_seen_18 : decode cX11_seen 18 = .ok (.invokevirtual 149, 3) := by decide +kernel
theorem dX11_seen_21 : decode cX11_seen 21 = .ok (.ifCond .eq 21, 3) := by decide +kernel
theorem dX11_seen_24 : decode cX11_seen 24 = .ok (.iload_n 3, 1) := by decide +kernel
theorem dX11_seen_25 : decode cX11_seen 25 = .ok (.iconst 0, 1) := by decide +kernel
theorem dX11_seen_26 : decode cX11_seen 26 = .ok (.bipush 10, 2) := by decide +kernel
theorem dX11_seen_28 : decode cX11_seen 28 = .ok (.invokestatic 91, 3) := by decide +kernel
theorem dX11_seen_31 : decode cX11_seen 31 = .ok (.ifCond .eq 11, 3) := by decide +kernel
theorem dX11_seen_34 : decode cX11_seen 34 = .ok (.iload 4, 2) := by decide +kernel
theorem dX11_seen_36 : decode cX11_seen 36 = .ok (.invokestatic 164, 3) := by decide +kernel
theorem dX11_seen_39 : decode cX11_seen 39 = .ok (.ifCond .ne 7, 3) := by decide +kernel
theorem dX11_seen_42 : decode cX11_seen 42 = .ok (.ldc2_w 185, 3) := by decide +kernel
theorem dX11_seen_45 : decode cX11_seen 45 = .ok (.lreturn, 1) := by decide +kernel
theorem dX11_seen_46 : decode cX11_seen 46 = .ok (.lconst 0, 1) := by decide +kernel
theorem dX11_seen_47 : decode cX11_seen 47 = .ok (.lstore 6, 2) := by decide +kernel
theorem dX11_seen_49 : decode cX11_seen 49 = .ok (.iconst 0, 1) := by decide +kernel
theorem dX11_seen_50 : decode cX11_seen 50 = .ok (.istore 8, 2) := by decide +kernel
theorem dX11_seen_52 : decode cX11_seen 52 = .ok (.iload 8, 2) := by decide +kernel
theorem dX11_seen_54 : decode cX11_seen 54 = .ok (.aload_n 0, 1) := by decide +kernel
theorem dX11_seen_55 : decode cX11_seen 55 = .ok (.getfield 126, 3) := by decide +kernel
theorem dX11_seen_58 : decode cX11_seen 58 = .ok (.if_icmp .ge 42, 3) := by decide +kernel
theorem dX11_seen_61 : decode cX11_seen 61 = .ok (.aload_n 0, 1) := by decide +kernel
theorem dX11_seen_62 : decode cX11_seen 62 = .ok (.aload 5, 2) := by decide +kernel
theorem dX11_seen_64 : decode cX11_seen 64 = .ok (.iload 8, 2) := by decide +kernel
theorem dX11_seen_66 : decode cX11_seen 66 = .ok (.iload_n 2, 1) := by decide +kernel
theorem dX11_seen_67 : decode cX11_seen 67 = .ok (.invokevirtual 187, 3) := by decide +kernel
theorem dX11_seen_70 : decode cX11_seen 70 = .ok (.lstore 9, 2) := by decide +kernel
theorem dX11_seen_72 : decode cX11_seen 72 = .ok (.lload 9, 2) := by decide +kernel
theorem dX11_seen_74 : decode cX11_seen 74 = .ok (.iload_n 2, 1) := by decide +kernel
theorem dX11_seen_75 : decode cX11_seen 75 = .ok (.iload_n 3, 1) := by decide +kernel
theorem dX11_seen_76 : decode cX11_seen 76 = .ok (.invokestatic 236, 3) := by decide +kernel
theorem dX11_seen_79 : decode cX11_seen 79 = .ok (.ifCond .ne 15, 3) := by decide +kernel
theorem dX11_seen_82 : decode cX11_seen 82 = .ok (.lload 6, 2) := by decide +kernel
theorem dX11_seen_84 : decode cX11_seen 84 = .ok (.iload_n 2, 1) := by decide +kernel
theorem dX11_seen_85 : decode cX11_seen 85 = .ok (.invokestatic 191, 3) := by decide +kernel
theorem dX11_seen_88 : decode cX11_seen 88 = .ok (.lload 9, 2) := by decide +kernel
theorem dX11_seen_90 : decode cX11_seen 90 = .ok (.lsub, 1) := by decide +kernel
theorem dX11_seen_91 : decode cX11_seen 91 = .ok (.ladd, 1) := by decide +kernel
theorem dX11_seen_92 : decode cX11_seen 92 = .ok (.lstore 6, 2) := by decide +kernel
theorem dX11_seen_94 : decode cX11_seen 94 = .ok (.iinc 8 1, 3) := by decide +kernel
theorem dX11_seen_97 : decode cX11_seen 97 = .ok (.goto (-45), 3) := by decide +kernel
theorem dX11_seen_100 : decode cX11_seen 100 = .ok (.lload 6, 2) := by decide +kernel
theorem dX11_seen_102 : decode cX11_seen 102 = .ok (.iload_n 2, 1) := by decide +kernel
theorem dX11_seen_103 : decode cX11_seen 103 = .ok (.invokestatic 191, 3) := by decide +kernel
theorem dX11_seen_106 : decode cX11_seen 106 = .ok (.iload 4, 2) := by decide +kernel
theorem dX11_seen_108 : decode cX11_seen 108 = .ok (.invokestatic 179, 3) := by decide +kernel
theorem dX11_seen_111 : decode cX11_seen 111 = .ok (.lreturn, 1) := by decide +kernel
theorem dX11_evening_0 : decode cX11_evening 0 = .ok (.aload_n 0, 1) := by decide +kernel
theorem dX11_evening_1 : decode cX11_evening 1 = .ok (.iload_n 1, 1) := by decide +kernel
theorem dX11_evening_2 : decode cX11_evening 2 = .ok (.invokevirtual 87, 3) := by decide +kernel
theorem dX11_evening_5 : decode cX11_evening 5 = .ok (.astore 6, 2) := by decide +kernel
theorem dX11_evening_7 : decode cX11_evening 7 = .ok (.aload 6, 2) := by decide +kernel
theorem dX11_evening_9 : decode cX11_evening 9 = .ok (.ifnull 11, 3) := by decide +kernel
theorem dX11_evening_12 : decode cX11_evening 12 = .ok (.aload_n 0, 1) := by decide +kernel
theorem dX11_evening_13 : decode cX11_evening 13 = .ok (.iload_n 2, 1) := by decide +kernel
theorem dX11_evening_14 : decode cX11_evening 14 = .ok (.invokevirtual 129, 3) := by decide +kernel
theorem dX11_evening_17 : decode cX11_evening 17 = .ok (.ifCond .ne 6, 3) := by decide +kernel
theorem dX11_evening_20 : decode cX11_evening 20 = .ok (.bipush (-101), 2) := by decide +kernel
theorem dX11_evening_22 : decode cX11_evening 22 = .ok (.ireturn, 1) := by decide +kernel
theorem dX11_evening_23 : decode cX11_evening 23 = .ok (.aload_n 0, 1) := by decide +kernel
theorem dX11_evening_24 : decode cX11_evening 24 = .ok (.iload_n 3, 1) := by decide +kernel
theorem dX11_evening_25 : decode cX11_evening 25 = .ok (.invokevirtual 149, 3) := by decide +kernel
theorem dX11_evening_28 : decode cX11_evening 28 = .ok (.ifCond .eq 18, 3) := by decide +kernel
theorem dX11_evening_31 : decode cX11_evening 31 = .ok (.iload 4, 2) := by decide +kernel
theorem dX11_evening_33 : decode cX11_evening 33 = .ok (.ifCond .lt 13, 3) := by decide +kernel
theorem dX11_evening_36 : decode cX11_evening 36 = .ok (.iload 5, 2) := by decide +kernel
theorem dX11_evening_38 : decode cX11_evening 38 = .ok (.iconst 0, 1) := by decide +kernel
theorem dX11_evening_39 : decode cX11_evening 39 = .ok (.iconst 2, 1) := by decide +kernel
theorem dX11_evening_40 : decode cX11_evening 40 = .ok (.invokestatic 91, 3) := by decide +kernel
theorem dX11_evening_43 : decode cX11_evening 43 = .ok (.ifCond .ne 6, 3) := by decide +kernel
theorem dX11_evening_46 : decode cX11_evening 46 = .ok (.bipush (-102), 2) := by decide +kernel
theorem dX11_evening_48 : decode cX11_evening 48 = .ok (.ireturn, 1) := by decide +kernel
theorem dX11_evening_49 : decode cX11_evening 49 = .ok (.aload 6, 2) := by decide +kernel
theorem dX11_evening_51 : decode cX11_evening 51 = .ok (.iload_n 3, 1) := by decide +kernel
theorem dX11_evening_52 : decode cX11_evening 52 = .ok (.invokestatic 156, 3) := by decide +kernel
theorem dX11_evening_55 : decode cX11_evening 55 = .ok (.istore 7, 2) := by decide +kernel
theorem dX11_evening_57 : decode cX11_evening 57 = .ok (.aload_n 0, 1) := by decide +kernel
theorem dX11_evening_58 : decode cX11_evening 58 = .ok (.getfield 49, 3) := by decide +kernel
theorem dX11_evening_61 : decode cX11_evening 61 = .ok (.invokevirtual 240, 3) := by decide +kernel
theorem dX11_evening_64 : decode cX11_evening 64 = .ok (.iconst 0, 1) := by decide +kernel
theorem dX11_evening_65 : decode cX11_evening 65 = .ok (.istore 8, 2) := by decide +kernel
theorem dX11_evening_67 : decode cX11_evening 67 = .ok (.iload 8, 2) := by decide +kernel
theorem dX11_evening_69 : decode cX11_evening 69 = .ok (.aload_n 0, 1) := by decide +kernel
theorem dX11_evening_70 : decode cX11_evening 70 = .ok (.getfield 103, 3) := by decide +kernel
theorem dX11_evening_73 : decode cX11_evening 73 = .ok (.if_icmp .ge 39, 3) := by decide +kernel
theorem dX11_evening_76 : decode cX11_evening 76 = .ok (.iload_n 3, 1) := by decide +kernel
theorem dX11_evening_77 : decode cX11_evening 77 = .ok (.iload 8, 2) := by decide +kernel
theorem dX11_evening_79 : decode cX11_evening 79 = .ok (.invokestatic 152, 3) := by decide +kernel
theorem dX11_evening_82 : decode cX11_evening 82 = .ok (.ifCond .eq 24, 3) := by decide +kernel
theorem dX11_evening_85 : decode cX11_evening 85 = .ok (.aload_n 0, 1) := by decide +kernel
theorem dX11_evening_86 : decode cX11_evening 86 = .ok (.getfield 49, 3) := by decide +kernel
theorem dX11_evening_89 : decode cX11_evening 89 = .ok (.aload_n 0, 1) := by decide +kernel
theorem dX11_evening_90 : decode cX11_evening 90 = .ok (.aload_n 0, 1) := by decide +kernel
theorem dX11_evening_91 : decode cX11_evening 91 = .ok (.getfield 24, 3) := by decide +kernel
theorem dX11_evening_94 : decode cX11_evening 94 = .ok (.iload 8, 2) := by decide +kernel
theorem dX11_evening_96 : decode cX11_evening 96 = .ok (.aaload, 1) := by decide +kernel
theorem dX11_evening_97 : decode cX11_evening 97 = .ok (.iload_n 2, 1) := by decide +kernel
theorem dX11_evening_98 : decode cX11_evening 98 = .ok (.iload 7, 2) := by decide +kernel
theorem dX11_evening_100 : decode cX11_evening 100 = .ok (.invokevirtual 160, 3) := by decide +kernel
theorem dX11_evening_103 : decode cX11_evening 103 = .ok (.invokevirtual 241, 3) := by decide +kernel
theorem dX11_evening_106 : decode cX11_evening 106 = .ok (.iinc 8 1, 3) := by decide +kernel
theorem dX11_evening_109 : decode cX11_evening 109 = .ok (.goto (-42), 3) := by decide +kernel
theorem dX11_evening_112 : decode cX11_evening 112 = .ok (.aload_n 0, 1) := by decide +kernel
theorem dX11_evening_113 : decode cX11_evening 113 = .ok (.getfield 49, 3) := by decide +kernel
theorem dX11_evening_116 : decode cX11_evening 116 = .ok (.aload 6, 2) := by decide +kernel
theorem dX11_evening_118 : decode cX11_evening 118 = .ok (.iload 4, 2) := by decide +kernel
theorem dX11_evening_120 : decode cX11_evening 120 = .ok (.invokevirtual 245, 3) := by decide +kernel
theorem dX11_evening_123 : decode cX11_evening 123 = .ok (.iload 5, 2) := by decide +kernel
theorem dX11_evening_125 : decode cX11_evening 125 = .ok (.lookupswitch 51 #[(0, 27), (1, 35)], 27) := by decide +kernel
theorem dX11_evening_152 : decode cX11_evening 152 = .ok (.aload_n 0, 1) := by decide +kernel
theorem dX11_evening_153 : decode cX11_evening 153 = .ok (.getfield 49, 3) := by decide +kernel
theorem dX11_evening_156 : decode cX11_evening 156 = .ok (.getfield 249, 3) := by decide +kernel
theorem dX11_evening_159 : decode cX11_evening 159 = .ok (.ireturn, 1) := by decide +kernel
theorem dX11_evening_160 : decode cX11_evening 160 = .ok (.aload_n 0, 1) := by decide +kernel
theorem dX11_evening_161 : decode cX11_evening 161 = .ok (.getfield 49, 3) := by decide +kernel
theorem dX11_evening_164 : decode cX11_evening 164 = .ok (.getfield 252, 3) := by decide +kernel
theorem dX11_evening_167 : decode cX11_evening 167 = .ok (.ifCond .eq 7, 3) := by decide +kernel
theorem dX11_evening_170 : decode cX11_evening 170 = .ok (.iconst 1, 1) := by decide +kernel
theorem dX11_evening_171 : decode cX11_evening 171 = .ok (.goto 4, 3) := by decide +kernel
theorem dX11_evening_174 : decode cX11_evening 174 = .ok (.iconst 0, 1) := by decide +kernel
theorem dX11_evening_175 : decode cX11_evening 175 = .ok (.ireturn, 1) := by decide +kernel
theorem dX11_evening_176 : decode cX11_evening 176 = .ok (.aload_n 0, 1) := by decide +kernel
theorem dX11_evening_177 : decode cX11_evening 177 = .ok (.getfield 49, 3) := by decide +kernel
theorem dX11_evening_180 : decode cX11_evening 180 = .ok (.getfield 255, 3) := by decide +kernel
theorem dX11_evening_183 : decode cX11_evening 183 = .ok (.ireturn, 1) := by decide +kernel
theorem dX11_trade_0 : decode cX11_trade 0 = .ok (.aload_n 0, 1) := by decide +kernel
theorem dX11_trade_1 : decode cX11_trade 1 = .ok (.iload_n 1, 1) := by decide +kernel
theorem dX11_trade_2 : decode cX11_trade 2 = .ok (.invokevirtual 87, 3) := by decide +kernel
theorem dX11_trade_5 : decode cX11_trade 5 = .ok (.astore 6, 2) := by decide +kernel
theorem dX11_trade_7 : decode cX11_trade 7 = .ok (.aload_n 0, 1) := by decide +kernel
theorem dX11_trade_8 : decode cX11_trade 8 = .ok (.iload_n 2, 1) := by decide +kernel
theorem dX11_trade_9 : decode cX11_trade 9 = .ok (.invokevirtual 99, 3) := by decide +kernel
theorem dX11_trade_12 : decode cX11_trade 12 = .ok (.astore 7, 2) := by decide +kernel
theorem dX11_trade_14 : decode cX11_trade 14 = .ok (.aload_n 0, 1) := by decide +kernel
theorem dX11_trade_15 : decode cX11_trade 15 = .ok (.iload_n 3, 1) := by decide +kernel
theorem dX11_trade_16 : decode cX11_trade 16 = .ok (.invokevirtual 99, 3) := by decide +kernel
theorem dX11_trade_19 : decode cX11_trade 19 = .ok (.astore 8, 2) := by decide +kernel
theorem dX11_trade_21 : decode cX11_trade 21 = .ok (.aload 6, 2) := by decide +kernel
theorem dX11_trade_23 : decode cX11_trade 23 = .ok (.ifnull 18, 3) := by decide +kernel
theorem dX11_trade_26 : decode cX11_trade 26 = .ok (.aload 7, 2) := by decide +kernel
theorem dX11_trade_28 : decode cX11_trade 28 = .ok (.ifnull 13, 3) := by decide +kernel
theorem dX11_trade_31 : decode cX11_trade 31 = .ok (.aload 8, 2) := by decide +kernel
theorem dX11_trade_33 : decode cX11_trade 33 = .ok (.ifnull 8, 3) := by decide +kernel
theorem dX11_trade_36 : decode cX11_trade 36 = .ok (.iload_n 2, 1) := by decide +kernel
theorem dX11_trade_37 : decode cX11_trade 37 = .ok (.iload_n 3, 1) := by decide +kernel
theorem dX11_trade_38 : decode cX11_trade 38 = .ok (.if_icmp .ne 6, 3) := by decide +kernel
theorem dX11_trade_41 : decode cX11_trade 41 = .ok (.bipush (-101), 2) := by decide +kernel
theorem dX11_trade_43 : decode cX11_trade 43 = .ok (.ireturn, 1) := by decide +kernel
theorem dX11_trade_44 : decode cX11_trade 44 = .ok (.aload_n 0, 1) := by decide +kernel
theorem dX11_trade_45 : decode cX11_trade 45 = .ok (.iload 4, 2) := by decide +kernel
theorem dX11_trade_47 : decode cX11_trade 47 = .ok (.invokevirtual 129, 3) := by decide +kernel
theorem dX11_trade_50 : decode cX11_trade 50 = .ok (.ifCond .eq 19, 3) := by decide +kernel
theorem dX11_trade_53 : decode cX11_trade 53 = .ok (.aload_n 0, 1) := by decide +kernel
theorem dX11_trade_54 : decode cX11_trade 54 = .ok (.iload 5, 2) := by decide +kernel
theorem dX11_trade_56 : decode cX11_trade 56 = .ok (.invokevirtual 129, 3) := by decide +kernel
theorem dX11_trade_59 : decode cX11_trade 59 = .ok (.ifCond .eq 10, 3) := by decide +kernel
theorem dX11_trade_62 : decode cX11_trade 62 = .ok (.iload 4, 2) := by decide +kernel
theorem dX11_trade_64 : decode cX11_trade 64 = .ok (.iload 5, 2) := by decide +kernel
theorem dX11_trade_66 : decode cX11_trade 66 = .ok (.if_icmp .ne 6, 3) := by decide +kernel
theorem dX11_trade_69 : decode cX11_trade 69 = .ok (.bipush (-101), 2) := by decide +kernel
theorem dX11_trade_71 : decode cX11_trade 71 = .ok (.ireturn, 1) := by decide +kernel
theorem dX11_trade_72 : decode cX11_trade 72 = .ok (.aload_n 0, 1) := by decide +kernel
theorem dX11_trade_73 : decode cX11_trade 73 = .ok (.aload 6, 2) := by decide +kernel
theorem dX11_trade_75 : decode cX11_trade 75 = .ok (.iload 4, 2) := by decide +kernel
theorem dX11_trade_77 : decode cX11_trade 77 = .ok (.iload_n 2, 1) := by decide +kernel
theorem dX11_trade_78 : decode cX11_trade 78 = .ok (.iload_n 3, 1) := by decide +kernel
theorem dX11_trade_79 : decode cX11_trade 79 = .ok (.invokevirtual 258, 3) := by decide +kernel
theorem dX11_trade_82 : decode cX11_trade 82 = .ok (.istore 9, 2) := by decide +kernel
theorem dX11_trade_84 : decode cX11_trade 84 = .ok (.aload_n 0, 1) := by decide +kernel
theorem dX11_trade_85 : decode cX11_trade 85 = .ok (.aload 6, 2) := by decide +kernel
theorem dX11_trade_87 : decode cX11_trade 87 = .ok (.iload 5, 2) := by decide +kernel
theorem dX11_trade_89 : decode cX11_trade 89 = .ok (.iload_n 2, 1) := by decide +kernel
theorem dX11_trade_90 : decode cX11_trade 90 = .ok (.iload_n 3, 1) := by decide +kernel
theorem dX11_trade_91 : decode cX11_trade 91 = .ok (.invokevirtual 258, 3) := by decide +kernel
theorem dX11_trade_94 : decode cX11_trade 94 = .ok (.istore 10, 2) := by decide +kernel
theorem dX11_trade_96 : decode cX11_trade 96 = .ok (.iconst 0, 1) := by decide +kernel
theorem dX11_trade_97 : decode cX11_trade 97 = .ok (.istore 11, 2) := by decide +kernel
theorem dX11_trade_99 : decode cX11_trade 99 = .ok (.iconst 0, 1) := by decide +kernel
theorem dX11_trade_100 : decode cX11_trade 100 = .ok (.istore 12, 2) := by decide +kernel
theorem dX11_trade_102 : decode cX11_trade 102 = .ok (.iload 12, 2) := by decide +kernel
theorem dX11_trade_104 : decode cX11_trade 104 = .ok (.iconst 4, 1) := by decide +kernel
theorem dX11_trade_105 : decode cX11_trade 105 = .ok (.if_icmp .ge 112, 3) := by decide +kernel
theorem dX11_trade_108 : decode cX11_trade 108 = .ok (.aload 7, 2) := by decide +kernel
theorem dX11_trade_110 : decode cX11_trade 110 = .ok (.iload 4, 2) := by decide +kernel
theorem dX11_trade_112 : decode cX11_trade 112 = .ok (.iload 9, 2) := by decide +kernel
theorem dX11_trade_114 : decode cX11_trade 114 = .ok (.iload 5, 2) := by decide +kernel
theorem dX11_trade_116 : decode cX11_trade 116 = .ok (.iload 10, 2) := by decide +kernel
theorem dX11_trade_118 : decode cX11_trade 118 = .ok (.iload 12, 2) := by decide +kernel
theorem dX11_trade_120 : decode cX11_trade 120 = .ok (.invokestatic 262, 3) := by decide +kernel
theorem dX11_trade_123 : decode cX11_trade 123 = .ok (.aload 7, 2) := by decide +kernel
theorem dX11_trade_125 : decode cX11_trade 125 = .ok (.iload 4, 2) := by decide +kernel
theorem dX11_trade_127 : decode cX11_trade 127 = .ok (.iload 9, 2) := by decide +kernel
theorem dX11_trade_129 : decode cX11_trade 129 = .ok (.iload 5, 2) := by decide +kernel
theorem dX11_trade_131 : decode cX11_trade 131 = .ok (.iload 10, 2) := by decide +kernel
theorem dX11_trade_133 : decode cX11_trade 133 = .ok (.iload 12, 2) := by decide +kernel
theorem dX11_trade_135 : decode cX11_trade 135 = .ok (.iconst 1, 1) := by decide +kernel
theorem dX11_trade_136 : decode cX11_trade 136 = .ok (.ixor, 1) := by decide +kernel
theorem dX11_trade_137 : decode cX11_trade 137 = .ok (.invokestatic 262, 3) := by decide +kernel
theorem dX11_trade_140 : decode cX11_trade 140 = .ok (.if_icmp .lt 7, 3) := by decide +kernel
theorem dX11_trade_143 : decode cX11_trade 143 = .ok (.iconst 1, 1) := by decide +kernel
theorem dX11_trade_144 : decode cX11_trade 144 = .ok (.goto 4, 3) := by decide +kernel
theorem dX11_trade_147 : decode cX11_trade 147 = .ok (.iconst 0, 1) := by decide +kernel
theorem dX11_trade_148 : decode cX11_trade 148 = .ok (.istore 13, 2) := by decide +kernel
theorem dX11_trade_150 : decode cX11_trade 150 = .ok (.aload 8, 2) := by decide +kernel
theorem dX11_trade_152 : decode cX11_trade 152 = .ok (.iload 4, 2) := by decide +kernel
theorem dX11_trade_154 : decode cX11_trade 154 = .ok (.iload 9, 2) := by decide +kernel
theorem dX11_trade_156 : decode cX11_trade 156 = .ok (.iload 5, 2) := by decide +kernel
theorem dX11_trade_158 : decode cX11_trade 158 = .ok (.iload 10, 2) := by decide +kernel
theorem dX11_trade_160 : decode cX11_trade 160 = .ok (.iload 12, 2) := by decide +kernel
theorem dX11_trade_162 : decode cX11_trade 162 = .ok (.invokestatic 262, 3) := by decide +kernel
theorem dX11_trade_165 : decode cX11_trade 165 = .ok (.aload 8, 2) := by decide +kernel
theorem dX11_trade_167 : decode cX11_trade 167 = .ok (.iload 4, 2) := by decide +kernel
theorem dX11_trade_169 : decode cX11_trade 169 = .ok (.iload 9, 2) := by decide +kernel
theorem dX11_trade_171 : decode cX11_trade 171 = .ok (.iload 5, 2) := by decide +kernel
theorem dX11_trade_173 : decode cX11_trade 173 = .ok (.iload 10, 2) := by decide +kernel
theorem dX11_trade_175 : decode cX11_trade 175 = .ok (.iload 12, 2) := by decide +kernel
theorem dX11_trade_177 : decode cX11_trade 177 = .ok (.iconst 2, 1) := by decide +kernel
theorem dX11_trade_178 : decode cX11_trade 178 = .ok (.ixor, 1) := by decide +kernel
theorem dX11_trade_179 : decode cX11_trade 179 = .ok (.invokestatic 262, 3) := by decide +kernel
theorem dX11_trade_182 : decode cX11_trade 182 = .ok (.if_icmp .lt 7, 3) := by decide +kernel
theorem dX11_trade_185 : decode cX11_trade 185 = .ok (.iconst 1, 1) := by decide +kernel
theorem dX11_trade_186 : decode cX11_trade 186 = .ok (.goto 4, 3) := by decide +kernel
theorem dX11_trade_189 : decode cX11_trade 189 = .ok (.iconst 0, 1) := by decide +kernel
theorem dX11_trade_190 : decode cX11_trade 190 = .ok (.istore 14, 2) := by decide +kernel
theorem dX11_trade_192 : decode cX11_trade 192 = .ok (.iload 13, 2) := by decide +kernel
theorem dX11_trade_194 : decode cX11_trade 194 = .ok (.ifCond .eq 17, 3) := by decide +kernel
theorem dX11_trade_197 : decode cX11_trade 197 = .ok (.iload 14, 2) := by decide +kernel
theorem dX11_trade_199 : decode cX11_trade 199 = .ok (.ifCond .eq 12, 3) := by decide +kernel
theorem dX11_trade_202 : decode cX11_trade 202 = .ok (.iload 11, 2) := by decide +kernel
theorem dX11_trade_204 : decode cX11_trade 204 = .ok (.iconst 1, 1) := by decide +kernel
theorem dX11_trade_205 : decode cX11_trade 205 = .ok (.iload 12, 2) := by decide +kernel
theorem dX11_trade_207 : decode cX11_trade 207 = .ok (.ishl, 1) := by decide +kernel
theorem dX11_trade_208 : decode cX11_trade 208 = .ok (.ior, 1) := by decide +kernel
theorem dX11_trade_209 : decode cX11_trade 209 = .ok (.istore 11, 2) := by decide +kernel
theorem dX11_trade_211 : decode cX11_trade 211 = .ok (.iinc 12 1, 3) := by decide +kernel
theorem dX11_trade_214 : decode cX11_trade 214 = .ok (.goto (-112), 3) := by decide +kernel
theorem dX11_trade_217 : decode cX11_trade 217 = .ok (.iload 11, 2) := by decide +kernel
theorem dX11_trade_219 : decode cX11_trade 219 = .ok (.ireturn, 1) := by decide +kernel
theorem dX11_veto_0 : decode cX11_veto 0 = .ok (.iload_n 1, 1) := by decide +kernel
theorem dX11_veto_1 : decode cX11_veto 1 = .ok (.iconst 1, 1) := by decide +kernel
theorem dX11_veto_2 : decode cX11_veto 2 = .ok (.bipush 8, 2) := by decide +kernel
theorem dX11_veto_4 : decode cX11_veto 4 = .ok (.invokestatic 91, 3) := by decide +kernel
theorem dX11_veto_7 : decode cX11_veto 7 = .ok (.ifCond .eq 22, 3) := by decide +kernel
theorem dX11_veto_10 : decode cX11_veto 10 = .ok (.iload_n 2, 1) := by decide +kernel
theorem dX11_veto_11 : decode cX11_veto 11 = .ok (.iconst 0, 1) := by decide +kernel
theorem dX11_veto_12 : decode cX11_veto 12 = .ok (.iconst 3, 1) := by decide +kernel
theorem dX11_veto_13 : decode cX11_veto 13 = .ok (.invokestatic 91, 3) := by decide +kernel
theorem dX11_veto_16 : decode cX11_veto 16 = .ok (.ifCond .eq 13, 3) := by decide +kernel
theorem dX11_veto_19 : decode cX11_veto 19 = .ok (.iload_n 3, 1) := by decide +kernel
theorem dX11_veto_20 : decode cX11_veto 20 = .ok (.iconst 0, 1) := by decide +kernel
theorem dX11_veto_21 : decode cX11_veto 21 = .ok (.bipush 10, 2) := by decide +kernel
theorem dX11_veto_23 : decode cX11_veto 23 = .ok (.invokestatic 91, 3) := by decide +kernel
theorem dX11_veto_26 : decode cX11_veto 26 = .ok (.ifCond .ne 6, 3) := by decide +kernel
theorem dX11_veto_29 : decode cX11_veto 29 = .ok (.bipush (-102), 2) := by decide +kernel
theorem dX11_veto_31 : decode cX11_veto 31 = .ok (.ireturn, 1) := by decide +kernel
theorem dX11_veto_32 : decode cX11_veto 32 = .ok (.iload_n 2, 1) := by decide +kernel
theorem dX11_veto_33 : decode cX11_veto 33 = .ok (.ifCond .ne 5, 3) := by decide +kernel
theorem dX11_veto_36 : decode cX11_veto 36 = .ok (.iconst 0, 1) := by decide +kernel
theorem dX11_veto_37 : decode cX11_veto 37 = .ok (.ireturn, 1) := by decide +kernel
theorem dX11_veto_38 : decode cX11_veto 38 = .ok (.aload_n 0, 1) := by decide +kernel
theorem dX11_veto_39 : decode cX11_veto 39 = .ok (.iload_n 1, 1) := by decide +kernel
theorem dX11_veto_40 : decode cX11_veto 40 = .ok (.iconst 1, 1) := by decide +kernel
theorem dX11_veto_41 : decode cX11_veto 41 = .ok (.isub, 1) := by decide +kernel
theorem dX11_veto_42 : decode cX11_veto 42 = .ok (.invokevirtual 266, 3) := by decide +kernel
theorem dX11_veto_45 : decode cX11_veto 45 = .ok (.lstore 4, 2) := by decide +kernel
theorem dX11_veto_47 : decode cX11_veto 47 = .ok (.iload_n 3, 1) := by decide +kernel
theorem dX11_veto_48 : decode cX11_veto 48 = .ok (.i2l, 1) := by decide +kernel
theorem dX11_veto_49 : decode cX11_veto 49 = .ok (.lload 4, 2) := by decide +kernel
theorem dX11_veto_51 : decode cX11_veto 51 = .ok (.lmul, 1) := by decide +kernel
theorem dX11_veto_52 : decode cX11_veto 52 = .ok (.aload_n 0, 1) := by decide +kernel
theorem dX11_veto_53 : decode cX11_veto 53 = .ok (.getfield 60, 3) := by decide +kernel
theorem dX11_veto_56 : decode cX11_veto 56 = .ok (.iload_n 2, 1) := by decide +kernel
theorem dX11_veto_57 : decode cX11_veto 57 = .ok (.iconst 1, 1) := by decide +kernel
theorem dX11_veto_58 : decode cX11_veto 58 = .ok (.isub, 1) := by decide +kernel
theorem dX11_veto_59 : decode cX11_veto 59 = .ok (.laload, 1) := by decide +kernel
theorem dX11_veto_60 : decode cX11_veto 60 = .ok (.ladd, 1) := by decide +kernel
theorem dX11_veto_61 : decode cX11_veto 61 = .ok (.aload_n 0, 1) := by decide +kernel
theorem dX11_veto_62 : decode cX11_veto 62 = .ok (.getfield 60, 3) := by decide +kernel
theorem dX11_veto_65 : decode cX11_veto 65 = .ok (.iload_n 2, 1) := by decide +kernel
theorem dX11_veto_66 : decode cX11_veto 66 = .ok (.laload, 1) := by decide +kernel
theorem dX11_veto_67 : decode cX11_veto 67 = .ok (.lcmp, 1) := by decide +kernel
theorem dX11_veto_68 : decode cX11_veto 68 = .ok (.ifCond .le 7, 3) := by decide +kernel
theorem dX11_veto_71 : decode cX11_veto 71 = .ok (.iconst 1, 1) := by decide +kernel
theorem dX11_veto_72 : decode cX11_veto 72 = .ok (.goto 4, 3) := by decide +kernel
theorem dX11_veto_75 : decode cX11_veto 75 = .ok (.iconst 0, 1) := by decide +kernel
theorem dX11_veto_76 : decode cX11_veto 76 = .ok (.ireturn, 1) := by decide +kernel
theorem dX11_worth_0 : decode cX11_worth 0 = .ok (.iload_n 1, 1) := by decide +kernel
theorem dX11_worth_1 : decode cX11_worth 1 = .ok (.iconst 1, 1) := by decide +kernel
theorem dX11_worth_2 : decode cX11_worth 2 = .ok (.bipush 8, 2) := by decide +kernel
theorem dX11_worth_4 : decode cX11_worth 4 = .ok (.invokestatic 91, 3) := by decide +kernel
theorem dX11_worth_7 : decode cX11_worth 7 = .ok (.ifCond .eq 19, 3) := by decide +kernel
theorem dX11_worth_10 : decode cX11_worth 10 = .ok (.iload_n 2, 1) := by decide +kernel
theorem dX11_worth_11 : decode cX11_worth 11 = .ok (.iconst 0, 1) := by decide +kernel
theorem dX11_worth_12 : decode cX11_worth 12 = .ok (.iconst 3, 1) := by decide +kernel
theorem dX11_worth_13 : decode cX11_worth 13 = .ok (.invokestatic 91, 3) := by decide +kernel
theorem dX11_worth_16 : decode cX11_worth 16 = .ok (.ifCond .eq 10, 3) := by decide +kernel
theorem dX11_worth_19 : decode cX11_worth 19 = .ok (.iload_n 3, 1) := by decide +kernel
theorem dX11_worth_20 : decode cX11_worth 20 = .ok (.invokestatic 164, 3) := by decide +kernel
theorem dX11_worth_23 : decode cX11_worth 23 = .ok (.ifCond .ne 7, 3) := by decide +kernel
theorem dX11_worth_26 : decode cX11_worth 26 = .ok (.ldc2_w 185, 3) := by decide +kernel
theorem dX11_worth_29 : decode cX11_worth 29 = .ok (.lreturn, 1) := by decide +kernel
theorem dX11_worth_30 : decode cX11_worth 30 = .ok (.aload_n 0, 1) := by decide +kernel
theorem dX11_worth_31 : decode cX11_worth 31 = .ok (.iload_n 1, 1) := by decide +kernel
theorem dX11_worth_32 : decode cX11_worth 32 = .ok (.invokevirtual 266, 3) := by decide +kernel
theorem dX11_worth_35 : decode cX11_worth 35 = .ok (.lstore 4, 2) := by decide +kernel
theorem dX11_worth_37 : decode cX11_worth 37 = .ok (.aload_n 0, 1) := by decide +kernel
theorem dX11_worth_38 : decode cX11_worth 38 = .ok (.getfield 60, 3) := by decide +kernel
theorem dX11_worth_41 : decode cX11_worth 41 = .ok (.iload_n 2, 1) := by decide +kernel
theorem dX11_worth_42 : decode cX11_worth 42 = .ok (.laload, 1) := by decide +kernel
theorem dX11_worth_43 : decode cX11_worth 43 = .ok (.lload 4, 2) := by decide +kernel
theorem dX11_worth_45 : decode cX11_worth 45 = .ok (.iload_n 3, 1) := by decide +kernel
theorem dX11_worth_46 : decode cX11_worth 46 = .ok (.invokestatic 179, 3) := by decide +kernel
theorem dX11_worth_49 : decode cX11_worth 49 = .ok (.lreturn, 1) := by decide +kernel
theorem dX11_years_0 : decode cX11_years 0 = .ok (.aload_n 0, 1) := by decide +kernel
theorem dX11_years_1 : decode cX11_years 1 = .ok (.iload_n 1, 1) := by decide +kernel
theorem dX11_years_2 : decode cX11_years 2 = .ok (.invokevirtual 87, 3) := by decide +kernel
theorem dX11_years_5 : decode cX11_years 5 = .ok (.astore 5, 2) := by decide +kernel
theorem dX11_years_7 : decode cX11_years 7 = .ok (.aload 5, 2) := by decide +kernel
theorem dX11_years_9 : decode cX11_years 9 = .ok (.ifnonnull 6, 3) := by decide +kernel
theorem dX11_years_12 : decode cX11_years 12 = .ok (.bipush (-101), 2) := by decide +kernel
theorem dX11_years_14 : decode cX11_years 14 = .ok (.ireturn, 1) := by decide +kernel
theorem dX11_years_15 : decode cX11_years 15 = .ok (.iload_n 2, 1) := by decide +kernel
theorem dX11_years_16 : decode cX11_years 16 = .ok (.iconst 0, 1) := by decide +kernel
theorem dX11_years_17 : decode cX11_years 17 = .ok (.bipush 60, 2) := by decide +kernel
theorem dX11_years_19 : decode cX11_years 19 = .ok (.invokestatic 91, 3) := by decide +kernel
theorem dX11_years_22 : decode cX11_years 22 = .ok (.ifCond .eq 17, 3) := by decide +kernel
theorem dX11_years_25 : decode cX11_years 25 = .ok (.iload_n 3, 1) := by decide +kernel
theorem dX11_years_26 : decode cX11_years 26 = .ok (.ifCond .lt 13, 3) := by decide +kernel
theorem dX11_years_29 : decode cX11_years 29 = .ok (.iload 4, 2) := by decide +kernel
theorem dX11_years_31 : decode cX11_years 31 = .ok (.iconst 0, 1) := by decide +kernel
theorem dX11_years_32 : decode cX11_years 32 = .ok (.iconst 3, 1) := by decide +kernel
theorem dX11_years_33 : decode cX11_years 33 = .ok (.invokestatic 91, 3) := by decide +kernel
theorem dX11_years_36 : decode cX11_years 36 = .ok (.ifCond .ne 6, 3) := by decide +kernel
theorem dX11_years_39 : decode cX11_years 39 = .ok (.bipush (-102), 2) := by decide +kernel
theorem dX11_years_41 : decode cX11_years 41 = .ok (.ireturn, 1) := by decide +kernel
theorem dX11_years_42 : decode cX11_years 42 = .ok (.aload_n 0, 1) := by decide +kernel
theorem dX11_years_43 : decode cX11_years 43 = .ok (.getfield 56, 3) := by decide +kernel
theorem dX11_years_46 : decode cX11_years 46 = .ok (.iload_n 3, 1) := by decide +kernel
theorem dX11_years_47 : decode cX11_years 47 = .ok (.invokevirtual 269, 3) := by decide +kernel
theorem dX11_years_50 : decode cX11_years 50 = .ok (.iconst 0, 1) := by decide +kernel
theorem dX11_years_51 : decode cX11_years 51 = .ok (.istore 6, 2) := by decide +kernel
theorem dX11_years_53 : decode cX11_years 53 = .ok (.iload 6, 2) := by decide +kernel
theorem dX11_years_55 : decode cX11_years 55 = .ok (.iload_n 2, 1) := by decide +kernel
theorem dX11_years_56 : decode cX11_years 56 = .ok (.if_icmp .ge 18, 3) := by decide +kernel
theorem dX11_years_59 : decode cX11_years 59 = .ok (.aload_n 0, 1) := by decide +kernel
theorem dX11_years_60 : decode cX11_years 60 = .ok (.getfield 56, 3) := by decide +kernel
theorem dX11_years_63 : decode cX11_years 63 = .ok (.aload 5, 2) := by decide +kernel
theorem dX11_years_65 : decode cX11_years 65 = .ok (.invokevirtual 272, 3) := by decide +kernel
theorem dX11_years_68 : decode cX11_years 68 = .ok (.iinc 6 1, 3) := by decide +kernel
theorem dX11_years_71 : decode cX11_years 71 = .ok (.goto (-18), 3) := by decide +kernel
theorem dX11_years_74 : decode cX11_years 74 = .ok (.iload 4, 2) := by decide +kernel
theorem dX11_years_76 : decode cX11_years 76 = .ok (.tableswitch 52 0 2 #[28, 36, 44], 28) := by decide +kernel
theorem dX11_years_104 : decode cX11_years 104 = .ok (.aload_n 0, 1) := by decide +kernel
theorem dX11_years_105 : decode cX11_years 105 = .ok (.getfield 56, 3) := by decide +kernel
theorem dX11_years_108 : decode cX11_years 108 = .ok (.getfield 276, 3) := by decide +kernel
theorem dX11_years_111 : decode cX11_years 111 = .ok (.ireturn, 1) := by decide +kernel
theorem dX11_years_112 : decode cX11_years 112 = .ok (.aload_n 0, 1) := by decide +kernel
theorem dX11_years_113 : decode cX11_years 113 = .ok (.getfield 56, 3) := by decide +kernel
theorem dX11_years_116 : decode cX11_years 116 = .ok (.invokevirtual 279, 3) := by decide +kernel
theorem dX11_years_119 : decode cX11_years 119 = .ok (.ireturn, 1) := by decide +kernel
theorem dX11_years_120 : decode cX11_years 120 = .ok (.aload_n 0, 1) := by decide +kernel
theorem dX11_years_121 : decode cX11_years 121 = .ok (.getfield 56, 3) := by decide +kernel
theorem dX11_years_124 : decode cX11_years 124 = .ok (.getfield 282, 3) := by decide +kernel
theorem dX11_years_127 : decode cX11_years 127 = .ok (.ireturn, 1) := by decide +kernel
theorem dX11_years_128 : decode cX11_years 128 = .ok (.aload_n 0, 1) := by decide +kernel
theorem dX11_years_129 : decode cX11_years 129 = .ok (.getfield 56, 3) := by decide +kernel
theorem dX11_years_132 : decode cX11_years 132 = .ok (.getfield 284, 3) := by decide +kernel
theorem dX11_years_135 : decode cX11_years 135 = .ok (.ireturn, 1) := by decide +kernel
theorem dX11_lot_0 : decode cX11_lot 0 = .ok (.aload_n 0, 1) := by decide +kernel
theorem dX11_lot_1 : decode cX11_lot 1 = .ok (.iload_n 1, 1) := by decide +kernel
theorem dX11_lot_2 : decode cX11_lot 2 = .ok (.invokevirtual 129, 3) := by decide +kernel
theorem dX11_lot_5 : decode cX11_lot 5 = .ok (.ifCond .ne 6, 3) := by decide +kernel
theorem dX11_lot_8 : decode cX11_lot 8 = .ok (.bipush (-101), 2) := by decide +kernel
theorem dX11_lot_10 : decode cX11_lot 10 = .ok (.ireturn, 1) := by decide +kernel
theorem dX11_lot_11 : decode cX11_lot 11 = .ok (.iload_n 2, 1) := by decide +kernel
theorem dX11_lot_12 : decode cX11_lot 12 = .ok (.invokestatic 164, 3) := by decide +kernel
theorem dX11_lot_15 : decode cX11_lot 15 = .ok (.ifCond .ne 6, 3) := by decide +kernel
theorem dX11_lot_18 : decode cX11_lot 18 = .ok (.bipush (-102), 2) := by decide +kernel
theorem dX11_lot_20 : decode cX11_lot 20 = .ok (.ireturn, 1) := by decide +kernel
theorem dX11_lot_21 : decode cX11_lot 21 = .ok (.aload_n 0, 1) := by decide +kernel
theorem dX11_lot_22 : decode cX11_lot 22 = .ok (.iload_n 1, 1) := by decide +kernel
theorem dX11_lot_23 : decode cX11_lot 23 = .ok (.invokevirtual 143, 3) := by decide +kernel
theorem dX11_lot_26 : decode cX11_lot 26 = .ok (.ifCond .eq 5, 3) := by decide +kernel
theorem dX11_lot_29 : decode cX11_lot 29 = .ok (.iload_n 2, 1) := by decide +kernel
theorem dX11_lot_30 : decode cX11_lot 30 = .ok (.ireturn, 1) := by decide +kernel
theorem dX11_lot_31 : decode cX11_lot 31 = .ok (.iload_n 2, 1) := by decide +kernel
theorem dX11_lot_32 : decode cX11_lot 32 = .ok (.ifCond .ne 7, 3) := by decide +kernel
theorem dX11_lot_35 : decode cX11_lot 35 = .ok (.iconst 1, 1) := by decide +kernel
theorem dX11_lot_36 : decode cX11_lot 36 = .ok (.goto 12, 3) := by decide +kernel
theorem dX11_lot_39 : decode cX11_lot 39 = .ok (.aload_n 0, 1) := by decide +kernel
theorem dX11_lot_40 : decode cX11_lot 40 = .ok (.getfield 126, 3) := by decide +kernel
theorem dX11_lot_43 : decode cX11_lot 43 = .ok (.aload_n 0, 1) := by decide +kernel
theorem dX11_lot_44 : decode cX11_lot 44 = .ok (.invokevirtual 285, 3) := by decide +kernel
theorem dX11_lot_47 : decode cX11_lot 47 = .ok (.isub, 1) := by decide +kernel
theorem dX11_lot_48 : decode cX11_lot 48 = .ok (.ireturn, 1) := by decide +kernel
theorem dX11_image_0 : decode cX11_image 0 = .ok (.iconst 0, 1) := by decide +kernel
theorem dX11_image_1 : decode cX11_image 1 = .ok (.istore_n 1, 1) := by decide +kernel
theorem dX11_image_2 : decode cX11_image 2 = .ok (.iload_n 1, 1) := by decide +kernel
theorem dX11_image_3 : decode cX11_image 3 = .ok (.aload_n 0, 1) := by decide +kernel
theorem dX11_image_4 : decode cX11_image 4 = .ok (.getfield 103, 3) := by decide +kernel
theorem dX11_image_7 : decode cX11_image 7 = .ok (.if_icmp .ge 22, 3) := by decide +kernel
theorem dX11_image_10 : decode cX11_image 10 = .ok (.aload_n 0, 1) := by decide +kernel
theorem dX11_image_11 : decode cX11_image 11 = .ok (.getfield 24, 3) := by decide +kernel
theorem dX11_image_14 : decode cX11_image 14 = .ok (.iload_n 1, 1) := by decide +kernel
theorem dX11_image_15 : decode cX11_image 15 = .ok (.aaload, 1) := by decide +kernel
theorem dX11_image_16 : decode cX11_image 16 = .ok (.aload_n 0, 1) := by decide +kernel
theorem dX11_image_17 : decode cX11_image 17 = .ok (.getfield 126, 3) := by decide +kernel
theorem dX11_image_20 : decode cX11_image 20 = .ok (.invokevirtual 288, 3) := by decide +kernel
theorem dX11_image_23 : decode cX11_image 23 = .ok (.iinc 1 1, 3) := by decide +kernel
theorem dX11_image_26 : decode cX11_image 26 = .ok (.goto (-24), 3) := by decide +kernel
theorem dX11_image_29 : decode cX11_image 29 = .ok (.aload_n 0, 1) := by decide +kernel
theorem dX11_image_30 : decode cX11_image 30 = .ok (.iconst 1, 1) := by decide +kernel
theorem dX11_image_31 : decode cX11_image 31 = .ok (.putfield 291, 3) := by decide +kernel
theorem dX11_image_34 : decode cX11_image 34 = .ok (.aload_n 0, 1) := by decide +kernel
theorem dX11_image_35 : decode cX11_image 35 = .ok (.getfield 103, 3) := by decide +kernel
theorem dX11_image_38 : decode cX11_image 38 = .ok (.ireturn, 1) := by decide +kernel
theorem dX11_restore_0 : decode cX11_restore 0 = .ok (.aload_n 0, 1) := by decide +kernel
theorem dX11_restore_1 : decode cX11_restore 1 = .ok (.getfield 291, 3) := by decide +kernel
theorem dX11_restore_4 : decode cX11_restore 4 = .ok (.ifCond .ne 6, 3) := by decide +kernel
theorem dX11_restore_7 : decode cX11_restore 7 = .ok (.bipush (-103), 2) := by decide +kernel
theorem dX11_restore_9 : decode cX11_restore 9 = .ok (.ireturn, 1) := by decide +kernel
theorem dX11_restore_10 : decode cX11_restore 10 = .ok (.iconst 0, 1) := by decide +kernel
theorem dX11_restore_11 : decode cX11_restore 11 = .ok (.istore_n 1, 1) := by decide +kernel
theorem dX11_restore_12 : decode cX11_restore 12 = .ok (.iload_n 1, 1) := by decide +kernel
theorem dX11_restore_13 : decode cX11_restore 13 = .ok (.aload_n 0, 1) := by decide +kernel
theorem dX11_restore_14 : decode cX11_restore 14 = .ok (.getfield 103, 3) := by decide +kernel
theorem dX11_restore_17 : decode cX11_restore 17 = .ok (.if_icmp .ge 18, 3) := by decide +kernel
theorem dX11_restore_20 : decode cX11_restore 20 = .ok (.aload_n 0, 1) := by decide +kernel
theorem dX11_restore_21 : decode cX11_restore 21 = .ok (.getfield 24, 3) := by decide +kernel
theorem dX11_restore_24 : decode cX11_restore 24 = .ok (.iload_n 1, 1) := by decide +kernel
theorem dX11_restore_25 : decode cX11_restore 25 = .ok (.aaload, 1) := by decide +kernel
theorem dX11_restore_26 : decode cX11_restore 26 = .ok (.invokevirtual 294, 3) := by decide +kernel
theorem dX11_restore_29 : decode cX11_restore 29 = .ok (.iinc 1 1, 3) := by decide +kernel
theorem dX11_restore_32 : decode cX11_restore 32 = .ok (.goto (-20), 3) := by decide +kernel
theorem dX11_restore_35 : decode cX11_restore 35 = .ok (.aload_n 0, 1) := by decide +kernel
theorem dX11_restore_36 : decode cX11_restore 36 = .ok (.getfield 103, 3) := by decide +kernel
theorem dX11_restore_39 : decode cX11_restore 39 = .ok (.ireturn, 1) := by decide +kernel
theorem dX11_count_0 : decode cX11_count 0 = .ok (.iload_n 1, 1) := by decide +kernel
theorem dX11_count_1 : decode cX11_count 1 = .ok (.tableswitch 63 0 4 #[35, 40, 45, 50, 58], 35) := by decide +kernel
theorem dX11_count_36 : decode cX11_count 36 = .ok (.aload_n 0, 1) := by decide +kernel
theorem dX11_count_37 : decode cX11_count 37 = .ok (.getfield 103, 3) := by decide +kernel
theorem dX11_count_40 : decode cX11_count 40 = .ok (.ireturn, 1) := by decide +kernel
theorem dX11_count_41 : decode cX11_count 41 = .ok (.aload_n 0, 1) := by decide +kernel
theorem dX11_count_42 : decode cX11_count 42 = .ok (.getfield 126, 3) := by decide +kernel
theorem dX11_count_45 : decode cX11_count 45 = .ok (.ireturn, 1) := by decide +kernel
theorem dX11_count_46 : decode cX11_count 46 = .ok (.aload_n 0, 1) := by decide +kernel
theorem dX11_count_47 : decode cX11_count 47 = .ok (.getfield 79, 3) := by decide +kernel
theorem dX11_count_50 : decode cX11_count 50 = .ok (.ireturn, 1) := by decide +kernel
theorem dX11_count_51 : decode cX11_count 51 = .ok (.aload_n 0, 1) := by decide +kernel
theorem dX11_count_52 : decode cX11_count 52 = .ok (.getfield 12, 3) := by decide +kernel
theorem dX11_count_55 : decode cX11_count 55 = .ok (.getfield 297, 3) := by decide +kernel
theorem dX11_count_58 : decode cX11_count 58 = .ok (.ireturn, 1) := by decide +kernel
theorem dX11_count_59 : decode cX11_count 59 = .ok (.aload_n 0, 1) := by decide +kernel
theorem dX11_count_60 : decode cX11_count 60 = .ok (.invokevirtual 285, 3) := by decide +kernel
theorem dX11_count_63 : decode cX11_count 63 = .ok (.ireturn, 1) := by decide +kernel
theorem dX11_count_64 : decode cX11_count 64 = .ok (.bipush (-102), 2) := by decide +kernel
theorem dX11_count_66 : decode cX11_count 66 = .ok (.ireturn, 1) := by decide +kernel
theorem dX11_digest_0 : decode cX11_digest 0 = .ok (.ldc2_w 300, 3) := by decide +kernel
theorem dX11_digest_3 : decode cX11_digest 3 = .ok (.lstore_n 1, 1) := by decide +kernel
theorem dX11_digest_4 : decode cX11_digest 4 = .ok (.aload_n 0, 1) := by decide +kernel
theorem dX11_digest_5 : decode cX11_digest 5 = .ok (.lload_n 1, 1) := by decide +kernel
theorem dX11_digest_6 : decode cX11_digest 6 = .ok (.invokevirtual 302, 3) := by decide +kernel
theorem dX11_digest_9 : decode cX11_digest 9 = .ok (.lstore_n 1, 1) := by decide +kernel
theorem dX11_digest_10 : decode cX11_digest 10 = .ok (.aload_n 0, 1) := by decide +kernel
theorem dX11_digest_11 : decode cX11_digest 11 = .ok (.lload_n 1, 1) := by decide +kernel
theorem dX11_digest_12 : decode cX11_digest 12 = .ok (.invokevirtual 305, 3) := by decide +kernel
theorem dX11_digest_15 : decode cX11_digest 15 = .ok (.lstore_n 1, 1) := by decide +kernel
theorem dX11_digest_16 : decode cX11_digest 16 = .ok (.aload_n 0, 1) := by decide +kernel
theorem dX11_digest_17 : decode cX11_digest 17 = .ok (.lload_n 1, 1) := by decide +kernel
theorem dX11_digest_18 : decode cX11_digest 18 = .ok (.invokevirtual 308, 3) := by decide +kernel
theorem dX11_digest_21 : decode cX11_digest 21 = .ok (.lstore_n 1, 1) := by decide +kernel
theorem dX11_digest_22 : decode cX11_digest 22 = .ok (.aload_n 0, 1) := by decide +kernel
theorem dX11_digest_23 : decode cX11_digest 23 = .ok (.lload_n 1, 1) := by decide +kernel
theorem dX11_digest_24 : decode cX11_digest 24 = .ok (.invokevirtual 311, 3) := by decide +kernel
theorem dX11_digest_27 : decode cX11_digest 27 = .ok (.lstore_n 1, 1) := by decide +kernel
theorem dX11_digest_28 : decode cX11_digest 28 = .ok (.aload_n 0, 1) := by decide +kernel
theorem dX11_digest_29 : decode cX11_digest 29 = .ok (.getfield 12, 3) := by decide +kernel
theorem dX11_digest_32 : decode cX11_digest 32 = .ok (.lload_n 1, 1) := by decide +kernel
theorem dX11_digest_33 : decode cX11_digest 33 = .ok (.invokevirtual 314, 3) := by decide +kernel
theorem dX11_digest_36 : decode cX11_digest 36 = .ok (.lstore_n 1, 1) := by decide +kernel
theorem dX11_digest_37 : decode cX11_digest 37 = .ok (.iconst 0, 1) := by decide +kernel
theorem dX11_digest_38 : decode cX11_digest 38 = .ok (.istore_n 3, 1) := by decide +kernel
theorem dX11_digest_39 : decode cX11_digest 39 = .ok (.iload_n 3, 1) := by decide +kernel
theorem dX11_digest_40 : decode cX11_digest 40 = .ok (.iconst 4, 1) := by decide +kernel
theorem dX11_digest_41 : decode cX11_digest 41 = .ok (.if_icmp .gt 20, 3) := by decide +kernel
theorem dX11_digest_44 : decode cX11_digest 44 = .ok (.lload_n 1, 1) := by decide +kernel
theorem dX11_digest_45 : decode cX11_digest 45 = .ok (.aload_n 0, 1) := by decide +kernel
theorem dX11_digest_46 : decode cX11_digest 46 = .ok (.iload_n 3, 1) := by decide +kernel
theorem dX11_digest_47 : decode cX11_digest 47 = .ok (.invokevirtual 317, 3) := by decide +kernel
theorem dX11_digest_50 : decode cX11_digest 50 = .ok (.i2l, 1) := by decide +kernel
theorem dX11_digest_51 : decode cX11_digest 51 = .ok (.invokestatic 320, 3) := by decide +kernel
theorem dX11_digest_54 : decode cX11_digest 54 = .ok (.lstore_n 1, 1) := by decide +kernel
theorem dX11_digest_55 : decode cX11_digest 55 = .ok (.iinc 3 1, 3) := by decide +kernel
theorem dX11_digest_58 : decode cX11_digest 58 = .ok (.goto (-19), 3) := by decide +kernel
theorem dX11_digest_61 : decode cX11_digest 61 = .ok (.lload_n 1, 1) := by decide +kernel
theorem dX11_digest_62 : decode cX11_digest 62 = .ok (.lreturn, 1) := by decide +kernel
theorem dX11_ruleAt_0 : decode cX11_ruleAt 0 = .ok (.iload_n 1, 1) := by decide +kernel
theorem dX11_ruleAt_1 : decode cX11_ruleAt 1 = .ok (.ifCond .lt 20, 3) := by decide +kernel
theorem dX11_ruleAt_4 : decode cX11_ruleAt 4 = .ok (.iload_n 1, 1) := by decide +kernel
theorem dX11_ruleAt_5 : decode cX11_ruleAt 5 = .ok (.aload_n 0, 1) := by decide +kernel
theorem dX11_ruleAt_6 : decode cX11_ruleAt 6 = .ok (.getfield 79, 3) := by decide +kernel
theorem dX11_ruleAt_9 : decode cX11_ruleAt 9 = .ok (.if_icmp .ge 12, 3) := by decide +kernel
theorem dX11_ruleAt_12 : decode cX11_ruleAt 12 = .ok (.aload_n 0, 1) := by decide +kernel
theorem dX11_ruleAt_13 : decode cX11_ruleAt 13 = .ok (.getfield 18, 3) := by decide +kernel
theorem dX11_ruleAt_16 : decode cX11_ruleAt 16 = .ok (.iload_n 1, 1) := by decide +kernel
theorem dX11_ruleAt_17 : decode cX11_ruleAt 17 = .ok (.aaload, 1) := by decide +kernel
theorem dX11_ruleAt_18 : decode cX11_ruleAt 18 = .ok (.goto 4, 3) := by decide +kernel
theorem dX11_ruleAt_21 : decode cX11_ruleAt 21 = .ok (.aconst_null, 1) := by decide +kernel
theorem dX11_ruleAt_22 : decode cX11_ruleAt 22 = .ok (.areturn, 1) := by decide +kernel
theorem dX11_personAt_0 : decode cX11_personAt 0 = .ok (.iload_n 1, 1) := by decide +kernel
theorem dX11_personAt_1 : decode cX11_personAt 1 = .ok (.ifCond .lt 20, 3) := by decide +kernel
theorem dX11_personAt_4 : decode cX11_personAt 4 = .ok (.iload_n 1, 1) := by decide +kernel
theorem dX11_personAt_5 : decode cX11_personAt 5 = .ok (.aload_n 0, 1) := by decide +kernel
theorem dX11_personAt_6 : decode cX11_personAt 6 = .ok (.getfield 103, 3) := by decide +kernel
theorem dX11_personAt_9 : decode cX11_personAt 9 = .ok (.if_icmp .ge 12, 3) := by decide +kernel
theorem dX11_personAt_12 : decode cX11_personAt 12 = .ok (.aload_n 0, 1) := by decide +kernel
theorem dX11_personAt_13 : decode cX11_personAt 13 = .ok (.getfield 24, 3) := by decide +kernel
theorem dX11_personAt_16 : decode cX11_personAt 16 = .ok (.iload_n 1, 1) := by decide +kernel
theorem dX11_personAt_17 : decode cX11_personAt 17 = .ok (.aaload, 1) := by decide +kernel
theorem dX11_personAt_18 : decode cX11_personAt 18 = .ok (.goto 4, 3) := by decide +kernel
theorem dX11_personAt_21 : decode cX11_personAt 21 = .ok (.aconst_null, 1) := by decide +kernel
theorem dX11_personAt_22 : decode cX11_personAt 22 = .ok (.areturn, 1) := by decide +kernel
theorem dX11_isCandidate_0 : decode cX11_isCandidate 0 = .ok (.iload_n 1, 1) := by decide +kernel
theorem dX11_isCandidate_1 : decode cX11_isCandidate 1 = .ok (.ifCond .lt 15, 3) := by decide +kernel
theorem dX11_isCandidate_4 : decode cX11_isCandidate 4 = .ok (.iload_n 1, 1) := by decide +kernel
theorem dX11_isCandidate_5 : decode cX11_isCandidate 5 = .ok (.aload_n 0, 1) := by decide +kernel
theorem dX11_isCandidate_6 : decode cX11_isCandidate 6 = .ok (.getfield 126, 3) := by decide +kernel
theorem dX11_isCandidate_9 : decode cX11_isCandidate 9 = .ok (.if_icmp .ge 7, 3) := by decide +kernel
theorem dX11_isCandidate_12 : decode cX11_isCandidate 12 = .ok (.iconst 1, 1) := by decide +kernel
theorem dX11_isCandidate_13 : decode cX11_isCandidate 13 = .ok (.goto 4, 3) := by decide +kernel
theorem dX11_isCandidate_16 : decode cX11_isCandidate 16 = .ok (.iconst 0, 1) := by decide +kernel
theorem dX11_isCandidate_17 : decode cX11_isCandidate 17 = .ok (.ireturn, 1) := by decide +kernel
theorem dX11_friendOf_0 : decode cX11_friendOf 0 = .ok (.aload_n 0, 1) := by decide +kernel
theorem dX11_friendOf_1 : decode cX11_friendOf 1 = .ok (.iload_n 1, 1) := by decide +kernel
theorem dX11_friendOf_2 : decode cX11_friendOf 2 = .ok (.invokevirtual 129, 3) := by decide +kernel
theorem dX11_friendOf_5 : decode cX11_friendOf 5 = .ok (.ifCond .eq 12, 3) := by decide +kernel
theorem dX11_friendOf_8 : decode cX11_friendOf 8 = .ok (.aload_n 0, 1) := by decide +kernel
theorem dX11_friendOf_9 : decode cX11_friendOf 9 = .ok (.getfield 28, 3) := by decide +kernel
theorem dX11_friendOf_12 : decode cX11_friendOf 12 = .ok (.iload_n 1, 1) := by decide +kernel
theorem dX11_friendOf_13 : decode cX11_friendOf 13 = .ok (.iaload, 1) := by decide +kernel
theorem dX11_friendOf_14 : decode cX11_friendOf 14 = .ok (.goto 4, 3) := by decide +kernel
theorem dX11_friendOf_17 : decode cX11_friendOf 17 = .ok (.iconst (-1), 1) := by decide +kernel
theorem dX11_friendOf_18 : decode cX11_friendOf 18 = .ok (.ireturn, 1) := by decide +kernel
theorem dX11_everybody_0 : decode cX11_everybody 0 = .ok (.iconst 1, 1) := by decide +kernel
theorem dX11_everybody_1 : decode cX11_everybody 1 = .ok (.aload_n 0, 1) := by decide +kernel
theorem dX11_everybody_2 : decode cX11_everybody 2 = .ok (.getfield 103, 3) := by decide +kernel
theorem dX11_everybody_5 : decode cX11_everybody 5 = .ok (.ishl, 1) := by decide +kernel
theorem dX11_everybody_6 : decode cX11_everybody 6 = .ok (.iconst 1, 1) := by decide +kernel
theorem dX11_everybody_7 : decode cX11_everybody 7 = .ok (.isub, 1) := by decide +kernel
theorem dX11_everybody_8 : decode cX11_everybody 8 = .ok (.ireturn, 1) := by decide +kernel
theorem dX11_areComers_0 : decode cX11_areComers 0 = .ok (.iload_n 1, 1) := by decide +kernel
theorem dX11_areComers_1 : decode cX11_areComers 1 = .ok (.ifCond .le 15, 3) := by decide +kernel
theorem dX11_areComers_4 : decode cX11_areComers 4 = .ok (.iload_n 1, 1) := by decide +kernel
theorem dX11_areComers_5 : decode cX11_areComers 5 = .ok (.aload_n 0, 1) := by decide +kernel
theorem dX11_areComers_6 : decode cX11_areComers 6 = .ok (.invokevirtual 200, 3) := by decide +kernel
theorem dX11_areComers_9 : decode cX11_areComers 9 = .ok (.if_icmp .gt 7, 3) := by decide +kernel
theorem dX11_areComers_12 : decode cX11_areComers 12 = .ok (.iconst 1, 1) := by decide +kernel
theorem dX11_areComers_13 : decode cX11_areComers 13 = .ok (.goto 4, 3) := by decide +kernel
theorem dX11_areComers_16 : decode cX11_areComers 16 = .ok (.iconst 0, 1) := by decide +kernel
theorem dX11_areComers_17 : decode cX11_areComers 17 = .ok (.ireturn, 1) := by decide +kernel
theorem dX11_isOneOf_0 : decode cX11_isOneOf 0 = .ok (.iload_n 1, 1) := by decide +kernel
theorem dX11_isOneOf_1 : decode cX11_isOneOf 1 = .ok (.ifCond .lt 22, 3) := by decide +kernel
theorem dX11_isOneOf_4 : decode cX11_isOneOf 4 = .ok (.iload_n 1, 1) := by decide +kernel
theorem dX11_isOneOf_5 : decode cX11_isOneOf 5 = .ok (.bipush 8, 2) := by decide +kernel
theorem dX11_isOneOf_7 : decode cX11_isOneOf 7 = .ok (.if_icmp .ge 16, 3) := by decide +kernel
theorem dX11_isOneOf_10 : decode cX11_isOneOf 10 = .ok (.iload_n 0, 1) := by decide +kernel
theorem dX11_isOneOf_11 : decode cX11_isOneOf 11 = .ok (.iload_n 1, 1) := by decide +kernel
theorem dX11_isOneOf_12 : decode cX11_isOneOf 12 = .ok (.ishr, 1) := by decide +kernel
theorem dX11_isOneOf_13 : decode cX11_isOneOf 13 = .ok (.iconst 1, 1) := by decide +kernel
theorem dX11_isOneOf_14 : decode cX11_isOneOf 14 = .ok (.iand, 1) := by decide +kernel
theorem dX11_isOneOf_15 : decode cX11_isOneOf 15 = .ok (.iconst 1, 1) := by decide +kernel
theorem dX11_isOneOf_16 : decode cX11_isOneOf 16 = .ok (.if_icmp .ne 7, 3) := by decide +kernel
theorem dX11_isOneOf_19 : decode cX11_isOneOf 19 = .ok (.iconst 1, 1) := by decide +kernel
theorem dX11_isOneOf_20 : decode cX11_isOneOf 20 = .ok (.goto 4, 3) := by decide +kernel
theorem dX11_isOneOf_23 : decode cX11_isOneOf 23 = .ok (.iconst 0, 1) := by decide +kernel
theorem dX11_isOneOf_24 : decode cX11_isOneOf 24 = .ok (.ireturn, 1) := by decide +kernel
theorem dX11_isPart_0 : decode cX11_isPart 0 = .ok (.iload_n 0, 1) := by decide +kernel
theorem dX11_isPart_1 : decode cX11_isPart 1 = .ok (.ifCond .eq 8, 3) := by decide +kernel
theorem dX11_isPart_4 : decode cX11_isPart 4 = .ok (.iload_n 0, 1) := by decide +kernel
theorem dX11_isPart_5 : decode cX11_isPart 5 = .ok (.iconst 1, 1) := by decide +kernel
theorem dX11_isPart_6 : decode cX11_isPart 6 = .ok (.if_icmp .ne 7, 3) := by decide +kernel
theorem dX11_isPart_9 : decode cX11_isPart 9 = .ok (.iconst 1, 1) := by decide +kernel
theorem dX11_isPart_10 : decode cX11_isPart 10 = .ok (.goto 4, 3) := by decide +kernel
theorem dX11_isPart_13 : decode cX11_isPart 13 = .ok (.iconst 0, 1) := by decide +kernel
theorem dX11_isPart_14 : decode cX11_isPart 14 = .ok (.ireturn, 1) := by decide +kernel
theorem dX11_within_0 : decode cX11_within 0 = .ok (.iload_n 0, 1) := by decide +kernel
theorem dX11_within_1 : decode cX11_within 1 = .ok (.iload_n 1, 1) := by decide +kernel
theorem dX11_within_2 : decode cX11_within 2 = .ok (.if_icmp .lt 12, 3) := by decide +kernel
theorem dX11_within_5 : decode cX11_within 5 = .ok (.iload_n 0, 1) := by decide +kernel
theorem dX11_within_6 : decode cX11_within 6 = .ok (.iload_n 2, 1) := by decide +kernel
theorem dX11_within_7 : decode cX11_within 7 = .ok (.if_icmp .gt 7, 3) := by decide +kernel
theorem dX11_within_10 : decode cX11_within 10 = .ok (.iconst 1, 1) := by decide +kernel
theorem dX11_within_11 : decode cX11_within 11 = .ok (.goto 4, 3) := by decide +kernel
theorem dX11_within_14 : decode cX11_within 14 = .ok (.iconst 0, 1) := by decide +kernel
theorem dX11_within_15 : decode cX11_within 15 = .ok (.ireturn, 1) := by decide +kernel
theorem dX11_newPerson_0 : decode cX11_newPerson 0 = .ok (.iload_n 1, 1) := by decide +kernel
theorem dX11_newPerson_1 : decode cX11_newPerson 1 = .ok (.tableswitch 86 1 4 #[31, 44, 58, 72], 31) := by decide +kernel
theorem dX11_newPerson_32 : decode cX11_newPerson 32 = .ok (.new 324, 3) := by decide +kernel
theorem dX11_newPerson_35 : decode cX11_newPerson 35 = .ok (.dup, 1) := by decide +kernel
theorem dX11_newPerson_36 : decode cX11_newPerson 36 = .ok (.aload_n 0, 1) := by decide +kernel
theorem dX11_newPerson_37 : decode cX11_newPerson 37 = .ok (.getfield 103, 3) := by decide +kernel
theorem dX11_newPerson_40 : decode cX11_newPerson 40 = .ok (.iload_n 3, 1) := by decide +kernel
theorem dX11_newPerson_41 : decode cX11_newPerson 41 = .ok (.invokespecial 326, 3) := by decide +kernel
theorem dX11_newPerson_44 : decode cX11_newPerson 44 = .ok (.areturn, 1) := by decide +kernel
theorem dX11_newPerson_45 : decode cX11_newPerson 45 = .ok (.new 328, 3) := by decide +kernel
theorem dX11_newPerson_48 : decode cX11_newPerson 48 = .ok (.dup, 1) := by decide +kernel
theorem dX11_newPerson_49 : decode cX11_newPerson 49 = .ok (.aload_n 0, 1) := by decide +kernel
theorem dX11_newPerson_50 : decode cX11_newPerson 50 = .ok (.getfield 103, 3) := by decide +kernel
theorem dX11_newPerson_53 : decode cX11_newPerson 53 = .ok (.iload_n 3, 1) := by decide +kernel
theorem dX11_newPerson_54 : decode cX11_newPerson 54 = .ok (.iload_n 2, 1) := by decide +kernel
theorem dX11_newPerson_55 : decode cX11_newPerson 55 = .ok (.invokespecial 330, 3) := by decide +kernel
theorem dX11_newPerson_58 : decode cX11_newPerson 58 = .ok (.areturn, 1) := by decide +kernel
theorem dX11_newPerson_59 : decode cX11_newPerson 59 = .ok (.new 333, 3) := by decide +kernel
theorem dX11_newPerson_62 : decode cX11_newPerson 62 = .ok (.dup, 1) := by decide +kernel
theorem dX11_newPerson_63 : decode cX11_newPerson 63 = .ok (.aload_n 0, 1) := by decide +kernel
theorem dX11_newPerson_64 : decode cX11_newPerson 64 = .ok (.getfield 103, 3) := by decide +kernel
theorem dX11_newPerson_67 : decode cX11_newPerson 67 = .ok (.iload_n 3, 1) := by decide +kernel
theorem dX11_newPerson_68 : decode cX11_newPerson 68 = .ok (.iload_n 2, 1) := by decide +kernel
theorem dX11_newPerson_69 : decode cX11_newPerson 69 = .ok (.invokespecial 335, 3) := by decide +kernel
theorem dX11_newPerson_72 : decode cX11_newPerson 72 = .ok (.areturn, 1) := by decide +kernel
theorem dX11_newPerson_73 : decode cX11_newPerson 73 = .ok (.new 336, 3) := by decide +kernel
theorem dX11_newPerson_76 : decode cX11_newPerson 76 = .ok (.dup, 1) := by decide +kernel
theorem dX11_newPerson_77 : decode cX11_newPerson 77 = .ok (.aload_n 0, 1) := by decide +kernel
theorem dX11_newPerson_78 : decode cX11_newPerson 78 = .ok (.getfield 103, 3) := by decide +kernel
theorem dX11_newPerson_81 : decode cX11_newPerson 81 = .ok (.iload_n 3, 1) := by decide +kernel
theorem dX11_newPerson_82 : decode cX11_newPerson 82 = .ok (.iload_n 2, 1) := by decide +kernel
theorem dX11_newPerson_83 : decode cX11_newPerson 83 = .ok (.invokespecial 338, 3) := by decide +kernel
theorem dX11_newPerson_86 : decode cX11_newPerson 86 = .ok (.areturn, 1) := by decide +kernel
theorem dX11_newPerson_87 : decode cX11_newPerson 87 = .ok (.new 22, 3) := by decide +kernel
theorem dX11_newPerson_90 : decode cX11_newPerson 90 = .ok (.dup, 1) := by decide +kernel
theorem dX11_newPerson_91 : decode cX11_newPerson 91 = .ok (.aload_n 0, 1) := by decide +kernel
theorem dX11_newPerson_92 : decode cX11_newPerson 92 = .ok (.getfield 103, 3) := by decide +kernel
theorem dX11_newPerson_95 : decode cX11_newPerson 95 = .ok (.iload_n 3, 1) := by decide +kernel
theorem dX11_newPerson_96 : decode cX11_newPerson 96 = .ok (.invokespecial 339, 3) := by decide +kernel
theorem dX11_newPerson_99 : decode cX11_newPerson 99 = .ok (.areturn, 1) := by decide +kernel
theorem dX11_isSuch_0 : decode cX11_isSuch 0 = .ok (.iload_n 1, 1) := by decide +kernel
theorem dX11_isSuch_1 : decode cX11_isSuch 1 = .ok (.tableswitch 51 1 4 #[31, 36, 41, 46], 31) := by decide +kernel
theorem dX11_isSuch_32 : decode cX11_isSuch 32 = .ok (.aload_n 0, 1) := by decide +kernel
theorem dX11_isSuch_33 : decode cX11_isSuch 33 = .ok (.instanceof 324, 3) := by decide +kernel
theorem dX11_isSuch_36 : decode cX11_isSuch 36 = .ok (.ireturn, 1) := by decide +kernel
theorem dX11_isSuch_37 : decode cX11_isSuch 37 = .ok (.aload_n 0, 1) := by decide +kernel
theorem dX11_isSuch_38 : decode cX11_isSuch 38 = .ok (.instanceof 328, 3) := by decide +kernel
theorem dX11_isSuch_41 : decode cX11_isSuch 41 = .ok (.ireturn, 1) := by decide +kernel
theorem dX11_isSuch_42 : decode cX11_isSuch 42 = .ok (.aload_n 0, 1) := by decide +kernel
theorem dX11_isSuch_43 : decode cX11_isSuch 43 = .ok (.instanceof 333, 3) := by decide +kernel
theorem dX11_isSuch_46 : decode cX11_isSuch 46 = .ok (.ireturn, 1) := by decide +kernel
theorem dX11_isSuch_47 : decode cX11_isSuch 47 = .ok (.aload_n 0, 1) := by decide +kernel
theorem dX11_isSuch_48 : decode cX11_isSuch 48 = .ok (.instanceof 336, 3) := by decide +kernel
theorem dX11_isSuch_51 : decode cX11_isSuch 51 = .ok (.ireturn, 1) := by decide +kernel
theorem dX11_isSuch_52 : decode cX11_isSuch 52 = .ok (.iconst 1, 1) := by decide +kernel
theorem dX11_isSuch_53 : decode cX11_isSuch 53 = .ok (.ireturn, 1) := by decide +kernel
theorem dX11_howManyMindMuch_0 : decode cX11_howManyMindMuch 0 = .ok (.iconst 0, 1) := by decide +kernel
theorem dX11_howManyMindMuch_1 : decode cX11_howManyMindMuch 1 = .ok (.istore_n 2, 1) := by decide +kernel
theorem dX11_howManyMindMuch_2 : decode cX11_howManyMindMuch 2 = .ok (.iconst 0, 1) := by decide +kernel
theorem dX11_howManyMindMuch_3 : decode cX11_howManyMindMuch 3 = .ok (.istore_n 3, 1) := by decide +kernel
theorem dX11_howManyMindMuch_4 : decode cX11_howManyMindMuch 4 = .ok (.iload_n 3, 1) := by decide +kernel
theorem dX11_howManyMindMuch_5 : decode cX11_howManyMindMuch 5 = .ok (.aload_n 0, 1) := by decide +kernel
theorem dX11_howManyMindMuch_6 : decode cX11_howManyMindMuch 6 = .ok (.getfield 103, 3) := by decide +kernel
theorem dX11_howManyMindMuch_9 : decode cX11_howManyMindMuch 9 = .ok (.if_icmp .ge 25, 3) := by decide +kernel
theorem dX11_howManyMindMuch_12 : decode cX11_howManyMindMuch 12 = .ok (.aload_n 0, 1) := by decide +kernel
theorem dX11_howManyMindMuch_13 : decode cX11_howManyMindMuch 13 = .ok (.getfield 24, 3) := by decide +kernel
theorem dX11_howManyMindMuch_16 : decode cX11_howManyMindMuch 16 = .ok (.iload_n 3, 1) := by decide +kernel
theorem dX11_howManyMindMuch_17 : decode cX11_howManyMindMuch 17 = .ok (.aaload, 1) := by decide +kernel
theorem dX11_howManyMindMuch_18 : decode cX11_howManyMindMuch 18 = .ok (.iload_n 1, 1) := by decide +kernel
theorem dX11_howManyMindMuch_19 : decode cX11_howManyMindMuch 19 = .ok (.invokevirtual 340, 3) := by decide +kernel
theorem dX11_howManyMindMuch_22 : decode cX11_howManyMindMuch 22 = .ok (.ifCond .eq 6, 3) := by decide +kernel
theorem dX11_howManyMindMuch_25 : decode cX11_howManyMindMuch 25 = .ok (.iinc 2 1, 3) := by decide +kernel
theorem dX11_howManyMindMuch_28 : decode cX11_howManyMindMuch 28 = .ok (.iinc 3 1, 3) := by decide +kernel
theorem dX11_howManyMindMuch_31 : decode cX11_howManyMindMuch 31 = .ok (.goto (-27), 3) := by decide +kernel
theorem dX11_howManyMindMuch_34 : decode cX11_howManyMindMuch 34 = .ok (.iload_n 2, 1) := by decide +kernel
theorem dX11_howManyMindMuch_35 : decode cX11_howManyMindMuch 35 = .ok (.ireturn, 1) := by decide +kernel
theorem dX11_isMinded_0 : decode cX11_isMinded 0 = .ok (.aload_n 0, 1) := by decide +kernel
theorem dX11_isMinded_1 : decode cX11_isMinded 1 = .ok (.iload_n 1, 1) := by decide +kernel
theorem dX11_isMinded_2 : decode cX11_isMinded 2 = .ok (.invokevirtual 146, 3) := by decide +kernel
theorem dX11_isMinded_5 : decode cX11_isMinded 5 = .ok (.iconst 2, 1) := by decide +kernel
theorem dX11_isMinded_6 : decode cX11_isMinded 6 = .ok (.if_icmp .lt 7, 3) := by decide +kernel
theorem dX11_isMinded_9 : decode cX11_isMinded 9 = .ok (.iconst 1, 1) := by decide +kernel
theorem dX11_isMinded_10 : decode cX11_isMinded 10 = .ok (.goto 4, 3) := by decide +kernel
theorem dX11_isMinded_13 : decode cX11_isMinded 13 = .ok (.iconst 0, 1) := by decide +kernel
theorem dX11_isMinded_14 : decode cX11_isMinded 14 = .ok (.ireturn, 1) := by decide +kernel
theorem dX11_howManyMinded_0 : decode cX11_howManyMinded 0 = .ok (.iconst 0, 1) := by decide +kernel
theorem dX11_howManyMinded_1 : decode cX11_howManyMinded 1 = .ok (.istore_n 1, 1) := by decide +kernel
theorem dX11_howManyMinded_2 : decode cX11_howManyMinded 2 = .ok (.iconst 0, 1) := by decide +kernel
theorem dX11_howManyMinded_3 : decode cX11_howManyMinded 3 = .ok (.istore_n 2, 1) := by decide +kernel
theorem dX11_howManyMinded_4 : decode cX11_howManyMinded 4 = .ok (.iload_n 2, 1) := by decide +kernel
theorem dX11_howManyMinded_5 : decode cX11_howManyMinded 5 = .ok (.aload_n 0, 1) := by decide +kernel
theorem dX11_howManyMinded_6 : decode cX11_howManyMinded 6 = .ok (.getfield 126, 3) := by decide +kernel
theorem dX11_howManyMinded_9 : decode cX11_howManyMinded 9 = .ok (.if_icmp .ge 20, 3) := by decide +kernel
theorem dX11_howManyMinded_12 : decode cX11_howManyMinded 12 = .ok (.aload_n 0, 1) := by decide +kernel
theorem dX11_howManyMinded_13 : decode cX11_howManyMinded 13 = .ok (.iload_n 2, 1) := by decide +kernel
theorem dX11_howManyMinded_14 : decode cX11_howManyMinded 14 = .ok (.invokevirtual 143, 3) := by decide +kernel
theorem dX11_howManyMinded_17 : decode cX11_howManyMinded 17 = .ok (.ifCond .eq 6, 3) := by decide +kernel
theorem dX11_howManyMinded_20 : decode cX11_howManyMinded 20 = .ok (.iinc 1 1, 3) := by decide +kernel
theorem dX11_howManyMinded_23 : decode cX11_howManyMinded 23 = .ok (.iinc 2 1, 3) := by decide +kernel
theorem dX11_howManyMinded_26 : decode cX11_howManyMinded 26 = .ok (.goto (-22), 3) := by decide +kernel
theorem dX11_howManyMinded_29 : decode cX11_howManyMinded 29 = .ok (.iload_n 1, 1) := by decide +kernel
theorem dX11_howManyMinded_30 : decode cX11_howManyMinded 30 = .ok (.ireturn, 1) := by decide +kernel
theorem dX11_isWatched_0 : decode cX11_isWatched 0 = .ok (.aload_n 0, 1) := by decide +kernel
theorem dX11_isWatched_1 : decode cX11_isWatched 1 = .ok (.getfield 343, 3) := by decide +kernel
theorem dX11_isWatched_4 : decode cX11_isWatched 4 = .ok (.ifCond .ne 11, 3) := by decide +kernel
theorem dX11_isWatched_7 : decode cX11_isWatched 7 = .ok (.iload_n 1, 1) := by decide +kernel
theorem dX11_isWatched_8 : decode cX11_isWatched 8 = .ok (.invokestatic 218, 3) := by decide +kernel
theorem dX11_isWatched_11 : decode cX11_isWatched 11 = .ok (.iconst 4, 1) := by decide +kernel
theorem dX11_isWatched_12 : decode cX11_isWatched 12 = .ok (.if_icmp .ge 7, 3) := by decide +kernel
theorem dX11_isWatched_15 : decode cX11_isWatched 15 = .ok (.iconst 1, 1) := by decide +kernel
theorem dX11_isWatched_16 : decode cX11_isWatched 16 = .ok (.goto 4, 3) := by decide +kernel
theorem dX11_isWatched_19 : decode cX11_isWatched 19 = .ok (.iconst 0, 1) := by decide +kernel
theorem dX11_isWatched_20 : decode cX11_isWatched 20 = .ok (.ireturn, 1) := by decide +kernel
theorem dX11_blackOf_0 : decode cX11_blackOf 0 = .ok (.aload_n 1, 1) := by decide +kernel
theorem dX11_blackOf_1 : decode cX11_blackOf 1 = .ok (.iload_n 2, 1) := by decide +kernel
theorem dX11_blackOf_2 : decode cX11_blackOf 2 = .ok (.aload_n 0, 1) := by decide +kernel
theorem dX11_blackOf_3 : decode cX11_blackOf 3 = .ok (.iload_n 2, 1) := by decide +kernel
theorem dX11_blackOf_4 : decode cX11_blackOf 4 = .ok (.invokevirtual 140, 3) := by decide +kernel
theorem dX11_blackOf_7 : decode cX11_blackOf 7 = .ok (.iload_n 3, 1) := by decide +kernel
theorem dX11_blackOf_8 : decode cX11_blackOf 8 = .ok (.invokevirtual 346, 3) := by decide +kernel
theorem dX11_blackOf_11 : decode cX11_blackOf 11 = .ok (.ireturn, 1) := by decide +kernel
theorem dX11_tallyBalls_0 : decode cX11_tallyBalls 0 = .ok (.aload_n 0, 1) := by decide +kernel
theorem dX11_tallyBalls_1 : decode cX11_tallyBalls 1 = .ok (.getfield 35, 3) := by decide +kernel
theorem dX11_tallyBalls_4 : decode cX11_tallyBalls 4 = .ok (.invokevirtual 350, 3) := by decide +kernel
theorem dX11_tallyBalls_7 : decode cX11_tallyBalls 7 = .ok (.iconst 0, 1) := by decide +kernel
theorem dX11_tallyBalls_8 : decode cX11_tallyBalls 8 = .ok (.istore 4, 2) := by decide +kernel
theorem dX11_tallyBalls_10 : decode cX11_tallyBalls 10 = .ok (.iload 4, 2) := by decide +kernel
theorem dX11_tallyBalls_12 : decode cX11_tallyBalls 12 = .ok (.aload_n 0, 1) := by decide +kernel
theorem dX11_tallyBalls_13 : decode cX11_tallyBalls 13 = .ok (.getfield 103, 3) := by decide +kernel
theorem dX11_tallyBalls_16 : decode cX11_tallyBalls 16 = .ok (.if_icmp .ge 38, 3) := by decide +kernel
theorem dX11_tallyBalls_19 : decode cX11_tallyBalls 19 = .ok (.iload_n 2, 1) := by decide +kernel
theorem dX11_tallyBalls_20 : decode cX11_tallyBalls 20 = .ok (.iload 4, 2) := by decide +kernel
theorem dX11_tallyBalls_22 : decode cX11_tallyBalls 22 = .ok (.invokestatic 152, 3) := by decide +kernel
theorem dX11_tallyBalls_25 : decode cX11_tallyBalls 25 = .ok (.ifCond .eq 23, 3) := by decide +kernel
theorem dX11_tallyBalls_28 : decode cX11_tallyBalls 28 = .ok (.aload_n 0, 1) := by decide +kernel
theorem dX11_tallyBalls_29 : decode cX11_tallyBalls 29 = .ok (.getfield 35, 3) := by decide +kernel
theorem dX11_tallyBalls_32 : decode cX11_tallyBalls 32 = .ok (.aload_n 0, 1) := by decide +kernel
theorem dX11_tallyBalls_33 : decode cX11_tallyBalls 33 = .ok (.aload_n 0, 1) := by decide +kernel
theorem dX11_tallyBalls_34 : decode cX11_tallyBalls 34 = .ok (.getfield 24, 3) := by decide +kernel
theorem dX11_tallyBalls_37 : decode cX11_tallyBalls 37 = .ok (.iload 4, 2) := by decide +kernel
theorem dX11_tallyBalls_39 : decode cX11_tallyBalls 39 = .ok (.aaload, 1) := by decide +kernel
theorem dX11_tallyBalls_40 : decode cX11_tallyBalls 40 = .ok (.iload_n 1, 1) := by decide +kernel
theorem dX11_tallyBalls_41 : decode cX11_tallyBalls 41 = .ok (.iload_n 3, 1) := by decide +kernel
theorem dX11_tallyBalls_42 : decode cX11_tallyBalls 42 = .ok (.invokevirtual 160, 3) := by decide +kernel
theorem dX11_tallyBalls_45 : decode cX11_tallyBalls 45 = .ok (.invokevirtual 351, 3) := by decide +kernel
theorem dX11_tallyBalls_48 : decode cX11_tallyBalls 48 = .ok (.iinc 4 1, 3) := by decide +kernel
theorem dX11_tallyBalls_51 : decode cX11_tallyBalls 51 = .ok (.goto (-41), 3) := by decide +kernel
theorem dX11_tallyBalls_54 : decode cX11_tallyBalls 54 = .ok (.return_, 1) := by decide +kernel
theorem dX11_inWays_0 : decode cX11_inWays 0 = .ok (.iload_n 3, 1) := by decide +kernel
theorem dX11_inWays_1 : decode cX11_inWays 1 = .ok (.invokestatic 218, 3) := by decide +kernel
theorem dX11_inWays_4 : decode cX11_inWays 4 = .ok (.istore 4, 2) := by decide +kernel
theorem dX11_inWays_6 : decode cX11_inWays 6 = .ok (.aload_n 1, 1) := by decide +kernel
theorem dX11_inWays_7 : decode cX11_inWays 7 = .ok (.iload 4, 2) := by decide +kernel
theorem dX11_inWays_9 : decode cX11_inWays 9 = .ok (.invokevirtual 354, 3) := by decide +kernel
theorem dX11_inWays_12 : decode cX11_inWays 12 = .ok (.ifCond .ne 5, 3) := by decide +kernel
theorem dX11_inWays_15 : decode cX11_inWays 15 = .ok (.lconst 0, 1) := by decide +kernel
theorem dX11_inWays_16 : decode cX11_inWays 16 = .ok (.lreturn, 1) := by decide +kernel
theorem dX11_inWays_17 : decode cX11_inWays 17 = .ok (.aload_n 0, 1) := by decide +kernel
theorem dX11_inWays_18 : decode cX11_inWays 18 = .ok (.iload_n 2, 1) := by decide +kernel
theorem dX11_inWays_19 : decode cX11_inWays 19 = .ok (.iload_n 3, 1) := by decide +kernel
theorem dX11_inWays_20 : decode cX11_inWays 20 = .ok (.aload_n 1, 1) := by decide +kernel
theorem dX11_inWays_21 : decode cX11_inWays 21 = .ok (.iload_n 3, 1) := by decide +kernel
theorem dX11_inWays_22 : decode cX11_inWays 22 = .ok (.invokestatic 156, 3) := by decide +kernel
theorem dX11_inWays_25 : decode cX11_inWays 25 = .ok (.invokevirtual 167, 3) := by decide +kernel
theorem dX11_inWays_28 : decode cX11_inWays 28 = .ok (.aload_n 0, 1) := by decide +kernel
theorem dX11_inWays_29 : decode cX11_inWays 29 = .ok (.getfield 35, 3) := by decide +kernel
theorem dX11_inWays_32 : decode cX11_inWays 32 = .ok (.invokevirtual 175, 3) := by decide +kernel
theorem dX11_inWays_35 : decode cX11_inWays 35 = .ok (.lstore 5, 2) := by decide +kernel
theorem dX11_inWays_37 : decode cX11_inWays 37 = .ok (.lconst 0, 1) := by decide +kernel
theorem dX11_inWays_38 : decode cX11_inWays 38 = .ok (.lstore 7, 2) := by decide +kernel
theorem dX11_inWays_40 : decode cX11_inWays 40 = .ok (.iconst 0, 1) := by decide +kernel
theorem dX11_inWays_41 : decode cX11_inWays 41 = .ok (.istore 9, 2) := by decide +kernel
theorem dX11_inWays_43 : decode cX11_inWays 43 = .ok (.iload 9, 2) := by decide +kernel
theorem dX11_inWays_45 : decode cX11_inWays 45 = .ok (.iload 4, 2) := by decide +kernel
theorem dX11_inWays_47 : decode cX11_inWays 47 = .ok (.if_icmp .gt 34, 3) := by decide +kernel
theorem dX11_inWays_50 : decode cX11_inWays 50 = .ok (.aload_n 1, 1) := by decide +kernel
theorem dX11_inWays_51 : decode cX11_inWays 51 = .ok (.iload 9, 2) := by decide +kernel
theorem dX11_inWays_53 : decode cX11_inWays 53 = .ok (.iload 4, 2) := by decide +kernel
theorem dX11_inWays_55 : decode cX11_inWays 55 = .ok (.invokevirtual 223, 3) := by decide +kernel
theorem dX11_inWays_58 : decode cX11_inWays 58 = .ok (.ifCond .eq 17, 3) := by decide +kernel
theorem dX11_inWays_61 : decode cX11_inWays 61 = .ok (.lload 7, 2) := by decide +kernel
theorem dX11_inWays_63 : decode cX11_inWays 63 = .ok (.aload_n 0, 1) := by decide +kernel
theorem dX11_inWays_64 : decode cX11_inWays 64 = .ok (.getfield 35, 3) := by decide +kernel
theorem dX11_inWays_67 : decode cX11_inWays 67 = .ok (.iload 9, 2) := by decide +kernel
theorem dX11_inWays_69 : decode cX11_inWays 69 = .ok (.invokevirtual 171, 3) := by decide +kernel
theorem dX11_inWays_72 : decode cX11_inWays 72 = .ok (.ladd, 1) := by decide +kernel
theorem dX11_inWays_73 : decode cX11_inWays 73 = .ok (.lstore 7, 2) := by decide +kernel
theorem dX11_inWays_75 : decode cX11_inWays 75 = .ok (.iinc 9 1, 3) := by decide +kernel
theorem dX11_inWays_78 : decode cX11_inWays 78 = .ok (.goto (-35), 3) := by decide +kernel
theorem dX11_inWays_81 : decode cX11_inWays 81 = .ok (.aload_n 1, 1) := by decide +kernel
theorem dX11_inWays_82 : decode cX11_inWays 82 = .ok (.getfield 194, 3) := by decide +kernel
theorem dX11_inWays_85 : decode cX11_inWays 85 = .ok (.ifCond .eq 17, 3) := by decide +kernel
theorem dX11_inWays_88 : decode cX11_inWays 88 = .ok (.lload 5, 2) := by decide +kernel
theorem dX11_inWays_90 : decode cX11_inWays 90 = .ok (.lload 5, 2) := by decide +kernel
theorem dX11_inWays_92 : decode cX11_inWays 92 = .ok (.lmul, 1) := by decide +kernel
theorem dX11_inWays_93 : decode cX11_inWays 93 = .ok (.lload 7, 2) := by decide +kernel
theorem dX11_inWays_95 : decode cX11_inWays 95 = .ok (.lload 7, 2) := by decide +kernel
theorem dX11_inWays_97 : decode cX11_inWays 97 = .ok (.lmul, 1) := by decide +kernel
theorem dX11_inWays_98 : decode cX11_inWays 98 = .ok (.lsub, 1) := by decide +kernel
theorem dX11_inWays_99 : decode cX11_inWays 99 = .ok (.goto 11, 3) := by decide +kernel
theorem dX11_inWays_102 : decode cX11_inWays 102 = .ok (.lload 5, 2) := by decide +kernel
theorem dX11_inWays_104 : decode cX11_inWays 104 = .ok (.lload 7, 2) := by decide +kernel
theorem dX11_inWays_106 : decode cX11_inWays 106 = .ok (.lsub, 1) := by decide +kernel
theorem dX11_inWays_107 : decode cX11_inWays 107 = .ok (.lload 5, 2) := by decide +kernel
theorem dX11_inWays_109 : decode cX11_inWays 109 = .ok (.lmul, 1) := by decide +kernel
theorem dX11_inWays_110 : decode cX11_inWays 110 = .ok (.lreturn, 1) := by decide +kernel
theorem dX11_squaredTens_0 : decode cX11_squaredTens 0 = .ok (.ldc2_w 357, 3) := by decide +kernel
theorem dX11_squaredTens_3 : decode cX11_squaredTens 3 = .ok (.iload_n 0, 1) := by decide +kernel
theorem dX11_squaredTens_4 : decode cX11_squaredTens 4 = .ok (.invokestatic 218, 3) := by decide +kernel
theorem dX11_squaredTens_7 : decode cX11_squaredTens 7 = .ok (.invokestatic 359, 3) := by decide +kernel
theorem dX11_squaredTens_10 : decode cX11_squaredTens 10 = .ok (.lstore_n 1, 1) := by decide +kernel
theorem dX11_squaredTens_11 : decode cX11_squaredTens 11 = .ok (.lload_n 1, 1) := by decide +kernel
theorem dX11_squaredTens_12 : decode cX11_squaredTens 12 = .ok (.lload_n 1, 1) := by decide +kernel
theorem dX11_squaredTens_13 : decode cX11_squaredTens 13 = .ok (.lmul, 1) := by decide +kernel
theorem dX11_squaredTens_14 : decode cX11_squaredTens 14 = .ok (.lreturn, 1) := by decide +kernel
theorem dX11_wrongWays_0 : decode cX11_wrongWays 0 = .ok (.iload_n 2, 1) := by decide +kernel
theorem dX11_wrongWays_1 : decode cX11_wrongWays 1 = .ok (.invokestatic 191, 3) := by decide +kernel
theorem dX11_wrongWays_4 : decode cX11_wrongWays 4 = .ok (.lstore_n 3, 1) := by decide +kernel
theorem dX11_wrongWays_5 : decode cX11_wrongWays 5 = .ok (.lconst 0, 1) := by decide +kernel
theorem dX11_wrongWays_6 : decode cX11_wrongWays 6 = .ok (.lstore 5, 2) := by decide +kernel
theorem dX11_wrongWays_8 : decode cX11_wrongWays 8 = .ok (.iconst 0, 1) := by decide +kernel
theorem dX11_wrongWays_9 : decode cX11_wrongWays 9 = .ok (.istore 7, 2) := by decide +kernel
theorem dX11_wrongWays_11 : decode cX11_wrongWays 11 = .ok (.iload 7, 2) := by decide +kernel
theorem dX11_wrongWays_13 : decode cX11_wrongWays 13 = .ok (.aload_n 0, 1) := by decide +kernel
theorem dX11_wrongWays_14 : decode cX11_wrongWays 14 = .ok (.getfield 126, 3) := by decide +kernel
theorem dX11_wrongWays_17 : decode cX11_wrongWays 17 = .ok (.if_icmp .ge 42, 3) := by decide +kernel
theorem dX11_wrongWays_20 : decode cX11_wrongWays 20 = .ok (.aload_n 0, 1) := by decide +kernel
theorem dX11_wrongWays_21 : decode cX11_wrongWays 21 = .ok (.aload_n 1, 1) := by decide +kernel
theorem dX11_wrongWays_22 : decode cX11_wrongWays 22 = .ok (.iload 7, 2) := by decide +kernel
theorem dX11_wrongWays_24 : decode cX11_wrongWays 24 = .ok (.iload_n 2, 1) := by decide +kernel
theorem dX11_wrongWays_25 : decode cX11_wrongWays 25 = .ok (.invokevirtual 187, 3) := by decide +kernel
theorem dX11_wrongWays_28 : decode cX11_wrongWays 28 = .ok (.lstore 8, 2) := by decide +kernel
theorem dX11_wrongWays_30 : decode cX11_wrongWays 30 = .ok (.lload 5, 2) := by decide +kernel
theorem dX11_wrongWays_32 : decode cX11_wrongWays 32 = .ok (.aload_n 0, 1) := by decide +kernel
theorem dX11_wrongWays_33 : decode cX11_wrongWays 33 = .ok (.iload 7, 2) := by decide +kernel
theorem dX11_wrongWays_35 : decode cX11_wrongWays 35 = .ok (.invokevirtual 143, 3) := by decide +kernel
theorem dX11_wrongWays_38 : decode cX11_wrongWays 38 = .ok (.ifCond .eq 8, 3) := by decide +kernel
theorem dX11_wrongWays_41 : decode cX11_wrongWays 41 = .ok (.lload 8, 2) := by decide +kernel
theorem dX11_wrongWays_43 : decode cX11_wrongWays 43 = .ok (.goto 7, 3) := by decide +kernel
theorem dX11_wrongWays_46 : decode cX11_wrongWays 46 = .ok (.lload_n 3, 1) := by decide +kernel
theorem dX11_wrongWays_47 : decode cX11_wrongWays 47 = .ok (.lload 8, 2) := by decide +kernel
theorem dX11_wrongWays_49 : decode cX11_wrongWays 49 = .ok (.lsub, 1) := by decide +kernel
theorem dX11_wrongWays_50 : decode cX11_wrongWays 50 = .ok (.ladd, 1) := by decide +kernel
theorem dX11_wrongWays_51 : decode cX11_wrongWays 51 = .ok (.lstore 5, 2) := by decide +kernel
theorem dX11_wrongWays_53 : decode cX11_wrongWays 53 = .ok (.iinc 7 1, 3) := by decide +kernel
theorem dX11_wrongWays_56 : decode cX11_wrongWays 56 = .ok (.goto (-45), 3) := by decide +kernel
theorem dX11_wrongWays_59 : decode cX11_wrongWays 59 = .ok (.lload 5, 2) := by decide +kernel
theorem dX11_wrongWays_61 : decode cX11_wrongWays 61 = .ok (.lreturn, 1) := by decide +kernel
theorem dX11_withdraws_0 : decode cX11_withdraws 0 = .ok (.lload_n 0, 1) := by decide +kernel
theorem dX11_withdraws_1 : decode cX11_withdraws 1 = .ok (.ldc2_w 357, 3) := by decide +kernel
theorem dX11_withdraws_4 : decode cX11_withdraws 4 = .ok (.lmul, 1) := by decide +kernel
theorem dX11_withdraws_5 : decode cX11_withdraws 5 = .ok (.iload_n 3, 1) := by decide +kernel
theorem dX11_withdraws_6 : decode cX11_withdraws 6 = .ok (.i2l, 1) := by decide +kernel
theorem dX11_withdraws_7 : decode cX11_withdraws 7 = .ok (.iload_n 2, 1) := by decide +kernel
theorem dX11_withdraws_8 : decode cX11_withdraws 8 = .ok (.invokestatic 191, 3) := by decide +kernel
theorem dX11_withdraws_11 : decode cX11_withdraws 11 = .ok (.lmul, 1) := by decide +kernel
theorem dX11_withdraws_12 : decode cX11_withdraws 12 = .ok (.lcmp, 1) := by decide +kernel
theorem dX11_withdraws_13 : decode cX11_withdraws 13 = .ok (.ifCond .ge 7, 3) := by decide +kernel
theorem dX11_withdraws_16 : decode cX11_withdraws 16 = .ok (.iconst 1, 1) := by decide +kernel
theorem dX11_withdraws_17 : decode cX11_withdraws 17 = .ok (.goto 4, 3) := by decide +kernel
theorem dX11_withdraws_20 : decode cX11_withdraws 20 = .ok (.iconst 0, 1) := by decide +kernel
theorem dX11_withdraws_21 : decode cX11_withdraws 21 = .ok (.ireturn, 1) := by decide +kernel
theorem dX11_letInByOneBall_0 : decode cX11_letInByOneBall 0 = .ok (.iconst 0, 1) := by decide +kernel
theorem dX11_letInByOneBall_1 : decode cX11_letInByOneBall 1 = .ok (.istore 5, 2) := by decide +kernel
theorem dX11_letInByOneBall_3 : decode cX11_letInByOneBall 3 = .ok (.iconst 0, 1) := by decide +kernel
theorem dX11_letInByOneBall_4 : decode cX11_letInByOneBall 4 = .ok (.istore 6, 2) := by decide +kernel
theorem dX11_letInByOneBall_6 : decode cX11_letInByOneBall 6 = .ok (.iload 6, 2) := by decide +kernel
theorem dX11_letInByOneBall_8 : decode cX11_letInByOneBall 8 = .ok (.aload_n 0, 1) := by decide +kernel
theorem dX11_letInByOneBall_9 : decode cX11_letInByOneBall 9 = .ok (.getfield 103, 3) := by decide +kernel
theorem dX11_letInByOneBall_12 : decode cX11_letInByOneBall 12 = .ok (.if_icmp .ge 39, 3) := by decide +kernel
theorem dX11_letInByOneBall_15 : decode cX11_letInByOneBall 15 = .ok (.iload 6, 2) := by decide +kernel
theorem dX11_letInByOneBall_17 : decode cX11_letInByOneBall 17 = .ok (.iload_n 3, 1) := by decide +kernel
theorem dX11_letInByOneBall_18 : decode cX11_letInByOneBall 18 = .ok (.if_icmp .eq 27, 3) := by decide +kernel
theorem dX11_letInByOneBall_21 : decode cX11_letInByOneBall 21 = .ok (.iload 6, 2) := by decide +kernel
theorem dX11_letInByOneBall_23 : decode cX11_letInByOneBall 23 = .ok (.iload 4, 2) := by decide +kernel
theorem dX11_letInByOneBall_25 : decode cX11_letInByOneBall 25 = .ok (.if_icmp .eq 20, 3) := by decide +kernel
theorem dX11_letInByOneBall_28 : decode cX11_letInByOneBall 28 = .ok (.aload_n 0, 1) := by decide +kernel
theorem dX11_letInByOneBall_29 : decode cX11_letInByOneBall 29 = .ok (.getfield 24, 3) := by decide +kernel
theorem dX11_letInByOneBall_32 : decode cX11_letInByOneBall 32 = .ok (.iload 6, 2) := by decide +kernel
theorem dX11_letInByOneBall_34 : decode cX11_letInByOneBall 34 = .ok (.aaload, 1) := by decide +kernel
theorem dX11_letInByOneBall_35 : decode cX11_letInByOneBall 35 = .ok (.iload_n 2, 1) := by decide +kernel
theorem dX11_letInByOneBall_36 : decode cX11_letInByOneBall 36 = .ok (.invokevirtual 340, 3) := by decide +kernel
theorem dX11_letInByOneBall_39 : decode cX11_letInByOneBall 39 = .ok (.ifCond .eq 6, 3) := by decide +kernel
theorem dX11_letInByOneBall_42 : decode cX11_letInByOneBall 42 = .ok (.iinc 5 1, 3) := by decide +kernel
theorem dX11_letInByOneBall_45 : decode cX11_letInByOneBall 45 = .ok (.iinc 6 1, 3) := by decide +kernel
theorem dX11_letInByOneBall_48 : decode cX11_letInByOneBall 48 = .ok (.goto (-42), 3) := by decide +kernel
theorem dX11_letInByOneBall_51 : decode cX11_letInByOneBall 51 = .ok (.aload_n 1, 1) := by decide +kernel
theorem dX11_letInByOneBall_52 : decode cX11_letInByOneBall 52 = .ok (.iload 5, 2) := by decide +kernel
theorem dX11_letInByOneBall_54 : decode cX11_letInByOneBall 54 = .ok (.aload_n 0, 1) := by decide +kernel
theorem dX11_letInByOneBall_55 : decode cX11_letInByOneBall 55 = .ok (.getfield 103, 3) := by decide +kernel
theorem dX11_letInByOneBall_58 : decode cX11_letInByOneBall 58 = .ok (.invokevirtual 363, 3) := by decide +kernel
theorem dX11_letInByOneBall_61 : decode cX11_letInByOneBall 61 = .ok (.ifCond .eq 7, 3) := by decide +kernel
theorem dX11_letInByOneBall_64 : decode cX11_letInByOneBall 64 = .ok (.iconst 1, 1) := by decide +kernel
theorem dX11_letInByOneBall_65 : decode cX11_letInByOneBall 65 = .ok (.goto 4, 3) := by decide +kernel
theorem dX11_letInByOneBall_68 : decode cX11_letInByOneBall 68 = .ok (.iconst 0, 1) := by decide +kernel
theorem dX11_letInByOneBall_69 : decode cX11_letInByOneBall 69 = .ok (.istore 6, 2) := by decide +kernel
theorem dX11_letInByOneBall_71 : decode cX11_letInByOneBall 71 = .ok (.aload_n 1, 1) := by decide +kernel
theorem dX11_letInByOneBall_72 : decode cX11_letInByOneBall 72 = .ok (.iload 5, 2) := by decide +kernel
theorem dX11_letInByOneBall_74 : decode cX11_letInByOneBall 74 = .ok (.iconst 1, 1) := by decide +kernel
theorem dX11_letInByOneBall_75 : decode cX11_letInByOneBall 75 = .ok (.iadd, 1) := by decide +kernel
theorem dX11_letInByOneBall_76 : decode cX11_letInByOneBall 76 = .ok (.aload_n 0, 1) := by decide +kernel
theorem dX11_letInByOneBall_77 : decode cX11_letInByOneBall 77 = .ok (.getfield 103, 3) := by decide +kernel
theorem dX11_letInByOneBall_80 : decode cX11_letInByOneBall 80 = .ok (.invokevirtual 363, 3) := by decide +kernel
theorem dX11_letInByOneBall_83 : decode cX11_letInByOneBall 83 = .ok (.ifCond .eq 7, 3) := by decide +kernel
theorem dX11_letInByOneBall_86 : decode cX11_letInByOneBall 86 = .ok (.iconst 2, 1) := by decide +kernel
theorem dX11_letInByOneBall_87 : decode cX11_letInByOneBall 87 = .ok (.goto 4, 3) := by decide +kernel
theorem dX11_letInByOneBall_90 : decode cX11_letInByOneBall 90 = .ok (.iconst 0, 1) := by decide +kernel
theorem dX11_letInByOneBall_91 : decode cX11_letInByOneBall 91 = .ok (.istore 7, 2) := by decide +kernel
theorem dX11_letInByOneBall_93 : decode cX11_letInByOneBall 93 = .ok (.iload 6, 2) := by decide +kernel
theorem dX11_letInByOneBall_95 : decode cX11_letInByOneBall 95 = .ok (.iload 7, 2) := by decide +kernel
theorem dX11_letInByOneBall_97 : decode cX11_letInByOneBall 97 = .ok (.ior, 1) := by decide +kernel
theorem dX11_letInByOneBall_98 : decode cX11_letInByOneBall 98 = .ok (.ireturn, 1) := by decide +kernel
theorem dX11_gain_0 : decode cX11_gain 0 = .ok (.iload 5, 2) := by decide +kernel
theorem dX11_gain_2 : decode cX11_gain 2 = .ok (.iconst 1, 1) := by decide +kernel
theorem dX11_gain_3 : decode cX11_gain 3 = .ok (.iand, 1) := by decide +kernel
theorem dX11_gain_4 : decode cX11_gain 4 = .ok (.istore 6, 2) := by decide +kernel
theorem dX11_gain_6 : decode cX11_gain 6 = .ok (.iload 5, 2) := by decide +kernel
theorem dX11_gain_8 : decode cX11_gain 8 = .ok (.iconst 1, 1) := by decide +kernel
theorem dX11_gain_9 : decode cX11_gain 9 = .ok (.ishr, 1) := by decide +kernel
theorem dX11_gain_10 : decode cX11_gain 10 = .ok (.iconst 1, 1) := by decide +kernel
theorem dX11_gain_11 : decode cX11_gain 11 = .ok (.iand, 1) := by decide +kernel
theorem dX11_gain_12 : decode cX11_gain 12 = .ok (.istore 7, 2) := by decide +kernel
theorem dX11_gain_14 : decode cX11_gain 14 = .ok (.iload_n 2, 1) := by decide +kernel
theorem dX11_gain_15 : decode cX11_gain 15 = .ok (.iload 7, 2) := by decide +kernel
theorem dX11_gain_17 : decode cX11_gain 17 = .ok (.ishr, 1) := by decide +kernel
theorem dX11_gain_18 : decode cX11_gain 18 = .ok (.iconst 1, 1) := by decide +kernel
theorem dX11_gain_19 : decode cX11_gain 19 = .ok (.iand, 1) := by decide +kernel
theorem dX11_gain_20 : decode cX11_gain 20 = .ok (.iconst 5, 1) := by decide +kernel
theorem dX11_gain_21 : decode cX11_gain 21 = .ok (.aload_n 0, 1) := by decide +kernel
theorem dX11_gain_22 : decode cX11_gain 22 = .ok (.iload_n 1, 1) := by decide +kernel
theorem dX11_gain_23 : decode cX11_gain 23 = .ok (.invokevirtual 133, 3) := by decide +kernel
theorem dX11_gain_26 : decode cX11_gain 26 = .ok (.isub, 1) := by decide +kernel
theorem dX11_gain_27 : decode cX11_gain 27 = .ok (.imul, 1) := by decide +kernel
theorem dX11_gain_28 : decode cX11_gain 28 = .ok (.istore 8, 2) := by decide +kernel
theorem dX11_gain_30 : decode cX11_gain 30 = .ok (.iload 4, 2) := by decide +kernel
theorem dX11_gain_32 : decode cX11_gain 32 = .ok (.iload 6, 2) := by decide +kernel
theorem dX11_gain_34 : decode cX11_gain 34 = .ok (.ishr, 1) := by decide +kernel
theorem dX11_gain_35 : decode cX11_gain 35 = .ok (.iconst 1, 1) := by decide +kernel
theorem dX11_gain_36 : decode cX11_gain 36 = .ok (.iand, 1) := by decide +kernel
theorem dX11_gain_37 : decode cX11_gain 37 = .ok (.iconst 5, 1) := by decide +kernel
theorem dX11_gain_38 : decode cX11_gain 38 = .ok (.aload_n 0, 1) := by decide +kernel
theorem dX11_gain_39 : decode cX11_gain 39 = .ok (.iload_n 3, 1) := by decide +kernel
theorem dX11_gain_40 : decode cX11_gain 40 = .ok (.invokevirtual 133, 3) := by decide +kernel
theorem dX11_gain_43 : decode cX11_gain 43 = .ok (.isub, 1) := by decide +kernel
theorem dX11_gain_44 : decode cX11_gain 44 = .ok (.imul, 1) := by decide +kernel
theorem dX11_gain_45 : decode cX11_gain 45 = .ok (.istore 9, 2) := by decide +kernel
theorem dX11_gain_47 : decode cX11_gain 47 = .ok (.iload 8, 2) := by decide +kernel
theorem dX11_gain_49 : decode cX11_gain 49 = .ok (.iload 9, 2) := by decide +kernel
theorem dX11_gain_51 : decode cX11_gain 51 = .ok (.iadd, 1) := by decide +kernel
theorem dX11_gain_52 : decode cX11_gain 52 = .ok (.ireturn, 1) := by decide +kernel
theorem dX11_expectVetoes_0 : decode cX11_expectVetoes 0 = .ok (.aload_n 0, 1) := by decide +kernel
theorem dX11_expectVetoes_1 : decode cX11_expectVetoes 1 = .ok (.getfield 60, 3) := by decide +kernel
theorem dX11_expectVetoes_4 : decode cX11_expectVetoes 4 = .ok (.lconst 0, 1) := by decide +kernel
theorem dX11_expectVetoes_5 : decode cX11_expectVetoes 5 = .ok (.invokestatic 366, 3) := by decide +kernel
theorem dX11_expectVetoes_8 : decode cX11_expectVetoes 8 = .ok (.lconst 1, 1) := by decide +kernel
