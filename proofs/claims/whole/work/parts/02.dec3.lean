theorem dX12_areThere_1 : decode cX12_areThere 1 = .ok (.iload_n 1, 1) := by decide +kernel
theorem dX12_areThere_2 : decode cX12_areThere 2 = .ok (.invokevirtual 113, 3) := by decide +kernel
theorem dX12_areThere_5 : decode cX12_areThere 5 = .ok (.ifCond .eq 15, 3) := by decide +kernel
theorem dX12_areThere_8 : decode cX12_areThere 8 = .ok (.aload_n 0, 1) := by decide +kernel
theorem dX12_areThere_9 : decode cX12_areThere 9 = .ok (.iload_n 2, 1) := by decide +kernel
theorem dX12_areThere_10 : decode cX12_areThere 10 = .ok (.invokevirtual 131, 3) := by decide +kernel
theorem dX12_areThere_13 : decode cX12_areThere 13 = .ok (.ifCond .eq 7, 3) := by decide +kernel
theorem dX12_areThere_16 : decode cX12_areThere 16 = .ok (.iconst 1, 1) := by decide +kernel
theorem dX12_areThere_17 : decode cX12_areThere 17 = .ok (.goto 4, 3) := by decide +kernel
theorem dX12_areThere_20 : decode cX12_areThere 20 = .ok (.iconst 0, 1) := by decide +kernel
theorem dX12_areThere_21 : decode cX12_areThere 21 = .ok (.ireturn, 1) := by decide +kernel
theorem dX12_balls_0 : decode cX12_balls 0 = .ok (.aload_n 0, 1) := by decide +kernel
theorem dX12_balls_1 : decode cX12_balls 1 = .ok (.iload_n 1, 1) := by decide +kernel
theorem dX12_balls_2 : decode cX12_balls 2 = .ok (.iload_n 2, 1) := by decide +kernel
theorem dX12_balls_3 : decode cX12_balls 3 = .ok (.invokevirtual 172, 3) := by decide +kernel
theorem dX12_balls_6 : decode cX12_balls 6 = .ok (.ifCond .ne 6, 3) := by decide +kernel
theorem dX12_balls_9 : decode cX12_balls 9 = .ok (.bipush (-101), 2) := by decide +kernel
theorem dX12_balls_11 : decode cX12_balls 11 = .ok (.ireturn, 1) := by decide +kernel
theorem dX12_balls_12 : decode cX12_balls 12 = .ok (.aload_n 0, 1) := by decide +kernel
theorem dX12_balls_13 : decode cX12_balls 13 = .ok (.iload_n 3, 1) := by decide +kernel
theorem dX12_balls_14 : decode cX12_balls 14 = .ok (.invokevirtual 143, 3) := by decide +kernel
theorem dX12_balls_17 : decode cX12_balls 17 = .ok (.ifCond .eq 22, 3) := by decide +kernel
theorem dX12_balls_20 : decode cX12_balls 20 = .ok (.iload 4, 2) := by decide +kernel
theorem dX12_balls_22 : decode cX12_balls 22 = .ok (.iconst 0, 1) := by decide +kernel
theorem dX12_balls_23 : decode cX12_balls 23 = .ok (.bipush 8, 2) := by decide +kernel
theorem dX12_balls_25 : decode cX12_balls 25 = .ok (.invokestatic 61, 3) := by decide +kernel
theorem dX12_balls_28 : decode cX12_balls 28 = .ok (.ifCond .eq 11, 3) := by decide +kernel
theorem dX12_balls_31 : decode cX12_balls 31 = .ok (.iload 5, 2) := by decide +kernel
theorem dX12_balls_33 : decode cX12_balls 33 = .ok (.invokestatic 175, 3) := by decide +kernel
theorem dX12_balls_36 : decode cX12_balls 36 = .ok (.ifCond .ne 6, 3) := by decide +kernel
theorem dX12_balls_39 : decode cX12_balls 39 = .ok (.bipush (-102), 2) := by decide +kernel
theorem dX12_balls_41 : decode cX12_balls 41 = .ok (.ireturn, 1) := by decide +kernel
theorem dX12_balls_42 : decode cX12_balls 42 = .ok (.aload_n 0, 1) := by decide +kernel
theorem dX12_balls_43 : decode cX12_balls 43 = .ok (.iload_n 1, 1) := by decide +kernel
theorem dX12_balls_44 : decode cX12_balls 44 = .ok (.iload_n 2, 1) := by decide +kernel
theorem dX12_balls_45 : decode cX12_balls 45 = .ok (.iload_n 3, 1) := by decide +kernel
theorem dX12_balls_46 : decode cX12_balls 46 = .ok (.iload_n 3, 1) := by decide +kernel
theorem dX12_balls_47 : decode cX12_balls 47 = .ok (.invokestatic 150, 3) := by decide +kernel
theorem dX12_balls_50 : decode cX12_balls 50 = .ok (.iconst (-1), 1) := by decide +kernel
theorem dX12_balls_51 : decode cX12_balls 51 = .ok (.invokevirtual 157, 3) := by decide +kernel
theorem dX12_balls_54 : decode cX12_balls 54 = .ok (.aload_n 0, 1) := by decide +kernel
theorem dX12_balls_55 : decode cX12_balls 55 = .ok (.getfield 51, 3) := by decide +kernel
theorem dX12_balls_58 : decode cX12_balls 58 = .ok (.iload 4, 2) := by decide +kernel
theorem dX12_balls_60 : decode cX12_balls 60 = .ok (.laload, 1) := by decide +kernel
theorem dX12_balls_61 : decode cX12_balls 61 = .ok (.iload_n 3, 1) := by decide +kernel
theorem dX12_balls_62 : decode cX12_balls 62 = .ok (.invokestatic 150, 3) := by decide +kernel
theorem dX12_balls_65 : decode cX12_balls 65 = .ok (.invokestatic 168, 3) := by decide +kernel
theorem dX12_balls_68 : decode cX12_balls 68 = .ok (.iload 5, 2) := by decide +kernel
theorem dX12_balls_70 : decode cX12_balls 70 = .ok (.invokestatic 178, 3) := by decide +kernel
theorem dX12_balls_73 : decode cX12_balls 73 = .ok (.l2i, 1) := by decide +kernel
theorem dX12_balls_74 : decode cX12_balls 74 = .ok (.ireturn, 1) := by decide +kernel
theorem dX12_in_0 : decode cX12_in 0 = .ok (.aload_n 0, 1) := by decide +kernel
theorem dX12_in_1 : decode cX12_in 1 = .ok (.iload_n 1, 1) := by decide +kernel
theorem dX12_in_2 : decode cX12_in 2 = .ok (.iload_n 2, 1) := by decide +kernel
theorem dX12_in_3 : decode cX12_in 3 = .ok (.invokevirtual 172, 3) := by decide +kernel
theorem dX12_in_6 : decode cX12_in 6 = .ok (.ifCond .ne 7, 3) := by decide +kernel
theorem dX12_in_9 : decode cX12_in 9 = .ok (.ldc2_w 182, 3) := by decide +kernel
theorem dX12_in_12 : decode cX12_in 12 = .ok (.lreturn, 1) := by decide +kernel
theorem dX12_in_13 : decode cX12_in 13 = .ok (.aload_n 0, 1) := by decide +kernel
theorem dX12_in_14 : decode cX12_in 14 = .ok (.iload_n 3, 1) := by decide +kernel
theorem dX12_in_15 : decode cX12_in 15 = .ok (.invokevirtual 143, 3) := by decide +kernel
theorem dX12_in_18 : decode cX12_in 18 = .ok (.ifCond .eq 11, 3) := by decide +kernel
theorem dX12_in_21 : decode cX12_in 21 = .ok (.iload 4, 2) := by decide +kernel
theorem dX12_in_23 : decode cX12_in 23 = .ok (.invokestatic 175, 3) := by decide +kernel
theorem dX12_in_26 : decode cX12_in 26 = .ok (.ifCond .ne 7, 3) := by decide +kernel
theorem dX12_in_29 : decode cX12_in 29 = .ok (.ldc2_w 184, 3) := by decide +kernel
theorem dX12_in_32 : decode cX12_in 32 = .ok (.lreturn, 1) := by decide +kernel
theorem dX12_in_33 : decode cX12_in 33 = .ok (.aload_n 0, 1) := by decide +kernel
theorem dX12_in_34 : decode cX12_in 34 = .ok (.iload_n 1, 1) := by decide +kernel
theorem dX12_in_35 : decode cX12_in 35 = .ok (.iload_n 2, 1) := by decide +kernel
theorem dX12_in_36 : decode cX12_in 36 = .ok (.iload_n 3, 1) := by decide +kernel
theorem dX12_in_37 : decode cX12_in 37 = .ok (.invokevirtual 186, 3) := by decide +kernel
theorem dX12_in_40 : decode cX12_in 40 = .ok (.iconst 2, 1) := by decide +kernel
theorem dX12_in_41 : decode cX12_in 41 = .ok (.iload_n 3, 1) := by decide +kernel
theorem dX12_in_42 : decode cX12_in 42 = .ok (.invokestatic 150, 3) := by decide +kernel
theorem dX12_in_45 : decode cX12_in 45 = .ok (.imul, 1) := by decide +kernel
theorem dX12_in_46 : decode cX12_in 46 = .ok (.invokestatic 168, 3) := by decide +kernel
theorem dX12_in_49 : decode cX12_in 49 = .ok (.iload 4, 2) := by decide +kernel
theorem dX12_in_51 : decode cX12_in 51 = .ok (.invokestatic 178, 3) := by decide +kernel
theorem dX12_in_54 : decode cX12_in 54 = .ok (.lreturn, 1) := by decide +kernel
theorem dX12_comesBy_0 : decode cX12_comesBy 0 = .ok (.lconst 1, 1) := by decide +kernel
theorem dX12_comesBy_1 : decode cX12_comesBy 1 = .ok (.lstore_n 2, 1) := by decide +kernel
theorem dX12_comesBy_2 : decode cX12_comesBy 2 = .ok (.iconst 0, 1) := by decide +kernel
theorem dX12_comesBy_3 : decode cX12_comesBy 3 = .ok (.istore 4, 2) := by decide +kernel
theorem dX12_comesBy_5 : decode cX12_comesBy 5 = .ok (.iload 4, 2) := by decide +kernel
theorem dX12_comesBy_7 : decode cX12_comesBy 7 = .ok (.aload_n 0, 1) := by decide +kernel
theorem dX12_comesBy_8 : decode cX12_comesBy 8 = .ok (.getfield 119, 3) := by decide +kernel
theorem dX12_comesBy_11 : decode cX12_comesBy 11 = .ok (.if_icmp .ge 43, 3) := by decide +kernel
theorem dX12_comesBy_14 : decode cX12_comesBy 14 = .ok (.lload_n 2, 1) := by decide +kernel
theorem dX12_comesBy_15 : decode cX12_comesBy 15 = .ok (.iload_n 1, 1) := by decide +kernel
theorem dX12_comesBy_16 : decode cX12_comesBy 16 = .ok (.iload 4, 2) := by decide +kernel
theorem dX12_comesBy_18 : decode cX12_comesBy 18 = .ok (.invokestatic 146, 3) := by decide +kernel
theorem dX12_comesBy_21 : decode cX12_comesBy 21 = .ok (.ifCond .eq 14, 3) := by decide +kernel
theorem dX12_comesBy_24 : decode cX12_comesBy 24 = .ok (.aload_n 0, 1) := by decide +kernel
theorem dX12_comesBy_25 : decode cX12_comesBy 25 = .ok (.getfield 16, 3) := by decide +kernel
theorem dX12_comesBy_28 : decode cX12_comesBy 28 = .ok (.iload 4, 2) := by decide +kernel
theorem dX12_comesBy_30 : decode cX12_comesBy 30 = .ok (.iaload, 1) := by decide +kernel
theorem dX12_comesBy_31 : decode cX12_comesBy 31 = .ok (.i2l, 1) := by decide +kernel
theorem dX12_comesBy_32 : decode cX12_comesBy 32 = .ok (.goto 14, 3) := by decide +kernel
theorem dX12_comesBy_35 : decode cX12_comesBy 35 = .ok (.bipush 10, 2) := by decide +kernel
theorem dX12_comesBy_37 : decode cX12_comesBy 37 = .ok (.aload_n 0, 1) := by decide +kernel
theorem dX12_comesBy_38 : decode cX12_comesBy 38 = .ok (.getfield 16, 3) := by decide +kernel
theorem dX12_comesBy_41 : decode cX12_comesBy 41 = .ok (.iload 4, 2) := by decide +kernel
theorem dX12_comesBy_43 : decode cX12_comesBy 43 = .ok (.iaload, 1) := by decide +kernel
theorem dX12_comesBy_44 : decode cX12_comesBy 44 = .ok (.isub, 1) := by decide +kernel
theorem dX12_comesBy_45 : decode cX12_comesBy 45 = .ok (.i2l, 1) := by decide +kernel
theorem dX12_comesBy_46 : decode cX12_comesBy 46 = .ok (.lmul, 1) := by decide +kernel
theorem dX12_comesBy_47 : decode cX12_comesBy 47 = .ok (.lstore_n 2, 1) := by decide +kernel
theorem dX12_comesBy_48 : decode cX12_comesBy 48 = .ok (.iinc 4 1, 3) := by decide +kernel
theorem dX12_comesBy_51 : decode cX12_comesBy 51 = .ok (.goto (-46), 3) := by decide +kernel
theorem dX12_comesBy_54 : decode cX12_comesBy 54 = .ok (.lload_n 2, 1) := by decide +kernel
theorem dX12_comesBy_55 : decode cX12_comesBy 55 = .ok (.lreturn, 1) := by decide +kernel
theorem dX12_large_0 : decode cX12_large 0 = .ok (.aload_n 0, 1) := by decide +kernel
theorem dX12_large_1 : decode cX12_large 1 = .ok (.iload_n 1, 1) := by decide +kernel
theorem dX12_large_2 : decode cX12_large 2 = .ok (.iload_n 2, 1) := by decide +kernel
theorem dX12_large_3 : decode cX12_large 3 = .ok (.invokevirtual 172, 3) := by decide +kernel
theorem dX12_large_6 : decode cX12_large 6 = .ok (.ifCond .ne 7, 3) := by decide +kernel
theorem dX12_large_9 : decode cX12_large 9 = .ok (.ldc2_w 182, 3) := by decide +kernel
theorem dX12_large_12 : decode cX12_large 12 = .ok (.lreturn, 1) := by decide +kernel
theorem dX12_large_13 : decode cX12_large 13 = .ok (.iload_n 3, 1) := by decide +kernel
theorem dX12_large_14 : decode cX12_large 14 = .ok (.invokestatic 175, 3) := by decide +kernel
theorem dX12_large_17 : decode cX12_large 17 = .ok (.ifCond .ne 7, 3) := by decide +kernel
theorem dX12_large_20 : decode cX12_large 20 = .ok (.ldc2_w 184, 3) := by decide +kernel
theorem dX12_large_23 : decode cX12_large 23 = .ok (.lreturn, 1) := by decide +kernel
theorem dX12_large_24 : decode cX12_large 24 = .ok (.aload_n 0, 1) := by decide +kernel
theorem dX12_large_25 : decode cX12_large 25 = .ok (.getfield 34, 3) := by decide +kernel
theorem dX12_large_28 : decode cX12_large 28 = .ok (.iload_n 1, 1) := by decide +kernel
theorem dX12_large_29 : decode cX12_large 29 = .ok (.baload, 1) := by decide +kernel
theorem dX12_large_30 : decode cX12_large 30 = .ok (.ifCond .ne 10, 3) := by decide +kernel
theorem dX12_large_33 : decode cX12_large 33 = .ok (.aload_n 0, 1) := by decide +kernel
theorem dX12_large_34 : decode cX12_large 34 = .ok (.getfield 119, 3) := by decide +kernel
theorem dX12_large_37 : decode cX12_large 37 = .ok (.ifCond .ne 7, 3) := by decide +kernel
theorem dX12_large_40 : decode cX12_large 40 = .ok (.ldc2_w 190, 3) := by decide +kernel
theorem dX12_large_43 : decode cX12_large 43 = .ok (.lreturn, 1) := by decide +kernel
theorem dX12_large_44 : decode cX12_large 44 = .ok (.lconst 0, 1) := by decide +kernel
theorem dX12_large_45 : decode cX12_large 45 = .ok (.lstore 4, 2) := by decide +kernel
theorem dX12_large_47 : decode cX12_large 47 = .ok (.iconst 1, 1) := by decide +kernel
theorem dX12_large_48 : decode cX12_large 48 = .ok (.istore 6, 2) := by decide +kernel
theorem dX12_large_50 : decode cX12_large 50 = .ok (.iload 6, 2) := by decide +kernel
theorem dX12_large_52 : decode cX12_large 52 = .ok (.iconst 1, 1) := by decide +kernel
theorem dX12_large_53 : decode cX12_large 53 = .ok (.aload_n 0, 1) := by decide +kernel
theorem dX12_large_54 : decode cX12_large 54 = .ok (.getfield 119, 3) := by decide +kernel
theorem dX12_large_57 : decode cX12_large 57 = .ok (.ishl, 1) := by decide +kernel
theorem dX12_large_58 : decode cX12_large 58 = .ok (.if_icmp .ge 72, 3) := by decide +kernel
theorem dX12_large_61 : decode cX12_large 61 = .ok (.iload 6, 2) := by decide +kernel
theorem dX12_large_63 : decode cX12_large 63 = .ok (.invokestatic 150, 3) := by decide +kernel
theorem dX12_large_66 : decode cX12_large 66 = .ok (.istore 7, 2) := by decide +kernel
theorem dX12_large_68 : decode cX12_large 68 = .ok (.iload 7, 2) := by decide +kernel
theorem dX12_large_70 : decode cX12_large 70 = .ok (.aload_n 0, 1) := by decide +kernel
theorem dX12_large_71 : decode cX12_large 71 = .ok (.getfield 31, 3) := by decide +kernel
theorem dX12_large_74 : decode cX12_large 74 = .ok (.iload_n 1, 1) := by decide +kernel
theorem dX12_large_75 : decode cX12_large 75 = .ok (.iaload, 1) := by decide +kernel
theorem dX12_large_76 : decode cX12_large 76 = .ok (.if_icmp .lt 48, 3) := by decide +kernel
theorem dX12_large_79 : decode cX12_large 79 = .ok (.iload 7, 2) := by decide +kernel
theorem dX12_large_81 : decode cX12_large 81 = .ok (.invokestatic 168, 3) := by decide +kernel
theorem dX12_large_84 : decode cX12_large 84 = .ok (.aload_n 0, 1) := by decide +kernel
theorem dX12_large_85 : decode cX12_large 85 = .ok (.iload_n 1, 1) := by decide +kernel
theorem dX12_large_86 : decode cX12_large 86 = .ok (.iload_n 2, 1) := by decide +kernel
theorem dX12_large_87 : decode cX12_large 87 = .ok (.iload 6, 2) := by decide +kernel
theorem dX12_large_89 : decode cX12_large 89 = .ok (.aload_n 0, 1) := by decide +kernel
theorem dX12_large_90 : decode cX12_large 90 = .ok (.getfield 119, 3) := by decide +kernel
theorem dX12_large_93 : decode cX12_large 93 = .ok (.invokevirtual 164, 3) := by decide +kernel
theorem dX12_large_96 : decode cX12_large 96 = .ok (.lsub, 1) := by decide +kernel
theorem dX12_large_97 : decode cX12_large 97 = .ok (.lstore 8, 2) := by decide +kernel
theorem dX12_large_99 : decode cX12_large 99 = .ok (.lload 4, 2) := by decide +kernel
theorem dX12_large_101 : decode cX12_large 101 = .ok (.aload_n 0, 1) := by decide +kernel
theorem dX12_large_102 : decode cX12_large 102 = .ok (.iload 6, 2) := by decide +kernel
theorem dX12_large_104 : decode cX12_large 104 = .ok (.invokevirtual 192, 3) := by decide +kernel
theorem dX12_large_107 : decode cX12_large 107 = .ok (.lload 8, 2) := by decide +kernel
theorem dX12_large_109 : decode cX12_large 109 = .ok (.lmul, 1) := by decide +kernel
theorem dX12_large_110 : decode cX12_large 110 = .ok (.aload_n 0, 1) := by decide +kernel
theorem dX12_large_111 : decode cX12_large 111 = .ok (.getfield 119, 3) := by decide +kernel
theorem dX12_large_114 : decode cX12_large 114 = .ok (.iload 7, 2) := by decide +kernel
theorem dX12_large_116 : decode cX12_large 116 = .ok (.isub, 1) := by decide +kernel
theorem dX12_large_117 : decode cX12_large 117 = .ok (.invokestatic 168, 3) := by decide +kernel
theorem dX12_large_120 : decode cX12_large 120 = .ok (.lmul, 1) := by decide +kernel
theorem dX12_large_121 : decode cX12_large 121 = .ok (.ladd, 1) := by decide +kernel
theorem dX12_large_122 : decode cX12_large 122 = .ok (.lstore 4, 2) := by decide +kernel
theorem dX12_large_124 : decode cX12_large 124 = .ok (.iinc 6 1, 3) := by decide +kernel
theorem dX12_large_127 : decode cX12_large 127 = .ok (.goto (-77), 3) := by decide +kernel
theorem dX12_large_130 : decode cX12_large 130 = .ok (.lload 4, 2) := by decide +kernel
theorem dX12_large_132 : decode cX12_large 132 = .ok (.iconst 2, 1) := by decide +kernel
theorem dX12_large_133 : decode cX12_large 133 = .ok (.aload_n 0, 1) := by decide +kernel
theorem dX12_large_134 : decode cX12_large 134 = .ok (.getfield 119, 3) := by decide +kernel
theorem dX12_large_137 : decode cX12_large 137 = .ok (.imul, 1) := by decide +kernel
theorem dX12_large_138 : decode cX12_large 138 = .ok (.invokestatic 168, 3) := by decide +kernel
theorem dX12_large_141 : decode cX12_large 141 = .ok (.iload_n 3, 1) := by decide +kernel
theorem dX12_large_142 : decode cX12_large 142 = .ok (.invokestatic 178, 3) := by decide +kernel
theorem dX12_large_145 : decode cX12_large 145 = .ok (.lreturn, 1) := by decide +kernel
theorem dX12_wrongBy_0 : decode cX12_wrongBy 0 = .ok (.lconst 0, 1) := by decide +kernel
theorem dX12_wrongBy_1 : decode cX12_wrongBy 1 = .ok (.lstore_n 3, 1) := by decide +kernel
theorem dX12_wrongBy_2 : decode cX12_wrongBy 2 = .ok (.iconst 0, 1) := by decide +kernel
theorem dX12_wrongBy_3 : decode cX12_wrongBy 3 = .ok (.istore 5, 2) := by decide +kernel
theorem dX12_wrongBy_5 : decode cX12_wrongBy 5 = .ok (.iload 5, 2) := by decide +kernel
theorem dX12_wrongBy_7 : decode cX12_wrongBy 7 = .ok (.aload_n 0, 1) := by decide +kernel
theorem dX12_wrongBy_8 : decode cX12_wrongBy 8 = .ok (.getfield 122, 3) := by decide +kernel
theorem dX12_wrongBy_11 : decode cX12_wrongBy 11 = .ok (.if_icmp .ge 48, 3) := by decide +kernel
theorem dX12_wrongBy_14 : decode cX12_wrongBy 14 = .ok (.aload_n 0, 1) := by decide +kernel
theorem dX12_wrongBy_15 : decode cX12_wrongBy 15 = .ok (.iload_n 1, 1) := by decide +kernel
theorem dX12_wrongBy_16 : decode cX12_wrongBy 16 = .ok (.iload 5, 2) := by decide +kernel
theorem dX12_wrongBy_18 : decode cX12_wrongBy 18 = .ok (.iload_n 2, 1) := by decide +kernel
theorem dX12_wrongBy_19 : decode cX12_wrongBy 19 = .ok (.invokevirtual 186, 3) := by decide +kernel
theorem dX12_wrongBy_22 : decode cX12_wrongBy 22 = .ok (.lstore 6, 2) := by decide +kernel
theorem dX12_wrongBy_24 : decode cX12_wrongBy 24 = .ok (.lload_n 3, 1) := by decide +kernel
theorem dX12_wrongBy_25 : decode cX12_wrongBy 25 = .ok (.aload_n 0, 1) := by decide +kernel
theorem dX12_wrongBy_26 : decode cX12_wrongBy 26 = .ok (.iload 5, 2) := by decide +kernel
theorem dX12_wrongBy_28 : decode cX12_wrongBy 28 = .ok (.invokevirtual 137, 3) := by decide +kernel
theorem dX12_wrongBy_31 : decode cX12_wrongBy 31 = .ok (.ifCond .eq 8, 3) := by decide +kernel
theorem dX12_wrongBy_34 : decode cX12_wrongBy 34 = .ok (.lload 6, 2) := by decide +kernel
theorem dX12_wrongBy_36 : decode cX12_wrongBy 36 = .ok (.goto 15, 3) := by decide +kernel
theorem dX12_wrongBy_39 : decode cX12_wrongBy 39 = .ok (.iconst 2, 1) := by decide +kernel
theorem dX12_wrongBy_40 : decode cX12_wrongBy 40 = .ok (.iload_n 2, 1) := by decide +kernel
theorem dX12_wrongBy_41 : decode cX12_wrongBy 41 = .ok (.invokestatic 150, 3) := by decide +kernel
theorem dX12_wrongBy_44 : decode cX12_wrongBy 44 = .ok (.imul, 1) := by decide +kernel
theorem dX12_wrongBy_45 : decode cX12_wrongBy 45 = .ok (.invokestatic 168, 3) := by decide +kernel
theorem dX12_wrongBy_48 : decode cX12_wrongBy 48 = .ok (.lload 6, 2) := by decide +kernel
theorem dX12_wrongBy_50 : decode cX12_wrongBy 50 = .ok (.lsub, 1) := by decide +kernel
theorem dX12_wrongBy_51 : decode cX12_wrongBy 51 = .ok (.ladd, 1) := by decide +kernel
theorem dX12_wrongBy_52 : decode cX12_wrongBy 52 = .ok (.lstore_n 3, 1) := by decide +kernel
theorem dX12_wrongBy_53 : decode cX12_wrongBy 53 = .ok (.iinc 5 1, 3) := by decide +kernel
theorem dX12_wrongBy_56 : decode cX12_wrongBy 56 = .ok (.goto (-51), 3) := by decide +kernel
theorem dX12_wrongBy_59 : decode cX12_wrongBy 59 = .ok (.lload_n 3, 1) := by decide +kernel
theorem dX12_wrongBy_60 : decode cX12_wrongBy 60 = .ok (.lreturn, 1) := by decide +kernel
theorem dX12_wrong_0 : decode cX12_wrong 0 = .ok (.aload_n 0, 1) := by decide +kernel
theorem dX12_wrong_1 : decode cX12_wrong 1 = .ok (.iload_n 1, 1) := by decide +kernel
theorem dX12_wrong_2 : decode cX12_wrong 2 = .ok (.invokevirtual 113, 3) := by decide +kernel
theorem dX12_wrong_5 : decode cX12_wrong 5 = .ok (.ifCond .ne 7, 3) := by decide +kernel
theorem dX12_wrong_8 : decode cX12_wrong 8 = .ok (.ldc2_w 182, 3) := by decide +kernel
theorem dX12_wrong_11 : decode cX12_wrong 11 = .ok (.lreturn, 1) := by decide +kernel
theorem dX12_wrong_12 : decode cX12_wrong 12 = .ok (.aload_n 0, 1) := by decide +kernel
theorem dX12_wrong_13 : decode cX12_wrong 13 = .ok (.iload_n 2, 1) := by decide +kernel
theorem dX12_wrong_14 : decode cX12_wrong 14 = .ok (.invokevirtual 143, 3) := by decide +kernel
theorem dX12_wrong_17 : decode cX12_wrong 17 = .ok (.ifCond .eq 12, 3) := by decide +kernel
theorem dX12_wrong_20 : decode cX12_wrong 20 = .ok (.aload_n 0, 1) := by decide +kernel
theorem dX12_wrong_21 : decode cX12_wrong 21 = .ok (.iload_n 1, 1) := by decide +kernel
theorem dX12_wrong_22 : decode cX12_wrong 22 = .ok (.iload_n 2, 1) := by decide +kernel
theorem dX12_wrong_23 : decode cX12_wrong 23 = .ok (.invokevirtual 195, 3) := by decide +kernel
theorem dX12_wrong_26 : decode cX12_wrong 26 = .ok (.goto 6, 3) := by decide +kernel
theorem dX12_wrong_29 : decode cX12_wrong 29 = .ok (.ldc2_w 184, 3) := by decide +kernel
theorem dX12_wrong_32 : decode cX12_wrong 32 = .ok (.lreturn, 1) := by decide +kernel
theorem dX12_best_0 : decode cX12_best 0 = .ok (.aload_n 0, 1) := by decide +kernel
theorem dX12_best_1 : decode cX12_best 1 = .ok (.iload_n 1, 1) := by decide +kernel
theorem dX12_best_2 : decode cX12_best 2 = .ok (.invokevirtual 143, 3) := by decide +kernel
theorem dX12_best_5 : decode cX12_best 5 = .ok (.ifCond .ne 6, 3) := by decide +kernel
theorem dX12_best_8 : decode cX12_best 8 = .ok (.bipush (-102), 2) := by decide +kernel
theorem dX12_best_10 : decode cX12_best 10 = .ok (.ireturn, 1) := by decide +kernel
theorem dX12_best_11 : decode cX12_best 11 = .ok (.iconst (-1), 1) := by decide +kernel
theorem dX12_best_12 : decode cX12_best 12 = .ok (.istore_n 2, 1) := by decide +kernel
theorem dX12_best_13 : decode cX12_best 13 = .ok (.lconst 0, 1) := by decide +kernel
theorem dX12_best_14 : decode cX12_best 14 = .ok (.lstore_n 3, 1) := by decide +kernel
theorem dX12_best_15 : decode cX12_best 15 = .ok (.iconst 0, 1) := by decide +kernel
theorem dX12_best_16 : decode cX12_best 16 = .ok (.istore 5, 2) := by decide +kernel
theorem dX12_best_18 : decode cX12_best 18 = .ok (.iload 5, 2) := by decide +kernel
theorem dX12_best_20 : decode cX12_best 20 = .ok (.aload_n 0, 1) := by decide +kernel
theorem dX12_best_21 : decode cX12_best 21 = .ok (.getfield 110, 3) := by decide +kernel
theorem dX12_best_24 : decode cX12_best 24 = .ok (.if_icmp .ge 61, 3) := by decide +kernel
theorem dX12_best_27 : decode cX12_best 27 = .ok (.aload_n 0, 1) := by decide +kernel
theorem dX12_best_28 : decode cX12_best 28 = .ok (.iload 5, 2) := by decide +kernel
theorem dX12_best_30 : decode cX12_best 30 = .ok (.iload_n 1, 1) := by decide +kernel
theorem dX12_best_31 : decode cX12_best 31 = .ok (.invokevirtual 195, 3) := by decide +kernel
theorem dX12_best_34 : decode cX12_best 34 = .ok (.lstore 6, 2) := by decide +kernel
theorem dX12_best_36 : decode cX12_best 36 = .ok (.iload_n 2, 1) := by decide +kernel
theorem dX12_best_37 : decode cX12_best 37 = .ok (.iconst (-1), 1) := by decide +kernel
theorem dX12_best_38 : decode cX12_best 38 = .ok (.if_icmp .eq 10, 3) := by decide +kernel
theorem dX12_best_41 : decode cX12_best 41 = .ok (.lload 6, 2) := by decide +kernel
theorem dX12_best_43 : decode cX12_best 43 = .ok (.lload_n 3, 1) := by decide +kernel
theorem dX12_best_44 : decode cX12_best 44 = .ok (.lcmp, 1) := by decide +kernel
theorem dX12_best_45 : decode cX12_best 45 = .ok (.ifCond .ge 7, 3) := by decide +kernel
theorem dX12_best_48 : decode cX12_best 48 = .ok (.iconst 1, 1) := by decide +kernel
theorem dX12_best_49 : decode cX12_best 49 = .ok (.goto 4, 3) := by decide +kernel
theorem dX12_best_52 : decode cX12_best 52 = .ok (.iconst 0, 1) := by decide +kernel
theorem dX12_best_53 : decode cX12_best 53 = .ok (.istore 8, 2) := by decide +kernel
theorem dX12_best_55 : decode cX12_best 55 = .ok (.iload 8, 2) := by decide +kernel
theorem dX12_best_57 : decode cX12_best 57 = .ok (.ifCond .eq 8, 3) := by decide +kernel
theorem dX12_best_60 : decode cX12_best 60 = .ok (.iload 5, 2) := by decide +kernel
theorem dX12_best_62 : decode cX12_best 62 = .ok (.goto 4, 3) := by decide +kernel
theorem dX12_best_65 : decode cX12_best 65 = .ok (.iload_n 2, 1) := by decide +kernel
theorem dX12_best_66 : decode cX12_best 66 = .ok (.istore_n 2, 1) := by decide +kernel
theorem dX12_best_67 : decode cX12_best 67 = .ok (.iload 8, 2) := by decide +kernel
theorem dX12_best_69 : decode cX12_best 69 = .ok (.ifCond .eq 8, 3) := by decide +kernel
theorem dX12_best_72 : decode cX12_best 72 = .ok (.lload 6, 2) := by decide +kernel
theorem dX12_best_74 : decode cX12_best 74 = .ok (.goto 4, 3) := by decide +kernel
theorem dX12_best_77 : decode cX12_best 77 = .ok (.lload_n 3, 1) := by decide +kernel
theorem dX12_best_78 : decode cX12_best 78 = .ok (.lstore_n 3, 1) := by decide +kernel
theorem dX12_best_79 : decode cX12_best 79 = .ok (.iinc 5 1, 3) := by decide +kernel
theorem dX12_best_82 : decode cX12_best 82 = .ok (.goto (-64), 3) := by decide +kernel
theorem dX12_best_85 : decode cX12_best 85 = .ok (.iload_n 2, 1) := by decide +kernel
theorem dX12_best_86 : decode cX12_best 86 = .ok (.ireturn, 1) := by decide +kernel
theorem dX12_isAsked_0 : decode cX12_isAsked 0 = .ok (.aload_n 0, 1) := by decide +kernel
theorem dX12_isAsked_1 : decode cX12_isAsked 1 = .ok (.iload_n 1, 1) := by decide +kernel
theorem dX12_isAsked_2 : decode cX12_isAsked 2 = .ok (.invokevirtual 143, 3) := by decide +kernel
theorem dX12_isAsked_5 : decode cX12_isAsked 5 = .ok (.ifCond .eq 22, 3) := by decide +kernel
theorem dX12_isAsked_8 : decode cX12_isAsked 8 = .ok (.iload_n 1, 1) := by decide +kernel
theorem dX12_isAsked_9 : decode cX12_isAsked 9 = .ok (.iload_n 2, 1) := by decide +kernel
theorem dX12_isAsked_10 : decode cX12_isAsked 10 = .ok (.invokestatic 146, 3) := by decide +kernel
theorem dX12_isAsked_13 : decode cX12_isAsked 13 = .ok (.ifCond .eq 14, 3) := by decide +kernel
theorem dX12_isAsked_16 : decode cX12_isAsked 16 = .ok (.iload_n 3, 1) := by decide +kernel
theorem dX12_isAsked_17 : decode cX12_isAsked 17 = .ok (.invokestatic 175, 3) := by decide +kernel
theorem dX12_isAsked_20 : decode cX12_isAsked 20 = .ok (.ifCond .eq 7, 3) := by decide +kernel
theorem dX12_isAsked_23 : decode cX12_isAsked 23 = .ok (.iconst 1, 1) := by decide +kernel
theorem dX12_isAsked_24 : decode cX12_isAsked 24 = .ok (.goto 4, 3) := by decide +kernel
theorem dX12_isAsked_27 : decode cX12_isAsked 27 = .ok (.iconst 0, 1) := by decide +kernel
theorem dX12_isAsked_28 : decode cX12_isAsked 28 = .ok (.ireturn, 1) := by decide +kernel
theorem dX12_who_0 : decode cX12_who 0 = .ok (.aload_n 0, 1) := by decide +kernel
theorem dX12_who_1 : decode cX12_who 1 = .ok (.iload_n 1, 1) := by decide +kernel
theorem dX12_who_2 : decode cX12_who 2 = .ok (.iload_n 2, 1) := by decide +kernel
theorem dX12_who_3 : decode cX12_who 3 = .ok (.invokevirtual 172, 3) := by decide +kernel
theorem dX12_who_6 : decode cX12_who 6 = .ok (.ifCond .eq 12, 3) := by decide +kernel
theorem dX12_who_9 : decode cX12_who 9 = .ok (.aload_n 0, 1) := by decide +kernel
theorem dX12_who_10 : decode cX12_who 10 = .ok (.iload 4, 2) := by decide +kernel
theorem dX12_who_12 : decode cX12_who 12 = .ok (.invokevirtual 125, 3) := by decide +kernel
theorem dX12_who_15 : decode cX12_who 15 = .ok (.ifCond .ne 6, 3) := by decide +kernel
theorem dX12_who_18 : decode cX12_who 18 = .ok (.bipush (-101), 2) := by decide +kernel
theorem dX12_who_20 : decode cX12_who 20 = .ok (.ireturn, 1) := by decide +kernel
theorem dX12_who_21 : decode cX12_who 21 = .ok (.aload_n 0, 1) := by decide +kernel
theorem dX12_who_22 : decode cX12_who 22 = .ok (.iload_n 3, 1) := by decide +kernel
theorem dX12_who_23 : decode cX12_who 23 = .ok (.iload 4, 2) := by decide +kernel
theorem dX12_who_25 : decode cX12_who 25 = .ok (.iload 6, 2) := by decide +kernel
theorem dX12_who_27 : decode cX12_who 27 = .ok (.invokevirtual 199, 3) := by decide +kernel
theorem dX12_who_30 : decode cX12_who 30 = .ok (.ifCond .eq 14, 3) := by decide +kernel
theorem dX12_who_33 : decode cX12_who 33 = .ok (.iload 5, 2) := by decide +kernel
theorem dX12_who_35 : decode cX12_who 35 = .ok (.iconst (-1), 1) := by decide +kernel
theorem dX12_who_36 : decode cX12_who 36 = .ok (.bipush 8, 2) := by decide +kernel
theorem dX12_who_38 : decode cX12_who 38 = .ok (.invokestatic 61, 3) := by decide +kernel
theorem dX12_who_41 : decode cX12_who 41 = .ok (.ifCond .ne 6, 3) := by decide +kernel
theorem dX12_who_44 : decode cX12_who 44 = .ok (.bipush (-102), 2) := by decide +kernel
theorem dX12_who_46 : decode cX12_who 46 = .ok (.ireturn, 1) := by decide +kernel
theorem dX12_who_47 : decode cX12_who 47 = .ok (.iload_n 3, 1) := by decide +kernel
theorem dX12_who_48 : decode cX12_who 48 = .ok (.invokestatic 150, 3) := by decide +kernel
theorem dX12_who_51 : decode cX12_who 51 = .ok (.istore 7, 2) := by decide +kernel
theorem dX12_who_53 : decode cX12_who 53 = .ok (.aload_n 0, 1) := by decide +kernel
theorem dX12_who_54 : decode cX12_who 54 = .ok (.iload_n 1, 1) := by decide +kernel
theorem dX12_who_55 : decode cX12_who 55 = .ok (.iload_n 2, 1) := by decide +kernel
theorem dX12_who_56 : decode cX12_who 56 = .ok (.iload 7, 2) := by decide +kernel
theorem dX12_who_58 : decode cX12_who 58 = .ok (.iload 4, 2) := by decide +kernel
theorem dX12_who_60 : decode cX12_who 60 = .ok (.invokevirtual 153, 3) := by decide +kernel
theorem dX12_who_63 : decode cX12_who 63 = .ok (.istore 8, 2) := by decide +kernel
theorem dX12_who_65 : decode cX12_who 65 = .ok (.aload_n 0, 1) := by decide +kernel
theorem dX12_who_66 : decode cX12_who 66 = .ok (.iload_n 1, 1) := by decide +kernel
theorem dX12_who_67 : decode cX12_who 67 = .ok (.iload_n 2, 1) := by decide +kernel
theorem dX12_who_68 : decode cX12_who 68 = .ok (.iload_n 3, 1) := by decide +kernel
theorem dX12_who_69 : decode cX12_who 69 = .ok (.iload 7, 2) := by decide +kernel
theorem dX12_who_71 : decode cX12_who 71 = .ok (.iload 4, 2) := by decide +kernel
theorem dX12_who_73 : decode cX12_who 73 = .ok (.invokevirtual 157, 3) := by decide +kernel
theorem dX12_who_76 : decode cX12_who 76 = .ok (.lconst 0, 1) := by decide +kernel
theorem dX12_who_77 : decode cX12_who 77 = .ok (.lstore 9, 2) := by decide +kernel
theorem dX12_who_79 : decode cX12_who 79 = .ok (.lconst 0, 1) := by decide +kernel
theorem dX12_who_80 : decode cX12_who 80 = .ok (.lstore 11, 2) := by decide +kernel
theorem dX12_who_82 : decode cX12_who 82 = .ok (.iconst 0, 1) := by decide +kernel
theorem dX12_who_83 : decode cX12_who 83 = .ok (.istore 13, 2) := by decide +kernel
theorem dX12_who_85 : decode cX12_who 85 = .ok (.iload 13, 2) := by decide +kernel
theorem dX12_who_87 : decode cX12_who 87 = .ok (.bipush 9, 2) := by decide +kernel
theorem dX12_who_89 : decode cX12_who 89 = .ok (.if_icmp .ge 112, 3) := by decide +kernel
theorem dX12_who_92 : decode cX12_who 92 = .ok (.iload 5, 2) := by decide +kernel
theorem dX12_who_94 : decode cX12_who 94 = .ok (.iconst (-1), 1) := by decide +kernel
theorem dX12_who_95 : decode cX12_who 95 = .ok (.if_icmp .ne 15, 3) := by decide +kernel
theorem dX12_who_98 : decode cX12_who 98 = .ok (.aload_n 0, 1) := by decide +kernel
theorem dX12_who_99 : decode cX12_who 99 = .ok (.iload_n 1, 1) := by decide +kernel
theorem dX12_who_100 : decode cX12_who 100 = .ok (.iload 13, 2) := by decide +kernel
theorem dX12_who_102 : decode cX12_who 102 = .ok (.iload 7, 2) := by decide +kernel
theorem dX12_who_104 : decode cX12_who 104 = .ok (.invokevirtual 161, 3) := by decide +kernel
theorem dX12_who_107 : decode cX12_who 107 = .ok (.goto 15, 3) := by decide +kernel
theorem dX12_who_110 : decode cX12_who 110 = .ok (.iload 13, 2) := by decide +kernel
theorem dX12_who_112 : decode cX12_who 112 = .ok (.iload 5, 2) := by decide +kernel
theorem dX12_who_114 : decode cX12_who 114 = .ok (.if_icmp .ne 7, 3) := by decide +kernel
theorem dX12_who_117 : decode cX12_who 117 = .ok (.iconst 1, 1) := by decide +kernel
theorem dX12_who_118 : decode cX12_who 118 = .ok (.goto 4, 3) := by decide +kernel
theorem dX12_who_121 : decode cX12_who 121 = .ok (.iconst 0, 1) := by decide +kernel
theorem dX12_who_122 : decode cX12_who 122 = .ok (.istore 14, 2) := by decide +kernel
theorem dX12_who_124 : decode cX12_who 124 = .ok (.iload 13, 2) := by decide +kernel
theorem dX12_who_126 : decode cX12_who 126 = .ok (.ifCond .ne 7, 3) := by decide +kernel
theorem dX12_who_129 : decode cX12_who 129 = .ok (.lconst 0, 1) := by decide +kernel
theorem dX12_who_130 : decode cX12_who 130 = .ok (.goto 16, 3) := by decide +kernel
theorem dX12_who_133 : decode cX12_who 133 = .ok (.aload_n 0, 1) := by decide +kernel
theorem dX12_who_134 : decode cX12_who 134 = .ok (.getfield 51, 3) := by decide +kernel
theorem dX12_who_137 : decode cX12_who 137 = .ok (.iload 13, 2) := by decide +kernel
theorem dX12_who_139 : decode cX12_who 139 = .ok (.iconst 1, 1) := by decide +kernel
theorem dX12_who_140 : decode cX12_who 140 = .ok (.isub, 1) := by decide +kernel
theorem dX12_who_141 : decode cX12_who 141 = .ok (.laload, 1) := by decide +kernel
theorem dX12_who_142 : decode cX12_who 142 = .ok (.iload 8, 2) := by decide +kernel
theorem dX12_who_144 : decode cX12_who 144 = .ok (.i2l, 1) := by decide +kernel
theorem dX12_who_145 : decode cX12_who 145 = .ok (.lmul, 1) := by decide +kernel
theorem dX12_who_146 : decode cX12_who 146 = .ok (.lstore 15, 2) := by decide +kernel
theorem dX12_who_148 : decode cX12_who 148 = .ok (.lload 9, 2) := by decide +kernel
theorem dX12_who_150 : decode cX12_who 150 = .ok (.iload 14, 2) := by decide +kernel
theorem dX12_who_152 : decode cX12_who 152 = .ok (.ifCond .eq 8, 3) := by decide +kernel
theorem dX12_who_155 : decode cX12_who 155 = .ok (.lload 15, 2) := by decide +kernel
theorem dX12_who_157 : decode cX12_who 157 = .ok (.goto 4, 3) := by decide +kernel
theorem dX12_who_160 : decode cX12_who 160 = .ok (.lconst 0, 1) := by decide +kernel
theorem dX12_who_161 : decode cX12_who 161 = .ok (.ladd, 1) := by decide +kernel
theorem dX12_who_162 : decode cX12_who 162 = .ok (.lstore 9, 2) := by decide +kernel
theorem dX12_who_164 : decode cX12_who 164 = .ok (.lload 11, 2) := by decide +kernel
theorem dX12_who_166 : decode cX12_who 166 = .ok (.iload 14, 2) := by decide +kernel
theorem dX12_who_168 : decode cX12_who 168 = .ok (.ifCond .eq 23, 3) := by decide +kernel
theorem dX12_who_171 : decode cX12_who 171 = .ok (.lload 15, 2) := by decide +kernel
theorem dX12_who_173 : decode cX12_who 173 = .ok (.aload_n 0, 1) := by decide +kernel
theorem dX12_who_174 : decode cX12_who 174 = .ok (.getfield 51, 3) := by decide +kernel
theorem dX12_who_177 : decode cX12_who 177 = .ok (.iload 13, 2) := by decide +kernel
theorem dX12_who_179 : decode cX12_who 179 = .ok (.laload, 1) := by decide +kernel
theorem dX12_who_180 : decode cX12_who 180 = .ok (.bipush 10, 2) := by decide +kernel
theorem dX12_who_182 : decode cX12_who 182 = .ok (.iload 8, 2) := by decide +kernel
theorem dX12_who_184 : decode cX12_who 184 = .ok (.isub, 1) := by decide +kernel
theorem dX12_who_185 : decode cX12_who 185 = .ok (.i2l, 1) := by decide +kernel
theorem dX12_who_186 : decode cX12_who 186 = .ok (.lmul, 1) := by decide +kernel
theorem dX12_who_187 : decode cX12_who 187 = .ok (.ladd, 1) := by decide +kernel
theorem dX12_who_188 : decode cX12_who 188 = .ok (.goto 4, 3) := by decide +kernel
theorem dX12_who_191 : decode cX12_who 191 = .ok (.lconst 0, 1) := by decide +kernel
theorem dX12_who_192 : decode cX12_who 192 = .ok (.ladd, 1) := by decide +kernel
theorem dX12_who_193 : decode cX12_who 193 = .ok (.lstore 11, 2) := by decide +kernel
theorem dX12_who_195 : decode cX12_who 195 = .ok (.iinc 13 1, 3) := by decide +kernel
theorem dX12_who_198 : decode cX12_who 198 = .ok (.goto (-113), 3) := by decide +kernel
theorem dX12_who_201 : decode cX12_who 201 = .ok (.lload 11, 2) := by decide +kernel
theorem dX12_who_203 : decode cX12_who 203 = .ok (.lconst 0, 1) := by decide +kernel
theorem dX12_who_204 : decode cX12_who 204 = .ok (.lcmp, 1) := by decide +kernel
theorem dX12_who_205 : decode cX12_who 205 = .ok (.ifCond .ne 7, 3) := by decide +kernel
theorem dX12_who_208 : decode cX12_who 208 = .ok (.iconst (-1), 1) := by decide +kernel
theorem dX12_who_209 : decode cX12_who 209 = .ok (.goto 13, 3) := by decide +kernel
theorem dX12_who_212 : decode cX12_who 212 = .ok (.lload 9, 2) := by decide +kernel
theorem dX12_who_214 : decode cX12_who 214 = .ok (.lload 11, 2) := by decide +kernel
theorem dX12_who_216 : decode cX12_who 216 = .ok (.iload 6, 2) := by decide +kernel
theorem dX12_who_218 : decode cX12_who 218 = .ok (.invokestatic 178, 3) := by decide +kernel
theorem dX12_who_221 : decode cX12_who 221 = .ok (.l2i, 1) := by decide +kernel
theorem dX12_who_222 : decode cX12_who 222 = .ok (.ireturn, 1) := by decide +kernel
theorem dX12_heard_0 : decode cX12_heard 0 = .ok (.aload_n 0, 1) := by decide +kernel
theorem dX12_heard_1 : decode cX12_heard 1 = .ok (.iload_n 1, 1) := by decide +kernel
theorem dX12_heard_2 : decode cX12_heard 2 = .ok (.iload_n 2, 1) := by decide +kernel
theorem dX12_heard_3 : decode cX12_heard 3 = .ok (.invokevirtual 172, 3) := by decide +kernel
theorem dX12_heard_6 : decode cX12_heard 6 = .ok (.ifCond .eq 12, 3) := by decide +kernel
theorem dX12_heard_9 : decode cX12_heard 9 = .ok (.aload_n 0, 1) := by decide +kernel
theorem dX12_heard_10 : decode cX12_heard 10 = .ok (.iload 4, 2) := by decide +kernel
theorem dX12_heard_12 : decode cX12_heard 12 = .ok (.invokevirtual 125, 3) := by decide +kernel
theorem dX12_heard_15 : decode cX12_heard 15 = .ok (.ifCond .ne 6, 3) := by decide +kernel
theorem dX12_heard_18 : decode cX12_heard 18 = .ok (.bipush (-101), 2) := by decide +kernel
theorem dX12_heard_20 : decode cX12_heard 20 = .ok (.ireturn, 1) := by decide +kernel
theorem dX12_heard_21 : decode cX12_heard 21 = .ok (.aload_n 0, 1) := by decide +kernel
theorem dX12_heard_22 : decode cX12_heard 22 = .ok (.iload_n 3, 1) := by decide +kernel
theorem dX12_heard_23 : decode cX12_heard 23 = .ok (.iload 4, 2) := by decide +kernel
theorem dX12_heard_25 : decode cX12_heard 25 = .ok (.iload 7, 2) := by decide +kernel
theorem dX12_heard_27 : decode cX12_heard 27 = .ok (.invokevirtual 199, 3) := by decide +kernel
theorem dX12_heard_30 : decode cX12_heard 30 = .ok (.ifCond .eq 14, 3) := by decide +kernel
theorem dX12_heard_33 : decode cX12_heard 33 = .ok (.iload 5, 2) := by decide +kernel
theorem dX12_heard_35 : decode cX12_heard 35 = .ok (.iconst 0, 1) := by decide +kernel
theorem dX12_heard_36 : decode cX12_heard 36 = .ok (.bipush 10, 2) := by decide +kernel
theorem dX12_heard_38 : decode cX12_heard 38 = .ok (.invokestatic 61, 3) := by decide +kernel
theorem dX12_heard_41 : decode cX12_heard 41 = .ok (.ifCond .ne 6, 3) := by decide +kernel
theorem dX12_heard_44 : decode cX12_heard 44 = .ok (.bipush (-102), 2) := by decide +kernel
theorem dX12_heard_46 : decode cX12_heard 46 = .ok (.ireturn, 1) := by decide +kernel
theorem dX12_heard_47 : decode cX12_heard 47 = .ok (.aload_n 0, 1) := by decide +kernel
theorem dX12_heard_48 : decode cX12_heard 48 = .ok (.iload_n 1, 1) := by decide +kernel
theorem dX12_heard_49 : decode cX12_heard 49 = .ok (.iload_n 2, 1) := by decide +kernel
theorem dX12_heard_50 : decode cX12_heard 50 = .ok (.iload_n 3, 1) := by decide +kernel
theorem dX12_heard_51 : decode cX12_heard 51 = .ok (.invokestatic 150, 3) := by decide +kernel
theorem dX12_heard_54 : decode cX12_heard 54 = .ok (.iload 4, 2) := by decide +kernel
theorem dX12_heard_56 : decode cX12_heard 56 = .ok (.invokevirtual 153, 3) := by decide +kernel
theorem dX12_heard_59 : decode cX12_heard 59 = .ok (.istore 8, 2) := by decide +kernel
theorem dX12_heard_61 : decode cX12_heard 61 = .ok (.iload 8, 2) := by decide +kernel
theorem dX12_heard_63 : decode cX12_heard 63 = .ok (.iload 6, 2) := by decide +kernel
theorem dX12_heard_65 : decode cX12_heard 65 = .ok (.ifCond .eq 8, 3) := by decide +kernel
theorem dX12_heard_68 : decode cX12_heard 68 = .ok (.iload 5, 2) := by decide +kernel
theorem dX12_heard_70 : decode cX12_heard 70 = .ok (.goto 8, 3) := by decide +kernel
theorem dX12_heard_73 : decode cX12_heard 73 = .ok (.bipush 10, 2) := by decide +kernel
theorem dX12_heard_75 : decode cX12_heard 75 = .ok (.iload 5, 2) := by decide +kernel
theorem dX12_heard_77 : decode cX12_heard 77 = .ok (.isub, 1) := by decide +kernel
theorem dX12_heard_78 : decode cX12_heard 78 = .ok (.imul, 1) := by decide +kernel
theorem dX12_heard_79 : decode cX12_heard 79 = .ok (.istore 9, 2) := by decide +kernel
theorem dX12_heard_81 : decode cX12_heard 81 = .ok (.iload 9, 2) := by decide +kernel
theorem dX12_heard_83 : decode cX12_heard 83 = .ok (.bipush 10, 2) := by decide +kernel
theorem dX12_heard_85 : decode cX12_heard 85 = .ok (.iload 8, 2) := by decide +kernel
theorem dX12_heard_87 : decode cX12_heard 87 = .ok (.isub, 1) := by decide +kernel
theorem dX12_heard_88 : decode cX12_heard 88 = .ok (.iload 6, 2) := by decide +kernel
theorem dX12_heard_90 : decode cX12_heard 90 = .ok (.ifCond .eq 11, 3) := by decide +kernel
theorem dX12_heard_93 : decode cX12_heard 93 = .ok (.bipush 10, 2) := by decide +kernel
theorem dX12_heard_95 : decode cX12_heard 95 = .ok (.iload 5, 2) := by decide +kernel
theorem dX12_heard_97 : decode cX12_heard 97 = .ok (.isub, 1) := by decide +kernel
theorem dX12_heard_98 : decode cX12_heard 98 = .ok (.goto 5, 3) := by decide +kernel
theorem dX12_heard_101 : decode cX12_heard 101 = .ok (.iload 5, 2) := by decide +kernel
theorem dX12_heard_103 : decode cX12_heard 103 = .ok (.imul, 1) := by decide +kernel
theorem dX12_heard_104 : decode cX12_heard 104 = .ok (.iadd, 1) := by decide +kernel
theorem dX12_heard_105 : decode cX12_heard 105 = .ok (.istore 10, 2) := by decide +kernel
theorem dX12_heard_107 : decode cX12_heard 107 = .ok (.iload 10, 2) := by decide +kernel
theorem dX12_heard_109 : decode cX12_heard 109 = .ok (.ifCond .ne 7, 3) := by decide +kernel
theorem dX12_heard_112 : decode cX12_heard 112 = .ok (.iconst (-1), 1) := by decide +kernel
theorem dX12_heard_113 : decode cX12_heard 113 = .ok (.goto 15, 3) := by decide +kernel
theorem dX12_heard_116 : decode cX12_heard 116 = .ok (.iload 9, 2) := by decide +kernel
theorem dX12_heard_118 : decode cX12_heard 118 = .ok (.i2l, 1) := by decide +kernel
theorem dX12_heard_119 : decode cX12_heard 119 = .ok (.iload 10, 2) := by decide +kernel
theorem dX12_heard_121 : decode cX12_heard 121 = .ok (.i2l, 1) := by decide +kernel
theorem dX12_heard_122 : decode cX12_heard 122 = .ok (.iload 7, 2) := by decide +kernel
theorem dX12_heard_124 : decode cX12_heard 124 = .ok (.invokestatic 178, 3) := by decide +kernel
theorem dX12_heard_127 : decode cX12_heard 127 = .ok (.l2i, 1) := by decide +kernel
theorem dX12_heard_128 : decode cX12_heard 128 = .ok (.ireturn, 1) := by decide +kernel
theorem dX12_sway_0 : decode cX12_sway 0 = .ok (.aload_n 0, 1) := by decide +kernel
theorem dX12_sway_1 : decode cX12_sway 1 = .ok (.iload_n 1, 1) := by decide +kernel
theorem dX12_sway_2 : decode cX12_sway 2 = .ok (.iload_n 2, 1) := by decide +kernel
theorem dX12_sway_3 : decode cX12_sway 3 = .ok (.invokevirtual 172, 3) := by decide +kernel
theorem dX12_sway_6 : decode cX12_sway 6 = .ok (.ifCond .ne 6, 3) := by decide +kernel
theorem dX12_sway_9 : decode cX12_sway 9 = .ok (.bipush (-101), 2) := by decide +kernel
theorem dX12_sway_11 : decode cX12_sway 11 = .ok (.ireturn, 1) := by decide +kernel
theorem dX12_sway_12 : decode cX12_sway 12 = .ok (.aload_n 0, 1) := by decide +kernel
theorem dX12_sway_13 : decode cX12_sway 13 = .ok (.iload_n 3, 1) := by decide +kernel
theorem dX12_sway_14 : decode cX12_sway 14 = .ok (.invokevirtual 143, 3) := by decide +kernel
theorem dX12_sway_17 : decode cX12_sway 17 = .ok (.ifCond .ne 6, 3) := by decide +kernel
theorem dX12_sway_20 : decode cX12_sway 20 = .ok (.bipush (-102), 2) := by decide +kernel
theorem dX12_sway_22 : decode cX12_sway 22 = .ok (.ireturn, 1) := by decide +kernel
theorem dX12_sway_23 : decode cX12_sway 23 = .ok (.aload_n 0, 1) := by decide +kernel
theorem dX12_sway_24 : decode cX12_sway 24 = .ok (.iload_n 1, 1) := by decide +kernel
theorem dX12_sway_25 : decode cX12_sway 25 = .ok (.iload_n 2, 1) := by decide +kernel
theorem dX12_sway_26 : decode cX12_sway 26 = .ok (.iload_n 3, 1) := by decide +kernel
theorem dX12_sway_27 : decode cX12_sway 27 = .ok (.invokevirtual 186, 3) := by decide +kernel
theorem dX12_sway_30 : decode cX12_sway 30 = .ok (.lstore 4, 2) := by decide +kernel
theorem dX12_sway_32 : decode cX12_sway 32 = .ok (.iconst (-1), 1) := by decide +kernel
theorem dX12_sway_33 : decode cX12_sway 33 = .ok (.istore 6, 2) := by decide +kernel
theorem dX12_sway_35 : decode cX12_sway 35 = .ok (.lconst 0, 1) := by decide +kernel
theorem dX12_sway_36 : decode cX12_sway 36 = .ok (.lstore 7, 2) := by decide +kernel
theorem dX12_sway_38 : decode cX12_sway 38 = .ok (.iconst 0, 1) := by decide +kernel
theorem dX12_sway_39 : decode cX12_sway 39 = .ok (.istore 9, 2) := by decide +kernel
theorem dX12_sway_41 : decode cX12_sway 41 = .ok (.iload 9, 2) := by decide +kernel
theorem dX12_sway_43 : decode cX12_sway 43 = .ok (.aload_n 0, 1) := by decide +kernel
theorem dX12_sway_44 : decode cX12_sway 44 = .ok (.getfield 119, 3) := by decide +kernel
theorem dX12_sway_47 : decode cX12_sway 47 = .ok (.if_icmp .ge 107, 3) := by decide +kernel
theorem dX12_sway_50 : decode cX12_sway 50 = .ok (.iload_n 3, 1) := by decide +kernel
theorem dX12_sway_51 : decode cX12_sway 51 = .ok (.iload 9, 2) := by decide +kernel
theorem dX12_sway_53 : decode cX12_sway 53 = .ok (.invokestatic 146, 3) := by decide +kernel
theorem dX12_sway_56 : decode cX12_sway 56 = .ok (.ifCond .eq 92, 3) := by decide +kernel
theorem dX12_sway_59 : decode cX12_sway 59 = .ok (.lload 4, 2) := by decide +kernel
theorem dX12_sway_61 : decode cX12_sway 61 = .ok (.ldc2_w 202, 3) := by decide +kernel
theorem dX12_sway_64 : decode cX12_sway 64 = .ok (.aload_n 0, 1) := by decide +kernel
theorem dX12_sway_65 : decode cX12_sway 65 = .ok (.iload_n 1, 1) := by decide +kernel
theorem dX12_sway_66 : decode cX12_sway 66 = .ok (.iload_n 2, 1) := by decide +kernel
theorem dX12_sway_67 : decode cX12_sway 67 = .ok (.iload_n 3, 1) := by decide +kernel
theorem dX12_sway_68 : decode cX12_sway 68 = .ok (.iconst 1, 1) := by decide +kernel
theorem dX12_sway_69 : decode cX12_sway 69 = .ok (.iload 9, 2) := by decide +kernel
theorem dX12_sway_71 : decode cX12_sway 71 = .ok (.ishl, 1) := by decide +kernel
theorem dX12_sway_72 : decode cX12_sway 72 = .ok (.iconst (-1), 1) := by decide +kernel
theorem dX12_sway_73 : decode cX12_sway 73 = .ok (.ixor, 1) := by decide +kernel
theorem dX12_sway_74 : decode cX12_sway 74 = .ok (.iand, 1) := by decide +kernel
theorem dX12_sway_75 : decode cX12_sway 75 = .ok (.invokevirtual 186, 3) := by decide +kernel
theorem dX12_sway_78 : decode cX12_sway 78 = .ok (.lmul, 1) := by decide +kernel
theorem dX12_sway_79 : decode cX12_sway 79 = .ok (.lsub, 1) := by decide +kernel
theorem dX12_sway_80 : decode cX12_sway 80 = .ok (.lstore 10, 2) := by decide +kernel
theorem dX12_sway_82 : decode cX12_sway 82 = .ok (.lload 10, 2) := by decide +kernel
theorem dX12_sway_84 : decode cX12_sway 84 = .ok (.lconst 0, 1) := by decide +kernel
theorem dX12_sway_85 : decode cX12_sway 85 = .ok (.lcmp, 1) := by decide +kernel
theorem dX12_sway_86 : decode cX12_sway 86 = .ok (.ifCond .ge 9, 3) := by decide +kernel
theorem dX12_sway_89 : decode cX12_sway 89 = .ok (.lload 10, 2) := by decide +kernel
theorem dX12_sway_91 : decode cX12_sway 91 = .ok (.lneg, 1) := by decide +kernel
theorem dX12_sway_92 : decode cX12_sway 92 = .ok (.goto 5, 3) := by decide +kernel
theorem dX12_sway_95 : decode cX12_sway 95 = .ok (.lload 10, 2) := by decide +kernel
theorem dX12_sway_97 : decode cX12_sway 97 = .ok (.lstore 10, 2) := by decide +kernel
theorem dX12_sway_99 : decode cX12_sway 99 = .ok (.iload 6, 2) := by decide +kernel
theorem dX12_sway_101 : decode cX12_sway 101 = .ok (.iconst (-1), 1) := by decide +kernel
theorem dX12_sway_102 : decode cX12_sway 102 = .ok (.if_icmp .eq 11, 3) := by decide +kernel
theorem dX12_sway_105 : decode cX12_sway 105 = .ok (.lload 10, 2) := by decide +kernel
theorem dX12_sway_107 : decode cX12_sway 107 = .ok (.lload 7, 2) := by decide +kernel
theorem dX12_sway_109 : decode cX12_sway 109 = .ok (.lcmp, 1) := by decide +kernel
theorem dX12_sway_110 : decode cX12_sway 110 = .ok (.ifCond .le 7, 3) := by decide +kernel
theorem dX12_sway_113 : decode cX12_sway 113 = .ok (.iconst 1, 1) := by decide +kernel
theorem dX12_sway_114 : decode cX12_sway 114 = .ok (.goto 4, 3) := by decide +kernel
theorem dX12_sway_117 : decode cX12_sway 117 = .ok (.iconst 0, 1) := by decide +kernel
theorem dX12_sway_118 : decode cX12_sway 118 = .ok (.istore 12, 2) := by decide +kernel
theorem dX12_sway_120 : decode cX12_sway 120 = .ok (.iload 12, 2) := by decide +kernel
theorem dX12_sway_122 : decode cX12_sway 122 = .ok (.ifCond .eq 8, 3) := by decide +kernel
theorem dX12_sway_125 : decode cX12_sway 125 = .ok (.iload 9, 2) := by decide +kernel
theorem dX12_sway_127 : decode cX12_sway 127 = .ok (.goto 5, 3) := by decide +kernel
theorem dX12_sway_130 : decode cX12_sway 130 = .ok (.iload 6, 2) := by decide +kernel
theorem dX12_sway_132 : decode cX12_sway 132 = .ok (.istore 6, 2) := by decide +kernel
theorem dX12_sway_134 : decode cX12_sway 134 = .ok (.iload 12, 2) := by decide +kernel
theorem dX12_sway_136 : decode cX12_sway 136 = .ok (.ifCond .eq 8, 3) := by decide +kernel
theorem dX12_sway_139 : decode cX12_sway 139 = .ok (.lload 10, 2) := by decide +kernel
theorem dX12_sway_141 : decode cX12_sway 141 = .ok (.goto 5, 3) := by decide +kernel
theorem dX12_sway_144 : decode cX12_sway 144 = .ok (.lload 7, 2) := by decide +kernel
theorem dX12_sway_146 : decode cX12_sway 146 = .ok (.lstore 7, 2) := by decide +kernel
theorem dX12_sway_148 : decode cX12_sway 148 = .ok (.iinc 9 1, 3) := by decide +kernel
theorem dX12_sway_151 : decode cX12_sway 151 = .ok (.goto (-110), 3) := by decide +kernel
theorem dX12_sway_154 : decode cX12_sway 154 = .ok (.iload 6, 2) := by decide +kernel
theorem dX12_sway_156 : decode cX12_sway 156 = .ok (.ireturn, 1) := by decide +kernel
theorem dX12_withdraws_0 : decode cX12_withdraws 0 = .ok (.ldc2_w 65, 3) := by decide +kernel
theorem dX12_withdraws_3 : decode cX12_withdraws 3 = .ok (.aload_n 0, 1) := by decide +kernel
theorem dX12_withdraws_4 : decode cX12_withdraws 4 = .ok (.iload_n 1, 1) := by decide +kernel
theorem dX12_withdraws_5 : decode cX12_withdraws 5 = .ok (.iload_n 2, 1) := by decide +kernel
theorem dX12_withdraws_6 : decode cX12_withdraws 6 = .ok (.iload_n 3, 1) := by decide +kernel
theorem dX12_withdraws_7 : decode cX12_withdraws 7 = .ok (.invokevirtual 186, 3) := by decide +kernel
theorem dX12_withdraws_10 : decode cX12_withdraws 10 = .ok (.lmul, 1) := by decide +kernel
theorem dX12_withdraws_11 : decode cX12_withdraws 11 = .ok (.iload 4, 2) := by decide +kernel
theorem dX12_withdraws_13 : decode cX12_withdraws 13 = .ok (.i2l, 1) := by decide +kernel
theorem dX12_withdraws_14 : decode cX12_withdraws 14 = .ok (.iconst 2, 1) := by decide +kernel
theorem dX12_withdraws_15 : decode cX12_withdraws 15 = .ok (.iload_n 3, 1) := by decide +kernel
theorem dX12_withdraws_16 : decode cX12_withdraws 16 = .ok (.invokestatic 150, 3) := by decide +kernel
theorem dX12_withdraws_19 : decode cX12_withdraws 19 = .ok (.imul, 1) := by decide +kernel
theorem dX12_withdraws_20 : decode cX12_withdraws 20 = .ok (.invokestatic 168, 3) := by decide +kernel
theorem dX12_withdraws_23 : decode cX12_withdraws 23 = .ok (.lmul, 1) := by decide +kernel
theorem dX12_withdraws_24 : decode cX12_withdraws 24 = .ok (.lcmp, 1) := by decide +kernel
theorem dX12_withdraws_25 : decode cX12_withdraws 25 = .ok (.ifCond .ge 7, 3) := by decide +kernel
theorem dX12_withdraws_28 : decode cX12_withdraws 28 = .ok (.iconst 1, 1) := by decide +kernel
theorem dX12_withdraws_29 : decode cX12_withdraws 29 = .ok (.goto 4, 3) := by decide +kernel
theorem dX12_withdraws_32 : decode cX12_withdraws 32 = .ok (.iconst 0, 1) := by decide +kernel
theorem dX12_withdraws_33 : decode cX12_withdraws 33 = .ok (.ireturn, 1) := by decide +kernel
theorem dX12_word_0 : decode cX12_word 0 = .ok (.aload_n 0, 1) := by decide +kernel
theorem dX12_word_1 : decode cX12_word 1 = .ok (.iload_n 1, 1) := by decide +kernel
theorem dX12_word_2 : decode cX12_word 2 = .ok (.invokevirtual 113, 3) := by decide +kernel
theorem dX12_word_5 : decode cX12_word 5 = .ok (.ifCond .ne 6, 3) := by decide +kernel
theorem dX12_word_8 : decode cX12_word 8 = .ok (.bipush (-101), 2) := by decide +kernel
theorem dX12_word_10 : decode cX12_word 10 = .ok (.ireturn, 1) := by decide +kernel
theorem dX12_word_11 : decode cX12_word 11 = .ok (.aload_n 0, 1) := by decide +kernel
theorem dX12_word_12 : decode cX12_word 12 = .ok (.iload_n 2, 1) := by decide +kernel
theorem dX12_word_13 : decode cX12_word 13 = .ok (.invokevirtual 143, 3) := by decide +kernel
theorem dX12_word_16 : decode cX12_word 16 = .ok (.ifCond .eq 13, 3) := by decide +kernel
theorem dX12_word_19 : decode cX12_word 19 = .ok (.iload_n 3, 1) := by decide +kernel
theorem dX12_word_20 : decode cX12_word 20 = .ok (.iconst 0, 1) := by decide +kernel
theorem dX12_word_21 : decode cX12_word 21 = .ok (.bipush 10, 2) := by decide +kernel
theorem dX12_word_23 : decode cX12_word 23 = .ok (.invokestatic 61, 3) := by decide +kernel
theorem dX12_word_26 : decode cX12_word 26 = .ok (.ifCond .ne 6, 3) := by decide +kernel
theorem dX12_word_29 : decode cX12_word 29 = .ok (.bipush (-102), 2) := by decide +kernel
theorem dX12_word_31 : decode cX12_word 31 = .ok (.ireturn, 1) := by decide +kernel
theorem dX12_word_32 : decode cX12_word 32 = .ok (.iconst 0, 1) := by decide +kernel
theorem dX12_word_33 : decode cX12_word 33 = .ok (.istore 4, 2) := by decide +kernel
theorem dX12_word_35 : decode cX12_word 35 = .ok (.iconst 0, 1) := by decide +kernel
theorem dX12_word_36 : decode cX12_word 36 = .ok (.istore 5, 2) := by decide +kernel
theorem dX12_word_38 : decode cX12_word 38 = .ok (.iload 5, 2) := by decide +kernel
theorem dX12_word_40 : decode cX12_word 40 = .ok (.aload_n 0, 1) := by decide +kernel
theorem dX12_word_41 : decode cX12_word 41 = .ok (.getfield 122, 3) := by decide +kernel
theorem dX12_word_44 : decode cX12_word 44 = .ok (.if_icmp .ge 34, 3) := by decide +kernel
theorem dX12_word_47 : decode cX12_word 47 = .ok (.iload 4, 2) := by decide +kernel
theorem dX12_word_49 : decode cX12_word 49 = .ok (.aload_n 0, 1) := by decide +kernel
theorem dX12_word_50 : decode cX12_word 50 = .ok (.iload_n 1, 1) := by decide +kernel
theorem dX12_word_51 : decode cX12_word 51 = .ok (.iload 5, 2) := by decide +kernel
theorem dX12_word_53 : decode cX12_word 53 = .ok (.iload_n 2, 1) := by decide +kernel
theorem dX12_word_54 : decode cX12_word 54 = .ok (.iload_n 3, 1) := by decide +kernel
theorem dX12_word_55 : decode cX12_word 55 = .ok (.invokevirtual 204, 3) := by decide +kernel
theorem dX12_word_58 : decode cX12_word 58 = .ok (.ifCond .eq 10, 3) := by decide +kernel
theorem dX12_word_61 : decode cX12_word 61 = .ok (.iconst 1, 1) := by decide +kernel
theorem dX12_word_62 : decode cX12_word 62 = .ok (.iload 5, 2) := by decide +kernel
theorem dX12_word_64 : decode cX12_word 64 = .ok (.ishl, 1) := by decide +kernel
theorem dX12_word_65 : decode cX12_word 65 = .ok (.goto 4, 3) := by decide +kernel
theorem dX12_word_68 : decode cX12_word 68 = .ok (.iconst 0, 1) := by decide +kernel
theorem dX12_word_69 : decode cX12_word 69 = .ok (.ior, 1) := by decide +kernel
theorem dX12_word_70 : decode cX12_word 70 = .ok (.istore 4, 2) := by decide +kernel
theorem dX12_word_72 : decode cX12_word 72 = .ok (.iinc 5 1, 3) := by decide +kernel
theorem dX12_word_75 : decode cX12_word 75 = .ok (.goto (-37), 3) := by decide +kernel
theorem dX12_word_78 : decode cX12_word 78 = .ok (.iload 4, 2) := by decide +kernel
theorem dX12_word_80 : decode cX12_word 80 = .ok (.ireturn, 1) := by decide +kernel
theorem dX12_seen_0 : decode cX12_seen 0 = .ok (.aload_n 0, 1) := by decide +kernel
theorem dX12_seen_1 : decode cX12_seen 1 = .ok (.iload_n 1, 1) := by decide +kernel
theorem dX12_seen_2 : decode cX12_seen 2 = .ok (.invokevirtual 113, 3) := by decide +kernel
theorem dX12_seen_5 : decode cX12_seen 5 = .ok (.ifCond .ne 7, 3) := by decide +kernel
theorem dX12_seen_8 : decode cX12_seen 8 = .ok (.ldc2_w 182, 3) := by decide +kernel
theorem dX12_seen_11 : decode cX12_seen 11 = .ok (.lreturn, 1) := by decide +kernel
theorem dX12_seen_12 : decode cX12_seen 12 = .ok (.aload_n 0, 1) := by decide +kernel
theorem dX12_seen_13 : decode cX12_seen 13 = .ok (.iload_n 2, 1) := by decide +kernel
theorem dX12_seen_14 : decode cX12_seen 14 = .ok (.invokevirtual 143, 3) := by decide +kernel
theorem dX12_seen_17 : decode cX12_seen 17 = .ok (.ifCond .eq 21, 3) := by decide +kernel
theorem dX12_seen_20 : decode cX12_seen 20 = .ok (.iload_n 3, 1) := by decide +kernel
theorem dX12_seen_21 : decode cX12_seen 21 = .ok (.iconst 0, 1) := by decide +kernel
theorem dX12_seen_22 : decode cX12_seen 22 = .ok (.bipush 10, 2) := by decide +kernel
theorem dX12_seen_24 : decode cX12_seen 24 = .ok (.invokestatic 61, 3) := by decide +kernel
theorem dX12_seen_27 : decode cX12_seen 27 = .ok (.ifCond .eq 11, 3) := by decide +kernel
theorem dX12_seen_30 : decode cX12_seen 30 = .ok (.iload 4, 2) := by decide +kernel
theorem dX12_seen_32 : decode cX12_seen 32 = .ok (.invokestatic 175, 3) := by decide +kernel
theorem dX12_seen_35 : decode cX12_seen 35 = .ok (.ifCond .ne 7, 3) := by decide +kernel
theorem dX12_seen_38 : decode cX12_seen 38 = .ok (.ldc2_w 184, 3) := by decide +kernel
theorem dX12_seen_41 : decode cX12_seen 41 = .ok (.lreturn, 1) := by decide +kernel
theorem dX12_seen_42 : decode cX12_seen 42 = .ok (.iconst 2, 1) := by decide +kernel
theorem dX12_seen_43 : decode cX12_seen 43 = .ok (.iload_n 2, 1) := by decide +kernel
theorem dX12_seen_44 : decode cX12_seen 44 = .ok (.invokestatic 150, 3) := by decide +kernel
theorem dX12_seen_47 : decode cX12_seen 47 = .ok (.imul, 1) := by decide +kernel
theorem dX12_seen_48 : decode cX12_seen 48 = .ok (.invokestatic 168, 3) := by decide +kernel
theorem dX12_seen_51 : decode cX12_seen 51 = .ok (.lstore 5, 2) := by decide +kernel
theorem dX12_seen_53 : decode cX12_seen 53 = .ok (.lconst 0, 1) := by decide +kernel
theorem dX12_seen_54 : decode cX12_seen 54 = .ok (.lstore 7, 2) := by decide +kernel
theorem dX12_seen_56 : decode cX12_seen 56 = .ok (.iconst 0, 1) := by decide +kernel
theorem dX12_seen_57 : decode cX12_seen 57 = .ok (.istore 9, 2) := by decide +kernel
theorem dX12_seen_59 : decode cX12_seen 59 = .ok (.iload 9, 2) := by decide +kernel
theorem dX12_seen_61 : decode cX12_seen 61 = .ok (.aload_n 0, 1) := by decide +kernel
theorem dX12_seen_62 : decode cX12_seen 62 = .ok (.getfield 122, 3) := by decide +kernel
theorem dX12_seen_65 : decode cX12_seen 65 = .ok (.if_icmp .ge 41, 3) := by decide +kernel
theorem dX12_seen_68 : decode cX12_seen 68 = .ok (.lload 7, 2) := by decide +kernel
theorem dX12_seen_70 : decode cX12_seen 70 = .ok (.aload_n 0, 1) := by decide +kernel
theorem dX12_seen_71 : decode cX12_seen 71 = .ok (.iload_n 1, 1) := by decide +kernel
theorem dX12_seen_72 : decode cX12_seen 72 = .ok (.iload 9, 2) := by decide +kernel
theorem dX12_seen_74 : decode cX12_seen 74 = .ok (.iload_n 2, 1) := by decide +kernel
theorem dX12_seen_75 : decode cX12_seen 75 = .ok (.iload_n 3, 1) := by decide +kernel
theorem dX12_seen_76 : decode cX12_seen 76 = .ok (.invokevirtual 204, 3) := by decide +kernel
theorem dX12_seen_79 : decode cX12_seen 79 = .ok (.ifCond .eq 7, 3) := by decide +kernel
theorem dX12_seen_82 : decode cX12_seen 82 = .ok (.lconst 0, 1) := by decide +kernel
theorem dX12_seen_83 : decode cX12_seen 83 = .ok (.goto 14, 3) := by decide +kernel
theorem dX12_seen_86 : decode cX12_seen 86 = .ok (.lload 5, 2) := by decide +kernel
theorem dX12_seen_88 : decode cX12_seen 88 = .ok (.aload_n 0, 1) := by decide +kernel
theorem dX12_seen_89 : decode cX12_seen 89 = .ok (.iload_n 1, 1) := by decide +kernel
theorem dX12_seen_90 : decode cX12_seen 90 = .ok (.iload 9, 2) := by decide +kernel
theorem dX12_seen_92 : decode cX12_seen 92 = .ok (.iload_n 2, 1) := by decide +kernel
theorem dX12_seen_93 : decode cX12_seen 93 = .ok (.invokevirtual 186, 3) := by decide +kernel
theorem dX12_seen_96 : decode cX12_seen 96 = .ok (.lsub, 1) := by decide +kernel
theorem dX12_seen_97 : decode cX12_seen 97 = .ok (.ladd, 1) := by decide +kernel
theorem dX12_seen_98 : decode cX12_seen 98 = .ok (.lstore 7, 2) := by decide +kernel
theorem dX12_seen_100 : decode cX12_seen 100 = .ok (.iinc 9 1, 3) := by decide +kernel
theorem dX12_seen_103 : decode cX12_seen 103 = .ok (.goto (-44), 3) := by decide +kernel
theorem dX12_seen_106 : decode cX12_seen 106 = .ok (.lload 7, 2) := by decide +kernel
theorem dX12_seen_108 : decode cX12_seen 108 = .ok (.lload 5, 2) := by decide +kernel
theorem dX12_seen_110 : decode cX12_seen 110 = .ok (.iload 4, 2) := by decide +kernel
theorem dX12_seen_112 : decode cX12_seen 112 = .ok (.invokestatic 178, 3) := by decide +kernel
theorem dX12_seen_115 : decode cX12_seen 115 = .ok (.lreturn, 1) := by decide +kernel
theorem dX12_draw_0 : decode cX12_draw 0 = .ok (.aload_n 0, 1) := by decide +kernel
theorem dX12_draw_1 : decode cX12_draw 1 = .ok (.ldc2_w 208, 3) := by decide +kernel
theorem dX12_draw_4 : decode cX12_draw 4 = .ok (.aload_n 0, 1) := by decide +kernel
theorem dX12_draw_5 : decode cX12_draw 5 = .ok (.getfield 210, 3) := by decide +kernel
theorem dX12_draw_8 : decode cX12_draw 8 = .ok (.lmul, 1) := by decide +kernel
theorem dX12_draw_9 : decode cX12_draw 9 = .ok (.ldc2_w 214, 3) := by decide +kernel
theorem dX12_draw_12 : decode cX12_draw 12 = .ok (.ladd, 1) := by decide +kernel
theorem dX12_draw_13 : decode cX12_draw 13 = .ok (.ldc2_w 216, 3) := by decide +kernel
theorem dX12_draw_16 : decode cX12_draw 16 = .ok (.land, 1) := by decide +kernel
theorem dX12_draw_17 : decode cX12_draw 17 = .ok (.putfield 210, 3) := by decide +kernel
theorem dX12_draw_20 : decode cX12_draw 20 = .ok (.aload_n 0, 1) := by decide +kernel
theorem dX12_draw_21 : decode cX12_draw 21 = .ok (.getfield 210, 3) := by decide +kernel
theorem dX12_draw_24 : decode cX12_draw 24 = .ok (.ldc2_w 218, 3) := by decide +kernel
theorem dX12_draw_27 : decode cX12_draw 27 = .ok (.ldiv, 1) := by decide +kernel
theorem dX12_draw_28 : decode cX12_draw 28 = .ok (.iload_n 1, 1) := by decide +kernel
theorem dX12_draw_29 : decode cX12_draw 29 = .ok (.i2l, 1) := by decide +kernel
theorem dX12_draw_30 : decode cX12_draw 30 = .ok (.lrem, 1) := by decide +kernel
theorem dX12_draw_31 : decode cX12_draw 31 = .ok (.l2i, 1) := by decide +kernel
theorem dX12_draw_32 : decode cX12_draw 32 = .ok (.ireturn, 1) := by decide +kernel
theorem dX12_goRound_0 : decode cX12_goRound 0 = .ok (.iconst 0, 1) := by decide +kernel
theorem dX12_goRound_1 : decode cX12_goRound 1 = .ok (.istore 4, 2) := by decide +kernel
theorem dX12_goRound_3 : decode cX12_goRound 3 = .ok (.iconst 0, 1) := by decide +kernel
theorem dX12_goRound_4 : decode cX12_goRound 4 = .ok (.istore 5, 2) := by decide +kernel
theorem dX12_goRound_6 : decode cX12_goRound 6 = .ok (.iload 5, 2) := by decide +kernel
theorem dX12_goRound_8 : decode cX12_goRound 8 = .ok (.aload_n 0, 1) := by decide +kernel
theorem dX12_goRound_9 : decode cX12_goRound 9 = .ok (.getfield 119, 3) := by decide +kernel
theorem dX12_goRound_12 : decode cX12_goRound 12 = .ok (.if_icmp .ge 49, 3) := by decide +kernel
theorem dX12_goRound_15 : decode cX12_goRound 15 = .ok (.iload_n 3, 1) := by decide +kernel
theorem dX12_goRound_16 : decode cX12_goRound 16 = .ok (.iload 5, 2) := by decide +kernel
theorem dX12_goRound_18 : decode cX12_goRound 18 = .ok (.invokestatic 146, 3) := by decide +kernel
theorem dX12_goRound_21 : decode cX12_goRound 21 = .ok (.ifCond .eq 34, 3) := by decide +kernel
theorem dX12_goRound_24 : decode cX12_goRound 24 = .ok (.iload 4, 2) := by decide +kernel
theorem dX12_goRound_26 : decode cX12_goRound 26 = .ok (.aload_n 0, 1) := by decide +kernel
theorem dX12_goRound_27 : decode cX12_goRound 27 = .ok (.bipush 10, 2) := by decide +kernel
theorem dX12_goRound_29 : decode cX12_goRound 29 = .ok (.invokevirtual 220, 3) := by decide +kernel
theorem dX12_goRound_32 : decode cX12_goRound 32 = .ok (.aload_n 0, 1) := by decide +kernel
theorem dX12_goRound_33 : decode cX12_goRound 33 = .ok (.iload_n 1, 1) := by decide +kernel
theorem dX12_goRound_34 : decode cX12_goRound 34 = .ok (.iload_n 2, 1) := by decide +kernel
theorem dX12_goRound_35 : decode cX12_goRound 35 = .ok (.iload_n 3, 1) := by decide +kernel
theorem dX12_goRound_36 : decode cX12_goRound 36 = .ok (.invokestatic 150, 3) := by decide +kernel
theorem dX12_goRound_39 : decode cX12_goRound 39 = .ok (.iload 5, 2) := by decide +kernel
theorem dX12_goRound_41 : decode cX12_goRound 41 = .ok (.invokevirtual 153, 3) := by decide +kernel
theorem dX12_goRound_44 : decode cX12_goRound 44 = .ok (.if_icmp .ge 7, 3) := by decide +kernel
theorem dX12_goRound_47 : decode cX12_goRound 47 = .ok (.iconst 1, 1) := by decide +kernel
theorem dX12_goRound_48 : decode cX12_goRound 48 = .ok (.goto 4, 3) := by decide +kernel
theorem dX12_goRound_51 : decode cX12_goRound 51 = .ok (.iconst 0, 1) := by decide +kernel
theorem dX12_goRound_52 : decode cX12_goRound 52 = .ok (.iadd, 1) := by decide +kernel
theorem dX12_goRound_53 : decode cX12_goRound 53 = .ok (.istore 4, 2) := by decide +kernel
theorem dX12_goRound_55 : decode cX12_goRound 55 = .ok (.iinc 5 1, 3) := by decide +kernel
theorem dX12_goRound_58 : decode cX12_goRound 58 = .ok (.goto (-52), 3) := by decide +kernel
theorem dX12_goRound_61 : decode cX12_goRound 61 = .ok (.iload 4, 2) := by decide +kernel
theorem dX12_goRound_63 : decode cX12_goRound 63 = .ok (.ireturn, 1) := by decide +kernel
theorem dX12_evening_0 : decode cX12_evening 0 = .ok (.aload_n 0, 1) := by decide +kernel
theorem dX12_evening_1 : decode cX12_evening 1 = .ok (.iload_n 1, 1) := by decide +kernel
theorem dX12_evening_2 : decode cX12_evening 2 = .ok (.iload_n 2, 1) := by decide +kernel
theorem dX12_evening_3 : decode cX12_evening 3 = .ok (.invokevirtual 172, 3) := by decide +kernel
theorem dX12_evening_6 : decode cX12_evening 6 = .ok (.ifCond .ne 6, 3) := by decide +kernel
theorem dX12_evening_9 : decode cX12_evening 9 = .ok (.bipush (-101), 2) := by decide +kernel
theorem dX12_evening_11 : decode cX12_evening 11 = .ok (.ireturn, 1) := by decide +kernel
theorem dX12_evening_12 : decode cX12_evening 12 = .ok (.aload_n 0, 1) := by decide +kernel
theorem dX12_evening_13 : decode cX12_evening 13 = .ok (.iload_n 3, 1) := by decide +kernel
theorem dX12_evening_14 : decode cX12_evening 14 = .ok (.invokevirtual 143, 3) := by decide +kernel
theorem dX12_evening_17 : decode cX12_evening 17 = .ok (.ifCond .eq 18, 3) := by decide +kernel
theorem dX12_evening_20 : decode cX12_evening 20 = .ok (.iload 4, 2) := by decide +kernel
theorem dX12_evening_22 : decode cX12_evening 22 = .ok (.ifCond .lt 13, 3) := by decide +kernel
theorem dX12_evening_25 : decode cX12_evening 25 = .ok (.iload 5, 2) := by decide +kernel
theorem dX12_evening_27 : decode cX12_evening 27 = .ok (.iconst 0, 1) := by decide +kernel
theorem dX12_evening_28 : decode cX12_evening 28 = .ok (.iconst 2, 1) := by decide +kernel
theorem dX12_evening_29 : decode cX12_evening 29 = .ok (.invokestatic 61, 3) := by decide +kernel
theorem dX12_evening_32 : decode cX12_evening 32 = .ok (.ifCond .ne 6, 3) := by decide +kernel
theorem dX12_evening_35 : decode cX12_evening 35 = .ok (.bipush (-102), 2) := by decide +kernel
theorem dX12_evening_37 : decode cX12_evening 37 = .ok (.ireturn, 1) := by decide +kernel
theorem dX12_evening_38 : decode cX12_evening 38 = .ok (.aload_n 0, 1) := by decide +kernel
theorem dX12_evening_39 : decode cX12_evening 39 = .ok (.iload 4, 2) := by decide +kernel
theorem dX12_evening_41 : decode cX12_evening 41 = .ok (.i2l, 1) := by decide +kernel
theorem dX12_evening_42 : decode cX12_evening 42 = .ok (.putfield 210, 3) := by decide +kernel
theorem dX12_evening_45 : decode cX12_evening 45 = .ok (.iload_n 3, 1) := by decide +kernel
theorem dX12_evening_46 : decode cX12_evening 46 = .ok (.invokestatic 150, 3) := by decide +kernel
theorem dX12_evening_49 : decode cX12_evening 49 = .ok (.istore 6, 2) := by decide +kernel
theorem dX12_evening_51 : decode cX12_evening 51 = .ok (.iconst (-1), 1) := by decide +kernel
theorem dX12_evening_52 : decode cX12_evening 52 = .ok (.istore 7, 2) := by decide +kernel
theorem dX12_evening_54 : decode cX12_evening 54 = .ok (.iconst 0, 1) := by decide +kernel
theorem dX12_evening_55 : decode cX12_evening 55 = .ok (.istore 8, 2) := by decide +kernel
theorem dX12_evening_57 : decode cX12_evening 57 = .ok (.iload 6, 2) := by decide +kernel
theorem dX12_evening_59 : decode cX12_evening 59 = .ok (.aload_n 0, 1) := by decide +kernel
theorem dX12_evening_60 : decode cX12_evening 60 = .ok (.getfield 31, 3) := by decide +kernel
theorem dX12_evening_63 : decode cX12_evening 63 = .ok (.iload_n 1, 1) := by decide +kernel
theorem dX12_evening_64 : decode cX12_evening 64 = .ok (.iaload, 1) := by decide +kernel
theorem dX12_evening_65 : decode cX12_evening 65 = .ok (.if_icmp .lt 73, 3) := by decide +kernel
theorem dX12_evening_68 : decode cX12_evening 68 = .ok (.aload_n 0, 1) := by decide +kernel
theorem dX12_evening_69 : decode cX12_evening 69 = .ok (.iload_n 1, 1) := by decide +kernel
theorem dX12_evening_70 : decode cX12_evening 70 = .ok (.iload_n 2, 1) := by decide +kernel
theorem dX12_evening_71 : decode cX12_evening 71 = .ok (.iload_n 3, 1) := by decide +kernel
theorem dX12_evening_72 : decode cX12_evening 72 = .ok (.invokevirtual 223, 3) := by decide +kernel
theorem dX12_evening_75 : decode cX12_evening 75 = .ok (.istore 7, 2) := by decide +kernel
theorem dX12_evening_77 : decode cX12_evening 77 = .ok (.aload_n 0, 1) := by decide +kernel
theorem dX12_evening_78 : decode cX12_evening 78 = .ok (.iload_n 1, 1) := by decide +kernel
theorem dX12_evening_79 : decode cX12_evening 79 = .ok (.iload 7, 2) := by decide +kernel
theorem dX12_evening_81 : decode cX12_evening 81 = .ok (.iload 6, 2) := by decide +kernel
theorem dX12_evening_83 : decode cX12_evening 83 = .ok (.invokevirtual 161, 3) := by decide +kernel
theorem dX12_evening_86 : decode cX12_evening 86 = .ok (.ifCond .ne 7, 3) := by decide +kernel
theorem dX12_evening_89 : decode cX12_evening 89 = .ok (.iconst 1, 1) := by decide +kernel
theorem dX12_evening_90 : decode cX12_evening 90 = .ok (.goto 4, 3) := by decide +kernel
theorem dX12_evening_93 : decode cX12_evening 93 = .ok (.iconst 0, 1) := by decide +kernel
theorem dX12_evening_94 : decode cX12_evening 94 = .ok (.istore 8, 2) := by decide +kernel
theorem dX12_evening_96 : decode cX12_evening 96 = .ok (.iload 8, 2) := by decide +kernel
theorem dX12_evening_98 : decode cX12_evening 98 = .ok (.ifCond .ne 40, 3) := by decide +kernel
theorem dX12_evening_101 : decode cX12_evening 101 = .ok (.aload_n 0, 1) := by decide +kernel
theorem dX12_evening_102 : decode cX12_evening 102 = .ok (.getfield 34, 3) := by decide +kernel
theorem dX12_evening_105 : decode cX12_evening 105 = .ok (.iload_n 1, 1) := by decide +kernel
theorem dX12_evening_106 : decode cX12_evening 106 = .ok (.baload, 1) := by decide +kernel
theorem dX12_evening_107 : decode cX12_evening 107 = .ok (.ifCond .eq 31, 3) := by decide +kernel
theorem dX12_evening_110 : decode cX12_evening 110 = .ok (.aload_n 0, 1) := by decide +kernel
theorem dX12_evening_111 : decode cX12_evening 111 = .ok (.iload_n 1, 1) := by decide +kernel
theorem dX12_evening_112 : decode cX12_evening 112 = .ok (.iload_n 2, 1) := by decide +kernel
theorem dX12_evening_113 : decode cX12_evening 113 = .ok (.iload_n 3, 1) := by decide +kernel
theorem dX12_evening_114 : decode cX12_evening 114 = .ok (.invokevirtual 223, 3) := by decide +kernel
theorem dX12_evening_117 : decode cX12_evening 117 = .ok (.istore 7, 2) := by decide +kernel
theorem dX12_evening_119 : decode cX12_evening 119 = .ok (.aload_n 0, 1) := by decide +kernel
theorem dX12_evening_120 : decode cX12_evening 120 = .ok (.iload_n 1, 1) := by decide +kernel
theorem dX12_evening_121 : decode cX12_evening 121 = .ok (.iload 7, 2) := by decide +kernel
theorem dX12_evening_123 : decode cX12_evening 123 = .ok (.iload 6, 2) := by decide +kernel
theorem dX12_evening_125 : decode cX12_evening 125 = .ok (.invokevirtual 161, 3) := by decide +kernel
theorem dX12_evening_128 : decode cX12_evening 128 = .ok (.ifCond .ne 7, 3) := by decide +kernel
theorem dX12_evening_131 : decode cX12_evening 131 = .ok (.iconst 1, 1) := by decide +kernel
theorem dX12_evening_132 : decode cX12_evening 132 = .ok (.goto 4, 3) := by decide +kernel
theorem dX12_evening_135 : decode cX12_evening 135 = .ok (.iconst 0, 1) := by decide +kernel
theorem dX12_evening_136 : decode cX12_evening 136 = .ok (.istore 8, 2) := by decide +kernel
theorem dX12_evening_138 : decode cX12_evening 138 = .ok (.iload 5, 2) := by decide +kernel
theorem dX12_evening_140 : decode cX12_evening 140 = .ok (.ifCond .ne 8, 3) := by decide +kernel
theorem dX12_evening_143 : decode cX12_evening 143 = .ok (.iload 7, 2) := by decide +kernel
theorem dX12_evening_145 : decode cX12_evening 145 = .ok (.goto 27, 3) := by decide +kernel
theorem dX12_evening_148 : decode cX12_evening 148 = .ok (.iload 5, 2) := by decide +kernel
theorem dX12_evening_150 : decode cX12_evening 150 = .ok (.iconst 1, 1) := by decide +kernel
theorem dX12_evening_151 : decode cX12_evening 151 = .ok (.if_icmp .ne 16, 3) := by decide +kernel
theorem dX12_evening_154 : decode cX12_evening 154 = .ok (.iload 8, 2) := by decide +kernel
theorem dX12_evening_156 : decode cX12_evening 156 = .ok (.ifCond .eq 7, 3) := by decide +kernel
theorem dX12_evening_159 : decode cX12_evening 159 = .ok (.iconst 1, 1) := by decide +kernel
theorem dX12_evening_160 : decode cX12_evening 160 = .ok (.goto 12, 3) := by decide +kernel
theorem dX12_evening_163 : decode cX12_evening 163 = .ok (.iconst 0, 1) := by decide +kernel
theorem dX12_evening_164 : decode cX12_evening 164 = .ok (.goto 8, 3) := by decide +kernel
theorem dX12_evening_167 : decode cX12_evening 167 = .ok (.aload_n 0, 1) := by decide +kernel
theorem dX12_evening_168 : decode cX12_evening 168 = .ok (.getfield 210, 3) := by decide +kernel
theorem dX12_evening_171 : decode cX12_evening 171 = .ok (.l2i, 1) := by decide +kernel
theorem dX12_evening_172 : decode cX12_evening 172 = .ok (.ireturn, 1) := by decide +kernel
theorem dX12_isInBy_0 : decode cX12_isInBy 0 = .ok (.iload 5, 2) := by decide +kernel
theorem dX12_isInBy_2 : decode cX12_isInBy 2 = .ok (.istore 6, 2) := by decide +kernel
theorem dX12_isInBy_4 : decode cX12_isInBy 4 = .ok (.iconst 0, 1) := by decide +kernel
theorem dX12_isInBy_5 : decode cX12_isInBy 5 = .ok (.istore 7, 2) := by decide +kernel
theorem dX12_isInBy_7 : decode cX12_isInBy 7 = .ok (.iload 7, 2) := by decide +kernel
theorem dX12_isInBy_9 : decode cX12_isInBy 9 = .ok (.aload_n 0, 1) := by decide +kernel
theorem dX12_isInBy_10 : decode cX12_isInBy 10 = .ok (.getfield 119, 3) := by decide +kernel
theorem dX12_isInBy_13 : decode cX12_isInBy 13 = .ok (.if_icmp .ge 48, 3) := by decide +kernel
theorem dX12_isInBy_16 : decode cX12_isInBy 16 = .ok (.iload 6, 2) := by decide +kernel
theorem dX12_isInBy_18 : decode cX12_isInBy 18 = .ok (.iload 7, 2) := by decide +kernel
theorem dX12_isInBy_20 : decode cX12_isInBy 20 = .ok (.iload_n 3, 1) := by decide +kernel
theorem dX12_isInBy_21 : decode cX12_isInBy 21 = .ok (.if_icmp .eq 30, 3) := by decide +kernel
theorem dX12_isInBy_24 : decode cX12_isInBy 24 = .ok (.iload 7, 2) := by decide +kernel
theorem dX12_isInBy_26 : decode cX12_isInBy 26 = .ok (.iload 4, 2) := by decide +kernel
theorem dX12_isInBy_28 : decode cX12_isInBy 28 = .ok (.if_icmp .eq 23, 3) := by decide +kernel
theorem dX12_isInBy_31 : decode cX12_isInBy 31 = .ok (.aload_n 0, 1) := by decide +kernel
theorem dX12_isInBy_32 : decode cX12_isInBy 32 = .ok (.getfield 22, 3) := by decide +kernel
theorem dX12_isInBy_35 : decode cX12_isInBy 35 = .ok (.bipush 6, 2) := by decide +kernel
theorem dX12_isInBy_37 : decode cX12_isInBy 37 = .ok (.iload 7, 2) := by decide +kernel
theorem dX12_isInBy_39 : decode cX12_isInBy 39 = .ok (.imul, 1) := by decide +kernel
theorem dX12_isInBy_40 : decode cX12_isInBy 40 = .ok (.iload_n 2, 1) := by decide +kernel
theorem dX12_isInBy_41 : decode cX12_isInBy 41 = .ok (.iadd, 1) := by decide +kernel
theorem dX12_isInBy_42 : decode cX12_isInBy 42 = .ok (.iaload, 1) := by decide +kernel
theorem dX12_isInBy_43 : decode cX12_isInBy 43 = .ok (.iconst 5, 1) := by decide +kernel
theorem dX12_isInBy_44 : decode cX12_isInBy 44 = .ok (.if_icmp .lt 7, 3) := by decide +kernel
theorem dX12_isInBy_47 : decode cX12_isInBy 47 = .ok (.iconst 1, 1) := by decide +kernel
theorem dX12_isInBy_48 : decode cX12_isInBy 48 = .ok (.goto 4, 3) := by decide +kernel
theorem dX12_isInBy_51 : decode cX12_isInBy 51 = .ok (.iconst 0, 1) := by decide +kernel
theorem dX12_isInBy_52 : decode cX12_isInBy 52 = .ok (.iadd, 1) := by decide +kernel
theorem dX12_isInBy_53 : decode cX12_isInBy 53 = .ok (.istore 6, 2) := by decide +kernel
theorem dX12_isInBy_55 : decode cX12_isInBy 55 = .ok (.iinc 7 1, 3) := by decide +kernel
theorem dX12_isInBy_58 : decode cX12_isInBy 58 = .ok (.goto (-51), 3) := by decide +kernel
theorem dX12_isInBy_61 : decode cX12_isInBy 61 = .ok (.aload_n 0, 1) := by decide +kernel
theorem dX12_isInBy_62 : decode cX12_isInBy 62 = .ok (.getfield 119, 3) := by decide +kernel
theorem dX12_isInBy_65 : decode cX12_isInBy 65 = .ok (.aload_n 0, 1) := by decide +kernel
theorem dX12_isInBy_66 : decode cX12_isInBy 66 = .ok (.getfield 31, 3) := by decide +kernel
theorem dX12_isInBy_69 : decode cX12_isInBy 69 = .ok (.iload_n 1, 1) := by decide +kernel
theorem dX12_isInBy_70 : decode cX12_isInBy 70 = .ok (.iaload, 1) := by decide +kernel
theorem dX12_isInBy_71 : decode cX12_isInBy 71 = .ok (.if_icmp .lt 21, 3) := by decide +kernel
theorem dX12_isInBy_74 : decode cX12_isInBy 74 = .ok (.aload_n 0, 1) := by decide +kernel
theorem dX12_isInBy_75 : decode cX12_isInBy 75 = .ok (.iload_n 1, 1) := by decide +kernel
theorem dX12_isInBy_76 : decode cX12_isInBy 76 = .ok (.iload 6, 2) := by decide +kernel
theorem dX12_isInBy_78 : decode cX12_isInBy 78 = .ok (.aload_n 0, 1) := by decide +kernel
theorem dX12_isInBy_79 : decode cX12_isInBy 79 = .ok (.getfield 119, 3) := by decide +kernel
theorem dX12_isInBy_82 : decode cX12_isInBy 82 = .ok (.invokevirtual 161, 3) := by decide +kernel
theorem dX12_isInBy_85 : decode cX12_isInBy 85 = .ok (.ifCond .ne 7, 3) := by decide +kernel
theorem dX12_isInBy_88 : decode cX12_isInBy 88 = .ok (.iconst 1, 1) := by decide +kernel
theorem dX12_isInBy_89 : decode cX12_isInBy 89 = .ok (.goto 4, 3) := by decide +kernel
theorem dX12_isInBy_92 : decode cX12_isInBy 92 = .ok (.iconst 0, 1) := by decide +kernel
theorem dX12_isInBy_93 : decode cX12_isInBy 93 = .ok (.ireturn, 1) := by decide +kernel
theorem dX12_gain_0 : decode cX12_gain 0 = .ok (.aload_n 0, 1) := by decide +kernel
theorem dX12_gain_1 : decode cX12_gain 1 = .ok (.iload_n 1, 1) := by decide +kernel
theorem dX12_gain_2 : decode cX12_gain 2 = .ok (.aload_n 0, 1) := by decide +kernel
theorem dX12_gain_3 : decode cX12_gain 3 = .ok (.getfield 227, 3) := by decide +kernel
theorem dX12_gain_6 : decode cX12_gain 6 = .ok (.aload_n 0, 1) := by decide +kernel
theorem dX12_gain_7 : decode cX12_gain 7 = .ok (.getfield 230, 3) := by decide +kernel
theorem dX12_gain_10 : decode cX12_gain 10 = .ok (.aload_n 0, 1) := by decide +kernel
theorem dX12_gain_11 : decode cX12_gain 11 = .ok (.getfield 233, 3) := by decide +kernel
theorem dX12_gain_14 : decode cX12_gain 14 = .ok (.iload_n 3, 1) := by decide +kernel
theorem dX12_gain_15 : decode cX12_gain 15 = .ok (.iconst 1, 1) := by decide +kernel
theorem dX12_gain_16 : decode cX12_gain 16 = .ok (.ishr, 1) := by decide +kernel
theorem dX12_gain_17 : decode cX12_gain 17 = .ok (.iconst 1, 1) := by decide +kernel
theorem dX12_gain_18 : decode cX12_gain 18 = .ok (.iand, 1) := by decide +kernel
theorem dX12_gain_19 : decode cX12_gain 19 = .ok (.invokevirtual 236, 3) := by decide +kernel
theorem dX12_gain_22 : decode cX12_gain 22 = .ok (.istore 4, 2) := by decide +kernel
theorem dX12_gain_24 : decode cX12_gain 24 = .ok (.aload_n 0, 1) := by decide +kernel
theorem dX12_gain_25 : decode cX12_gain 25 = .ok (.iload_n 1, 1) := by decide +kernel
theorem dX12_gain_26 : decode cX12_gain 26 = .ok (.aload_n 0, 1) := by decide +kernel
theorem dX12_gain_27 : decode cX12_gain 27 = .ok (.getfield 240, 3) := by decide +kernel
theorem dX12_gain_30 : decode cX12_gain 30 = .ok (.aload_n 0, 1) := by decide +kernel
theorem dX12_gain_31 : decode cX12_gain 31 = .ok (.getfield 230, 3) := by decide +kernel
theorem dX12_gain_34 : decode cX12_gain 34 = .ok (.aload_n 0, 1) := by decide +kernel
theorem dX12_gain_35 : decode cX12_gain 35 = .ok (.getfield 233, 3) := by decide +kernel
theorem dX12_gain_38 : decode cX12_gain 38 = .ok (.iload_n 3, 1) := by decide +kernel
theorem dX12_gain_39 : decode cX12_gain 39 = .ok (.iconst 1, 1) := by decide +kernel
theorem dX12_gain_40 : decode cX12_gain 40 = .ok (.iand, 1) := by decide +kernel
theorem dX12_gain_41 : decode cX12_gain 41 = .ok (.invokevirtual 236, 3) := by decide +kernel
theorem dX12_gain_44 : decode cX12_gain 44 = .ok (.istore 5, 2) := by decide +kernel
theorem dX12_gain_46 : decode cX12_gain 46 = .ok (.iload 4, 2) := by decide +kernel
theorem dX12_gain_48 : decode cX12_gain 48 = .ok (.ifCond .eq 22, 3) := by decide +kernel
theorem dX12_gain_51 : decode cX12_gain 51 = .ok (.iconst 5, 1) := by decide +kernel
theorem dX12_gain_52 : decode cX12_gain 52 = .ok (.aload_n 0, 1) := by decide +kernel
theorem dX12_gain_53 : decode cX12_gain 53 = .ok (.getfield 22, 3) := by decide +kernel
theorem dX12_gain_56 : decode cX12_gain 56 = .ok (.bipush 6, 2) := by decide +kernel
theorem dX12_gain_58 : decode cX12_gain 58 = .ok (.iload_n 2, 1) := by decide +kernel
theorem dX12_gain_59 : decode cX12_gain 59 = .ok (.imul, 1) := by decide +kernel
theorem dX12_gain_60 : decode cX12_gain 60 = .ok (.aload_n 0, 1) := by decide +kernel
theorem dX12_gain_61 : decode cX12_gain 61 = .ok (.getfield 227, 3) := by decide +kernel
theorem dX12_gain_64 : decode cX12_gain 64 = .ok (.iadd, 1) := by decide +kernel
theorem dX12_gain_65 : decode cX12_gain 65 = .ok (.iaload, 1) := by decide +kernel
theorem dX12_gain_66 : decode cX12_gain 66 = .ok (.isub, 1) := by decide +kernel
theorem dX12_gain_67 : decode cX12_gain 67 = .ok (.goto 4, 3) := by decide +kernel
theorem dX12_gain_70 : decode cX12_gain 70 = .ok (.iconst 0, 1) := by decide +kernel
theorem dX12_gain_71 : decode cX12_gain 71 = .ok (.iload 5, 2) := by decide +kernel
theorem dX12_gain_73 : decode cX12_gain 73 = .ok (.ifCond .eq 22, 3) := by decide +kernel
theorem dX12_gain_76 : decode cX12_gain 76 = .ok (.iconst 5, 1) := by decide +kernel
theorem dX12_gain_77 : decode cX12_gain 77 = .ok (.aload_n 0, 1) := by decide +kernel
theorem dX12_gain_78 : decode cX12_gain 78 = .ok (.getfield 22, 3) := by decide +kernel
theorem dX12_gain_81 : decode cX12_gain 81 = .ok (.bipush 6, 2) := by decide +kernel
theorem dX12_gain_83 : decode cX12_gain 83 = .ok (.iload_n 2, 1) := by decide +kernel
theorem dX12_gain_84 : decode cX12_gain 84 = .ok (.imul, 1) := by decide +kernel
theorem dX12_gain_85 : decode cX12_gain 85 = .ok (.aload_n 0, 1) := by decide +kernel
theorem dX12_gain_86 : decode cX12_gain 86 = .ok (.getfield 240, 3) := by decide +kernel
theorem dX12_gain_89 : decode cX12_gain 89 = .ok (.iadd, 1) := by decide +kernel
theorem dX12_gain_90 : decode cX12_gain 90 = .ok (.iaload, 1) := by decide +kernel
theorem dX12_gain_91 : decode cX12_gain 91 = .ok (.isub, 1) := by decide +kernel
theorem dX12_gain_92 : decode cX12_gain 92 = .ok (.goto 4, 3) := by decide +kernel
theorem dX12_gain_95 : decode cX12_gain 95 = .ok (.iconst 0, 1) := by decide +kernel
theorem dX12_gain_96 : decode cX12_gain 96 = .ok (.iadd, 1) := by decide +kernel
theorem dX12_gain_97 : decode cX12_gain 97 = .ok (.ireturn, 1) := by decide +kernel
theorem dX12_trade_0 : decode cX12_trade 0 = .ok (.aload_n 0, 1) := by decide +kernel
theorem dX12_trade_1 : decode cX12_trade 1 = .ok (.iload_n 1, 1) := by decide +kernel
theorem dX12_trade_2 : decode cX12_trade 2 = .ok (.invokevirtual 113, 3) := by decide +kernel
theorem dX12_trade_5 : decode cX12_trade 5 = .ok (.ifCond .eq 49, 3) := by decide +kernel
theorem dX12_trade_8 : decode cX12_trade 8 = .ok (.aload_n 0, 1) := by decide +kernel
theorem dX12_trade_9 : decode cX12_trade 9 = .ok (.iload_n 2, 1) := by decide +kernel
theorem dX12_trade_10 : decode cX12_trade 10 = .ok (.invokevirtual 125, 3) := by decide +kernel
theorem dX12_trade_13 : decode cX12_trade 13 = .ok (.ifCond .eq 41, 3) := by decide +kernel
theorem dX12_trade_16 : decode cX12_trade 16 = .ok (.aload_n 0, 1) := by decide +kernel
theorem dX12_trade_17 : decode cX12_trade 17 = .ok (.iload_n 3, 1) := by decide +kernel
theorem dX12_trade_18 : decode cX12_trade 18 = .ok (.invokevirtual 125, 3) := by decide +kernel
theorem dX12_trade_21 : decode cX12_trade 21 = .ok (.ifCond .eq 33, 3) := by decide +kernel
theorem dX12_trade_24 : decode cX12_trade 24 = .ok (.iload_n 2, 1) := by decide +kernel
theorem dX12_trade_25 : decode cX12_trade 25 = .ok (.iload_n 3, 1) := by decide +kernel
theorem dX12_trade_26 : decode cX12_trade 26 = .ok (.if_icmp .eq 28, 3) := by decide +kernel
theorem dX12_trade_29 : decode cX12_trade 29 = .ok (.aload_n 0, 1) := by decide +kernel
theorem dX12_trade_30 : decode cX12_trade 30 = .ok (.iload 4, 2) := by decide +kernel
theorem dX12_trade_32 : decode cX12_trade 32 = .ok (.invokevirtual 131, 3) := by decide +kernel
theorem dX12_trade_35 : decode cX12_trade 35 = .ok (.ifCond .eq 19, 3) := by decide +kernel
theorem dX12_trade_38 : decode cX12_trade 38 = .ok (.aload_n 0, 1) := by decide +kernel
theorem dX12_trade_39 : decode cX12_trade 39 = .ok (.iload 5, 2) := by decide +kernel
theorem dX12_trade_41 : decode cX12_trade 41 = .ok (.invokevirtual 131, 3) := by decide +kernel
theorem dX12_trade_44 : decode cX12_trade 44 = .ok (.ifCond .eq 10, 3) := by decide +kernel
theorem dX12_trade_47 : decode cX12_trade 47 = .ok (.iload 4, 2) := by decide +kernel
theorem dX12_trade_49 : decode cX12_trade 49 = .ok (.iload 5, 2) := by decide +kernel
theorem dX12_trade_51 : decode cX12_trade 51 = .ok (.if_icmp .ne 6, 3) := by decide +kernel
theorem dX12_trade_54 : decode cX12_trade 54 = .ok (.bipush (-101), 2) := by decide +kernel
theorem dX12_trade_56 : decode cX12_trade 56 = .ok (.ireturn, 1) := by decide +kernel
theorem dX12_trade_57 : decode cX12_trade 57 = .ok (.aload_n 0, 1) := by decide +kernel
theorem dX12_trade_58 : decode cX12_trade 58 = .ok (.iload_n 2, 1) := by decide +kernel
theorem dX12_trade_59 : decode cX12_trade 59 = .ok (.putfield 230, 3) := by decide +kernel
theorem dX12_trade_62 : decode cX12_trade 62 = .ok (.aload_n 0, 1) := by decide +kernel
theorem dX12_trade_63 : decode cX12_trade 63 = .ok (.iload_n 3, 1) := by decide +kernel
theorem dX12_trade_64 : decode cX12_trade 64 = .ok (.putfield 233, 3) := by decide +kernel
theorem dX12_trade_67 : decode cX12_trade 67 = .ok (.aload_n 0, 1) := by decide +kernel
theorem dX12_trade_68 : decode cX12_trade 68 = .ok (.iload 4, 2) := by decide +kernel
theorem dX12_trade_70 : decode cX12_trade 70 = .ok (.putfield 227, 3) := by decide +kernel
theorem dX12_trade_73 : decode cX12_trade 73 = .ok (.aload_n 0, 1) := by decide +kernel
theorem dX12_trade_74 : decode cX12_trade 74 = .ok (.iload 5, 2) := by decide +kernel
theorem dX12_trade_76 : decode cX12_trade 76 = .ok (.putfield 240, 3) := by decide +kernel
theorem dX12_trade_79 : decode cX12_trade 79 = .ok (.iconst 0, 1) := by decide +kernel
theorem dX12_trade_80 : decode cX12_trade 80 = .ok (.istore 6, 2) := by decide +kernel
theorem dX12_trade_82 : decode cX12_trade 82 = .ok (.iconst 0, 1) := by decide +kernel
theorem dX12_trade_83 : decode cX12_trade 83 = .ok (.istore 7, 2) := by decide +kernel
theorem dX12_trade_85 : decode cX12_trade 85 = .ok (.iload 7, 2) := by decide +kernel
theorem dX12_trade_87 : decode cX12_trade 87 = .ok (.iconst 4, 1) := by decide +kernel
theorem dX12_trade_88 : decode cX12_trade 88 = .ok (.if_icmp .ge 76, 3) := by decide +kernel
theorem dX12_trade_91 : decode cX12_trade 91 = .ok (.aload_n 0, 1) := by decide +kernel
theorem dX12_trade_92 : decode cX12_trade 92 = .ok (.iload_n 1, 1) := by decide +kernel
theorem dX12_trade_93 : decode cX12_trade 93 = .ok (.iload_n 2, 1) := by decide +kernel
theorem dX12_trade_94 : decode cX12_trade 94 = .ok (.iload 7, 2) := by decide +kernel
theorem dX12_trade_96 : decode cX12_trade 96 = .ok (.invokevirtual 243, 3) := by decide +kernel
theorem dX12_trade_99 : decode cX12_trade 99 = .ok (.aload_n 0, 1) := by decide +kernel
theorem dX12_trade_100 : decode cX12_trade 100 = .ok (.iload_n 1, 1) := by decide +kernel
theorem dX12_trade_101 : decode cX12_trade 101 = .ok (.iload_n 2, 1) := by decide +kernel
theorem dX12_trade_102 : decode cX12_trade 102 = .ok (.iload 7, 2) := by decide +kernel
theorem dX12_trade_104 : decode cX12_trade 104 = .ok (.iconst 1, 1) := by decide +kernel
theorem dX12_trade_105 : decode cX12_trade 105 = .ok (.ixor, 1) := by decide +kernel
theorem dX12_trade_106 : decode cX12_trade 106 = .ok (.invokevirtual 243, 3) := by decide +kernel
theorem dX12_trade_109 : decode cX12_trade 109 = .ok (.if_icmp .lt 28, 3) := by decide +kernel
theorem dX12_trade_112 : decode cX12_trade 112 = .ok (.aload_n 0, 1) := by decide +kernel
theorem dX12_trade_113 : decode cX12_trade 113 = .ok (.iload_n 1, 1) := by decide +kernel
theorem dX12_trade_114 : decode cX12_trade 114 = .ok (.iload_n 3, 1) := by decide +kernel
theorem dX12_trade_115 : decode cX12_trade 115 = .ok (.iload 7, 2) := by decide +kernel
theorem dX12_trade_117 : decode cX12_trade 117 = .ok (.invokevirtual 243, 3) := by decide +kernel
theorem dX12_trade_120 : decode cX12_trade 120 = .ok (.aload_n 0, 1) := by decide +kernel
theorem dX12_trade_121 : decode cX12_trade 121 = .ok (.iload_n 1, 1) := by decide +kernel
theorem dX12_trade_122 : decode cX12_trade 122 = .ok (.iload_n 3, 1) := by decide +kernel
theorem dX12_trade_123 : decode cX12_trade 123 = .ok (.iload 7, 2) := by decide +kernel
theorem dX12_trade_125 : decode cX12_trade 125 = .ok (.iconst 2, 1) := by decide +kernel
theorem dX12_trade_126 : decode cX12_trade 126 = .ok (.ixor, 1) := by decide +kernel
theorem dX12_trade_127 : decode cX12_trade 127 = .ok (.invokevirtual 243, 3) := by decide +kernel
theorem dX12_trade_130 : decode cX12_trade 130 = .ok (.if_icmp .lt 7, 3) := by decide +kernel
theorem dX12_trade_133 : decode cX12_trade 133 = .ok (.iconst 1, 1) := by decide +kernel
theorem dX12_trade_134 : decode cX12_trade 134 = .ok (.goto 4, 3) := by decide +kernel
theorem dX12_trade_137 : decode cX12_trade 137 = .ok (.iconst 0, 1) := by decide +kernel
theorem dX12_trade_138 : decode cX12_trade 138 = .ok (.istore 8, 2) := by decide +kernel
theorem dX12_trade_140 : decode cX12_trade 140 = .ok (.iload 6, 2) := by decide +kernel
theorem dX12_trade_142 : decode cX12_trade 142 = .ok (.iload 8, 2) := by decide +kernel
theorem dX12_trade_144 : decode cX12_trade 144 = .ok (.ifCond .eq 10, 3) := by decide +kernel
theorem dX12_trade_147 : decode cX12_trade 147 = .ok (.iconst 1, 1) := by decide +kernel
theorem dX12_trade_148 : decode cX12_trade 148 = .ok (.iload 7, 2) := by decide +kernel
theorem dX12_trade_150 : decode cX12_trade 150 = .ok (.ishl, 1) := by decide +kernel
theorem dX12_trade_151 : decode cX12_trade 151 = .ok (.goto 4, 3) := by decide +kernel
theorem dX12_trade_154 : decode cX12_trade 154 = .ok (.iconst 0, 1) := by decide +kernel
theorem dX12_trade_155 : decode cX12_trade 155 = .ok (.ior, 1) := by decide +kernel
theorem dX12_trade_156 : decode cX12_trade 156 = .ok (.istore 6, 2) := by decide +kernel
theorem dX12_trade_158 : decode cX12_trade 158 = .ok (.iinc 7 1, 3) := by decide +kernel
theorem dX12_trade_161 : decode cX12_trade 161 = .ok (.goto (-76), 3) := by decide +kernel
theorem dX12_trade_164 : decode cX12_trade 164 = .ok (.iload 6, 2) := by decide +kernel
theorem dX12_trade_166 : decode cX12_trade 166 = .ok (.ireturn, 1) := by decide +kernel
theorem dX12_elevens_0 : decode cX12_elevens 0 = .ok (.lconst 1, 1) := by decide +kernel
theorem dX12_elevens_1 : decode cX12_elevens 1 = .ok (.lstore_n 1, 1) := by decide +kernel
theorem dX12_elevens_2 : decode cX12_elevens 2 = .ok (.iconst 0, 1) := by decide +kernel
theorem dX12_elevens_3 : decode cX12_elevens 3 = .ok (.istore_n 3, 1) := by decide +kernel
theorem dX12_elevens_4 : decode cX12_elevens 4 = .ok (.iload_n 3, 1) := by decide +kernel
theorem dX12_elevens_5 : decode cX12_elevens 5 = .ok (.iload_n 0, 1) := by decide +kernel
theorem dX12_elevens_6 : decode cX12_elevens 6 = .ok (.if_icmp .ge 15, 3) := by decide +kernel
theorem dX12_elevens_9 : decode cX12_elevens 9 = .ok (.lload_n 1, 1) := by decide +kernel
theorem dX12_elevens_10 : decode cX12_elevens 10 = .ok (.ldc2_w 246, 3) := by decide +kernel
theorem dX12_elevens_13 : decode cX12_elevens 13 = .ok (.lmul, 1) := by decide +kernel
theorem dX12_elevens_14 : decode cX12_elevens 14 = .ok (.lstore_n 1, 1) := by decide +kernel
theorem dX12_elevens_15 : decode cX12_elevens 15 = .ok (.iinc 3 1, 3) := by decide +kernel
theorem dX12_elevens_18 : decode cX12_elevens 18 = .ok (.goto (-14), 3) := by decide +kernel
theorem dX12_elevens_21 : decode cX12_elevens 21 = .ok (.lload_n 1, 1) := by decide +kernel
theorem dX12_elevens_22 : decode cX12_elevens 22 = .ok (.lreturn, 1) := by decide +kernel
theorem dX12_isUsed_0 : decode cX12_isUsed 0 = .ok (.iload_n 2, 1) := by decide +kernel
theorem dX12_isUsed_1 : decode cX12_isUsed 1 = .ok (.ifCond .le 47, 3) := by decide +kernel
theorem dX12_isUsed_4 : decode cX12_isUsed 4 = .ok (.iload_n 3, 1) := by decide +kernel
theorem dX12_isUsed_5 : decode cX12_isUsed 5 = .ok (.i2l, 1) := by decide +kernel
theorem dX12_isUsed_6 : decode cX12_isUsed 6 = .ok (.iload_n 1, 1) := by decide +kernel
theorem dX12_isUsed_7 : decode cX12_isUsed 7 = .ok (.iconst 1, 1) := by decide +kernel
theorem dX12_isUsed_8 : decode cX12_isUsed 8 = .ok (.isub, 1) := by decide +kernel
theorem dX12_isUsed_9 : decode cX12_isUsed 9 = .ok (.invokestatic 248, 3) := by decide +kernel
theorem dX12_isUsed_12 : decode cX12_isUsed 12 = .ok (.lmul, 1) := by decide +kernel
theorem dX12_isUsed_13 : decode cX12_isUsed 13 = .ok (.aload_n 0, 1) := by decide +kernel
theorem dX12_isUsed_14 : decode cX12_isUsed 14 = .ok (.getfield 55, 3) := by decide +kernel
theorem dX12_isUsed_17 : decode cX12_isUsed 17 = .ok (.iconst 4, 1) := by decide +kernel
theorem dX12_isUsed_18 : decode cX12_isUsed 18 = .ok (.iload_n 1, 1) := by decide +kernel
theorem dX12_isUsed_19 : decode cX12_isUsed 19 = .ok (.iconst 1, 1) := by decide +kernel
theorem dX12_isUsed_20 : decode cX12_isUsed 20 = .ok (.isub, 1) := by decide +kernel
theorem dX12_isUsed_21 : decode cX12_isUsed 21 = .ok (.imul, 1) := by decide +kernel
theorem dX12_isUsed_22 : decode cX12_isUsed 22 = .ok (.iload_n 2, 1) := by decide +kernel
theorem dX12_isUsed_23 : decode cX12_isUsed 23 = .ok (.iadd, 1) := by decide +kernel
theorem dX12_isUsed_24 : decode cX12_isUsed 24 = .ok (.iconst 1, 1) := by decide +kernel
theorem dX12_isUsed_25 : decode cX12_isUsed 25 = .ok (.isub, 1) := by decide +kernel
theorem dX12_isUsed_26 : decode cX12_isUsed 26 = .ok (.laload, 1) := by decide +kernel
theorem dX12_isUsed_27 : decode cX12_isUsed 27 = .ok (.ladd, 1) := by decide +kernel
theorem dX12_isUsed_28 : decode cX12_isUsed 28 = .ok (.aload_n 0, 1) := by decide +kernel
theorem dX12_isUsed_29 : decode cX12_isUsed 29 = .ok (.getfield 55, 3) := by decide +kernel
theorem dX12_isUsed_32 : decode cX12_isUsed 32 = .ok (.iconst 4, 1) := by decide +kernel
theorem dX12_isUsed_33 : decode cX12_isUsed 33 = .ok (.iload_n 1, 1) := by decide +kernel
theorem dX12_isUsed_34 : decode cX12_isUsed 34 = .ok (.iconst 1, 1) := by decide +kernel
theorem dX12_isUsed_35 : decode cX12_isUsed 35 = .ok (.isub, 1) := by decide +kernel
theorem dX12_isUsed_36 : decode cX12_isUsed 36 = .ok (.imul, 1) := by decide +kernel
theorem dX12_isUsed_37 : decode cX12_isUsed 37 = .ok (.iload_n 2, 1) := by decide +kernel
theorem dX12_isUsed_38 : decode cX12_isUsed 38 = .ok (.iadd, 1) := by decide +kernel
theorem dX12_isUsed_39 : decode cX12_isUsed 39 = .ok (.laload, 1) := by decide +kernel
theorem dX12_isUsed_40 : decode cX12_isUsed 40 = .ok (.lcmp, 1) := by decide +kernel
theorem dX12_isUsed_41 : decode cX12_isUsed 41 = .ok (.ifCond .le 7, 3) := by decide +kernel
theorem dX12_isUsed_44 : decode cX12_isUsed 44 = .ok (.iconst 1, 1) := by decide +kernel
theorem dX12_isUsed_45 : decode cX12_isUsed 45 = .ok (.goto 4, 3) := by decide +kernel
theorem dX12_isUsed_48 : decode cX12_isUsed 48 = .ok (.iconst 0, 1) := by decide +kernel
theorem dX12_isUsed_49 : decode cX12_isUsed 49 = .ok (.ireturn, 1) := by decide +kernel
theorem dX12_layVetoes_0 : decode cX12_layVetoes 0 = .ok (.iconst 0, 1) := by decide +kernel
theorem dX12_layVetoes_1 : decode cX12_layVetoes 1 = .ok (.istore_n 2, 1) := by decide +kernel
theorem dX12_layVetoes_2 : decode cX12_layVetoes 2 = .ok (.iload_n 2, 1) := by decide +kernel
theorem dX12_layVetoes_3 : decode cX12_layVetoes 3 = .ok (.iconst 4, 1) := by decide +kernel
theorem dX12_layVetoes_4 : decode cX12_layVetoes 4 = .ok (.if_icmp .ge 16, 3) := by decide +kernel
theorem dX12_layVetoes_7 : decode cX12_layVetoes 7 = .ok (.aload_n 0, 1) := by decide +kernel
theorem dX12_layVetoes_8 : decode cX12_layVetoes 8 = .ok (.getfield 55, 3) := by decide +kernel
theorem dX12_layVetoes_11 : decode cX12_layVetoes 11 = .ok (.iload_n 2, 1) := by decide +kernel
theorem dX12_layVetoes_12 : decode cX12_layVetoes 12 = .ok (.lconst 0, 1) := by decide +kernel
theorem dX12_layVetoes_13 : decode cX12_layVetoes 13 = .ok (.lastore, 1) := by decide +kernel
theorem dX12_layVetoes_14 : decode cX12_layVetoes 14 = .ok (.iinc 2 1, 3) := by decide +kernel
theorem dX12_layVetoes_17 : decode cX12_layVetoes 17 = .ok (.goto (-15), 3) := by decide +kernel
theorem dX12_layVetoes_20 : decode cX12_layVetoes 20 = .ok (.iconst 1, 1) := by decide +kernel
theorem dX12_layVetoes_21 : decode cX12_layVetoes 21 = .ok (.istore_n 2, 1) := by decide +kernel
theorem dX12_layVetoes_22 : decode cX12_layVetoes 22 = .ok (.iload_n 2, 1) := by decide +kernel
theorem dX12_layVetoes_23 : decode cX12_layVetoes 23 = .ok (.iload_n 1, 1) := by decide +kernel
theorem dX12_layVetoes_24 : decode cX12_layVetoes 24 = .ok (.if_icmp .gt 109, 3) := by decide +kernel
theorem dX12_layVetoes_27 : decode cX12_layVetoes 27 = .ok (.iconst 0, 1) := by decide +kernel
theorem dX12_layVetoes_28 : decode cX12_layVetoes 28 = .ok (.istore_n 3, 1) := by decide +kernel
theorem dX12_layVetoes_29 : decode cX12_layVetoes 29 = .ok (.iload_n 3, 1) := by decide +kernel
theorem dX12_layVetoes_30 : decode cX12_layVetoes 30 = .ok (.iconst 4, 1) := by decide +kernel
theorem dX12_layVetoes_31 : decode cX12_layVetoes 31 = .ok (.if_icmp .ge 96, 3) := by decide +kernel
theorem dX12_layVetoes_34 : decode cX12_layVetoes 34 = .ok (.lconst 0, 1) := by decide +kernel
theorem dX12_layVetoes_35 : decode cX12_layVetoes 35 = .ok (.lstore 4, 2) := by decide +kernel
theorem dX12_layVetoes_37 : decode cX12_layVetoes 37 = .ok (.iconst 0, 1) := by decide +kernel
theorem dX12_layVetoes_38 : decode cX12_layVetoes 38 = .ok (.istore 6, 2) := by decide +kernel
theorem dX12_layVetoes_40 : decode cX12_layVetoes 40 = .ok (.iload 6, 2) := by decide +kernel
theorem dX12_layVetoes_42 : decode cX12_layVetoes 42 = .ok (.bipush 11, 2) := by decide +kernel
theorem dX12_layVetoes_44 : decode cX12_layVetoes 44 = .ok (.if_icmp .ge 65, 3) := by decide +kernel
theorem dX12_layVetoes_47 : decode cX12_layVetoes 47 = .ok (.lload 4, 2) := by decide +kernel
theorem dX12_layVetoes_49 : decode cX12_layVetoes 49 = .ok (.aload_n 0, 1) := by decide +kernel
theorem dX12_layVetoes_50 : decode cX12_layVetoes 50 = .ok (.iload_n 2, 1) := by decide +kernel
theorem dX12_layVetoes_51 : decode cX12_layVetoes 51 = .ok (.iload_n 3, 1) := by decide +kernel
theorem dX12_layVetoes_52 : decode cX12_layVetoes 52 = .ok (.iload 6, 2) := by decide +kernel
theorem dX12_layVetoes_54 : decode cX12_layVetoes 54 = .ok (.invokevirtual 251, 3) := by decide +kernel
theorem dX12_layVetoes_57 : decode cX12_layVetoes 57 = .ok (.ifCond .eq 31, 3) := by decide +kernel
theorem dX12_layVetoes_60 : decode cX12_layVetoes 60 = .ok (.iload 6, 2) := by decide +kernel
theorem dX12_layVetoes_62 : decode cX12_layVetoes 62 = .ok (.i2l, 1) := by decide +kernel
theorem dX12_layVetoes_63 : decode cX12_layVetoes 63 = .ok (.iload_n 2, 1) := by decide +kernel
theorem dX12_layVetoes_64 : decode cX12_layVetoes 64 = .ok (.iconst 1, 1) := by decide +kernel
theorem dX12_layVetoes_65 : decode cX12_layVetoes 65 = .ok (.isub, 1) := by decide +kernel
theorem dX12_layVetoes_66 : decode cX12_layVetoes 66 = .ok (.invokestatic 248, 3) := by decide +kernel
theorem dX12_layVetoes_69 : decode cX12_layVetoes 69 = .ok (.lmul, 1) := by decide +kernel
theorem dX12_layVetoes_70 : decode cX12_layVetoes 70 = .ok (.aload_n 0, 1) := by decide +kernel
theorem dX12_layVetoes_71 : decode cX12_layVetoes 71 = .ok (.getfield 55, 3) := by decide +kernel
theorem dX12_layVetoes_74 : decode cX12_layVetoes 74 = .ok (.iconst 4, 1) := by decide +kernel
theorem dX12_layVetoes_75 : decode cX12_layVetoes 75 = .ok (.iload_n 2, 1) := by decide +kernel
theorem dX12_layVetoes_76 : decode cX12_layVetoes 76 = .ok (.iconst 1, 1) := by decide +kernel
theorem dX12_layVetoes_77 : decode cX12_layVetoes 77 = .ok (.isub, 1) := by decide +kernel
theorem dX12_layVetoes_78 : decode cX12_layVetoes 78 = .ok (.imul, 1) := by decide +kernel
theorem dX12_layVetoes_79 : decode cX12_layVetoes 79 = .ok (.iload_n 3, 1) := by decide +kernel
theorem dX12_layVetoes_80 : decode cX12_layVetoes 80 = .ok (.iadd, 1) := by decide +kernel
theorem dX12_layVetoes_81 : decode cX12_layVetoes 81 = .ok (.iconst 1, 1) := by decide +kernel
theorem dX12_layVetoes_82 : decode cX12_layVetoes 82 = .ok (.isub, 1) := by decide +kernel
theorem dX12_layVetoes_83 : decode cX12_layVetoes 83 = .ok (.laload, 1) := by decide +kernel
theorem dX12_layVetoes_84 : decode cX12_layVetoes 84 = .ok (.ladd, 1) := by decide +kernel
theorem dX12_layVetoes_85 : decode cX12_layVetoes 85 = .ok (.goto 15, 3) := by decide +kernel
theorem dX12_layVetoes_88 : decode cX12_layVetoes 88 = .ok (.aload_n 0, 1) := by decide +kernel
theorem dX12_layVetoes_89 : decode cX12_layVetoes 89 = .ok (.getfield 55, 3) := by decide +kernel
theorem dX12_layVetoes_92 : decode cX12_layVetoes 92 = .ok (.iconst 4, 1) := by decide +kernel
theorem dX12_layVetoes_93 : decode cX12_layVetoes 93 = .ok (.iload_n 2, 1) := by decide +kernel
theorem dX12_layVetoes_94 : decode cX12_layVetoes 94 = .ok (.iconst 1, 1) := by decide +kernel
theorem dX12_layVetoes_95 : decode cX12_layVetoes 95 = .ok (.isub, 1) := by decide +kernel
theorem dX12_layVetoes_96 : decode cX12_layVetoes 96 = .ok (.imul, 1) := by decide +kernel
theorem dX12_layVetoes_97 : decode cX12_layVetoes 97 = .ok (.iload_n 3, 1) := by decide +kernel
theorem dX12_layVetoes_98 : decode cX12_layVetoes 98 = .ok (.iadd, 1) := by decide +kernel
theorem dX12_layVetoes_99 : decode cX12_layVetoes 99 = .ok (.laload, 1) := by decide +kernel
theorem dX12_layVetoes_100 : decode cX12_layVetoes 100 = .ok (.ladd, 1) := by decide +kernel
theorem dX12_layVetoes_101 : decode cX12_layVetoes 101 = .ok (.lstore 4, 2) := by decide +kernel
theorem dX12_layVetoes_103 : decode cX12_layVetoes 103 = .ok (.iinc 6 1, 3) := by decide +kernel
theorem dX12_layVetoes_106 : decode cX12_layVetoes 106 = .ok (.goto (-66), 3) := by decide +kernel
theorem dX12_layVetoes_109 : decode cX12_layVetoes 109 = .ok (.aload_n 0, 1) := by decide +kernel
theorem dX12_layVetoes_110 : decode cX12_layVetoes 110 = .ok (.getfield 55, 3) := by decide +kernel
theorem dX12_layVetoes_113 : decode cX12_layVetoes 113 = .ok (.iconst 4, 1) := by decide +kernel
theorem dX12_layVetoes_114 : decode cX12_layVetoes 114 = .ok (.iload_n 2, 1) := by decide +kernel
theorem dX12_layVetoes_115 : decode cX12_layVetoes 115 = .ok (.imul, 1) := by decide +kernel
theorem dX12_layVetoes_116 : decode cX12_layVetoes 116 = .ok (.iload_n 3, 1) := by decide +kernel
theorem dX12_layVetoes_117 : decode cX12_layVetoes 117 = .ok (.iadd, 1) := by decide +kernel
theorem dX12_layVetoes_118 : decode cX12_layVetoes 118 = .ok (.lload 4, 2) := by decide +kernel
theorem dX12_layVetoes_120 : decode cX12_layVetoes 120 = .ok (.lastore, 1) := by decide +kernel
theorem dX12_layVetoes_121 : decode cX12_layVetoes 121 = .ok (.iinc 3 1, 3) := by decide +kernel
theorem dX12_layVetoes_124 : decode cX12_layVetoes 124 = .ok (.goto (-95), 3) := by decide +kernel
theorem dX12_layVetoes_127 : decode cX12_layVetoes 127 = .ok (.iinc 2 1, 3) := by decide +kernel
theorem dX12_layVetoes_130 : decode cX12_layVetoes 130 = .ok (.goto (-108), 3) := by decide +kernel
theorem dX12_layVetoes_133 : decode cX12_layVetoes 133 = .ok (.return_, 1) := by decide +kernel
theorem dX12_veto_0 : decode cX12_veto 0 = .ok (.iload_n 1, 1) := by decide +kernel
theorem dX12_veto_1 : decode cX12_veto 1 = .ok (.iconst 1, 1) := by decide +kernel
theorem dX12_veto_2 : decode cX12_veto 2 = .ok (.bipush 8, 2) := by decide +kernel
theorem dX12_veto_4 : decode cX12_veto 4 = .ok (.invokestatic 61, 3) := by decide +kernel
theorem dX12_veto_7 : decode cX12_veto 7 = .ok (.ifCond .eq 22, 3) := by decide +kernel
theorem dX12_veto_10 : decode cX12_veto 10 = .ok (.iload_n 2, 1) := by decide +kernel
theorem dX12_veto_11 : decode cX12_veto 11 = .ok (.iconst 0, 1) := by decide +kernel
theorem dX12_veto_12 : decode cX12_veto 12 = .ok (.iconst 3, 1) := by decide +kernel
theorem dX12_veto_13 : decode cX12_veto 13 = .ok (.invokestatic 61, 3) := by decide +kernel
theorem dX12_veto_16 : decode cX12_veto 16 = .ok (.ifCond .eq 13, 3) := by decide +kernel
theorem dX12_veto_19 : decode cX12_veto 19 = .ok (.iload_n 3, 1) := by decide +kernel
theorem dX12_veto_20 : decode cX12_veto 20 = .ok (.iconst 0, 1) := by decide +kernel
theorem dX12_veto_21 : decode cX12_veto 21 = .ok (.bipush 10, 2) := by decide +kernel
theorem dX12_veto_23 : decode cX12_veto 23 = .ok (.invokestatic 61, 3) := by decide +kernel
theorem dX12_veto_26 : decode cX12_veto 26 = .ok (.ifCond .ne 6, 3) := by decide +kernel
theorem dX12_veto_29 : decode cX12_veto 29 = .ok (.bipush (-102), 2) := by decide +kernel
theorem dX12_veto_31 : decode cX12_veto 31 = .ok (.ireturn, 1) := by decide +kernel
theorem dX12_veto_32 : decode cX12_veto 32 = .ok (.aload_n 0, 1) := by decide +kernel
theorem dX12_veto_33 : decode cX12_veto 33 = .ok (.iload_n 1, 1) := by decide +kernel
theorem dX12_veto_34 : decode cX12_veto 34 = .ok (.invokevirtual 254, 3) := by decide +kernel
theorem dX12_veto_37 : decode cX12_veto 37 = .ok (.aload_n 0, 1) := by decide +kernel
theorem dX12_veto_38 : decode cX12_veto 38 = .ok (.iload_n 1, 1) := by decide +kernel
theorem dX12_veto_39 : decode cX12_veto 39 = .ok (.iload_n 2, 1) := by decide +kernel
theorem dX12_veto_40 : decode cX12_veto 40 = .ok (.iload_n 3, 1) := by decide +kernel
theorem dX12_veto_41 : decode cX12_veto 41 = .ok (.invokevirtual 251, 3) := by decide +kernel
theorem dX12_veto_44 : decode cX12_veto 44 = .ok (.ifCond .eq 7, 3) := by decide +kernel
theorem dX12_veto_47 : decode cX12_veto 47 = .ok (.iconst 1, 1) := by decide +kernel
theorem dX12_veto_48 : decode cX12_veto 48 = .ok (.goto 4, 3) := by decide +kernel
theorem dX12_veto_51 : decode cX12_veto 51 = .ok (.iconst 0, 1) := by decide +kernel
theorem dX12_veto_52 : decode cX12_veto 52 = .ok (.ireturn, 1) := by decide +kernel
theorem dX12_worth_0 : decode cX12_worth 0 = .ok (.iload_n 1, 1) := by decide +kernel
theorem dX12_worth_1 : decode cX12_worth 1 = .ok (.iconst 1, 1) := by decide +kernel
theorem dX12_worth_2 : decode cX12_worth 2 = .ok (.bipush 8, 2) := by decide +kernel
theorem dX12_worth_4 : decode cX12_worth 4 = .ok (.invokestatic 61, 3) := by decide +kernel
theorem dX12_worth_7 : decode cX12_worth 7 = .ok (.ifCond .eq 19, 3) := by decide +kernel
theorem dX12_worth_10 : decode cX12_worth 10 = .ok (.iload_n 2, 1) := by decide +kernel
theorem dX12_worth_11 : decode cX12_worth 11 = .ok (.iconst 0, 1) := by decide +kernel
theorem dX12_worth_12 : decode cX12_worth 12 = .ok (.iconst 3, 1) := by decide +kernel
theorem dX12_worth_13 : decode cX12_worth 13 = .ok (.invokestatic 61, 3) := by decide +kernel
theorem dX12_worth_16 : decode cX12_worth 16 = .ok (.ifCond .eq 10, 3) := by decide +kernel
theorem dX12_worth_19 : decode cX12_worth 19 = .ok (.iload_n 3, 1) := by decide +kernel
theorem dX12_worth_20 : decode cX12_worth 20 = .ok (.invokestatic 175, 3) := by decide +kernel
theorem dX12_worth_23 : decode cX12_worth 23 = .ok (.ifCond .ne 7, 3) := by decide +kernel
theorem dX12_worth_26 : decode cX12_worth 26 = .ok (.ldc2_w 184, 3) := by decide +kernel
theorem dX12_worth_29 : decode cX12_worth 29 = .ok (.lreturn, 1) := by decide +kernel
theorem dX12_worth_30 : decode cX12_worth 30 = .ok (.aload_n 0, 1) := by decide +kernel
theorem dX12_worth_31 : decode cX12_worth 31 = .ok (.iload_n 1, 1) := by decide +kernel
theorem dX12_worth_32 : decode cX12_worth 32 = .ok (.invokevirtual 254, 3) := by decide +kernel
theorem dX12_worth_35 : decode cX12_worth 35 = .ok (.aload_n 0, 1) := by decide +kernel
theorem dX12_worth_36 : decode cX12_worth 36 = .ok (.getfield 55, 3) := by decide +kernel
theorem dX12_worth_39 : decode cX12_worth 39 = .ok (.iconst 4, 1) := by decide +kernel
theorem dX12_worth_40 : decode cX12_worth 40 = .ok (.iload_n 1, 1) := by decide +kernel
theorem dX12_worth_41 : decode cX12_worth 41 = .ok (.imul, 1) := by decide +kernel
theorem dX12_worth_42 : decode cX12_worth 42 = .ok (.iload_n 2, 1) := by decide +kernel
theorem dX12_worth_43 : decode cX12_worth 43 = .ok (.iadd, 1) := by decide +kernel
theorem dX12_worth_44 : decode cX12_worth 44 = .ok (.laload, 1) := by decide +kernel
theorem dX12_worth_45 : decode cX12_worth 45 = .ok (.iload_n 1, 1) := by decide +kernel
theorem dX12_worth_46 : decode cX12_worth 46 = .ok (.invokestatic 248, 3) := by decide +kernel
theorem dX12_worth_49 : decode cX12_worth 49 = .ok (.iload_n 3, 1) := by decide +kernel
theorem dX12_worth_50 : decode cX12_worth 50 = .ok (.invokestatic 178, 3) := by decide +kernel
theorem dX12_worth_53 : decode cX12_worth 53 = .ok (.lreturn, 1) := by decide +kernel
theorem dX12_clubRound_0 : decode cX12_clubRound 0 = .ok (.iconst 0, 1) := by decide +kernel
theorem dX12_clubRound_1 : decode cX12_clubRound 1 = .ok (.istore_n 2, 1) := by decide +kernel
theorem dX12_clubRound_2 : decode cX12_clubRound 2 = .ok (.iconst 0, 1) := by decide +kernel
theorem dX12_clubRound_3 : decode cX12_clubRound 3 = .ok (.istore_n 3, 1) := by decide +kernel
theorem dX12_clubRound_4 : decode cX12_clubRound 4 = .ok (.iload_n 3, 1) := by decide +kernel
theorem dX12_clubRound_5 : decode cX12_clubRound 5 = .ok (.aload_n 0, 1) := by decide +kernel
theorem dX12_clubRound_6 : decode cX12_clubRound 6 = .ok (.getfield 258, 3) := by decide +kernel
theorem dX12_clubRound_9 : decode cX12_clubRound 9 = .ok (.if_icmp .ge 61, 3) := by decide +kernel
theorem dX12_clubRound_12 : decode cX12_clubRound 12 = .ok (.aload_n 0, 1) := by decide +kernel
theorem dX12_clubRound_13 : decode cX12_clubRound 13 = .ok (.getfield 58, 3) := by decide +kernel
theorem dX12_clubRound_16 : decode cX12_clubRound 16 = .ok (.iload_n 3, 1) := by decide +kernel
theorem dX12_clubRound_17 : decode cX12_clubRound 17 = .ok (.iaload, 1) := by decide +kernel
theorem dX12_clubRound_18 : decode cX12_clubRound 18 = .ok (.iload_n 1, 1) := by decide +kernel
theorem dX12_clubRound_19 : decode cX12_clubRound 19 = .ok (.if_icmp .ge 14, 3) := by decide +kernel
theorem dX12_clubRound_22 : decode cX12_clubRound 22 = .ok (.iload_n 1, 1) := by decide +kernel
theorem dX12_clubRound_23 : decode cX12_clubRound 23 = .ok (.aload_n 0, 1) := by decide +kernel
theorem dX12_clubRound_24 : decode cX12_clubRound 24 = .ok (.getfield 58, 3) := by decide +kernel
theorem dX12_clubRound_27 : decode cX12_clubRound 27 = .ok (.iload_n 3, 1) := by decide +kernel
theorem dX12_clubRound_28 : decode cX12_clubRound 28 = .ok (.iaload, 1) := by decide +kernel
theorem dX12_clubRound_29 : decode cX12_clubRound 29 = .ok (.isub, 1) := by decide +kernel
theorem dX12_clubRound_30 : decode cX12_clubRound 30 = .ok (.goto 11, 3) := by decide +kernel
theorem dX12_clubRound_33 : decode cX12_clubRound 33 = .ok (.aload_n 0, 1) := by decide +kernel
theorem dX12_clubRound_34 : decode cX12_clubRound 34 = .ok (.getfield 58, 3) := by decide +kernel
theorem dX12_clubRound_37 : decode cX12_clubRound 37 = .ok (.iload_n 3, 1) := by decide +kernel
theorem dX12_clubRound_38 : decode cX12_clubRound 38 = .ok (.iaload, 1) := by decide +kernel
theorem dX12_clubRound_39 : decode cX12_clubRound 39 = .ok (.iload_n 1, 1) := by decide +kernel
theorem dX12_clubRound_40 : decode cX12_clubRound 40 = .ok (.isub, 1) := by decide +kernel
theorem dX12_clubRound_41 : decode cX12_clubRound 41 = .ok (.istore 4, 2) := by decide +kernel
theorem dX12_clubRound_43 : decode cX12_clubRound 43 = .ok (.iload_n 2, 1) := by decide +kernel
theorem dX12_clubRound_44 : decode cX12_clubRound 44 = .ok (.aload_n 0, 1) := by decide +kernel
theorem dX12_clubRound_45 : decode cX12_clubRound 45 = .ok (.bipush 10, 2) := by decide +kernel
theorem dX12_clubRound_47 : decode cX12_clubRound 47 = .ok (.invokevirtual 220, 3) := by decide +kernel
theorem dX12_clubRound_50 : decode cX12_clubRound 50 = .ok (.iconst 2, 1) := by decide +kernel
theorem dX12_clubRound_51 : decode cX12_clubRound 51 = .ok (.iload 4, 2) := by decide +kernel
theorem dX12_clubRound_53 : decode cX12_clubRound 53 = .ok (.imul, 1) := by decide +kernel
theorem dX12_clubRound_54 : decode cX12_clubRound 54 = .ok (.if_icmp .ge 7, 3) := by decide +kernel
theorem dX12_clubRound_57 : decode cX12_clubRound 57 = .ok (.iconst 1, 1) := by decide +kernel
theorem dX12_clubRound_58 : decode cX12_clubRound 58 = .ok (.goto 4, 3) := by decide +kernel
theorem dX12_clubRound_61 : decode cX12_clubRound 61 = .ok (.iconst 0, 1) := by decide +kernel
theorem dX12_clubRound_62 : decode cX12_clubRound 62 = .ok (.iadd, 1) := by decide +kernel
theorem dX12_clubRound_63 : decode cX12_clubRound 63 = .ok (.istore_n 2, 1) := by decide +kernel
theorem dX12_clubRound_64 : decode cX12_clubRound 64 = .ok (.iinc 3 1, 3) := by decide +kernel
theorem dX12_clubRound_67 : decode cX12_clubRound 67 = .ok (.goto (-63), 3) := by decide +kernel
theorem dX12_clubRound_70 : decode cX12_clubRound 70 = .ok (.iload_n 2, 1) := by decide +kernel
theorem dX12_clubRound_71 : decode cX12_clubRound 71 = .ok (.ireturn, 1) := by decide +kernel
theorem dX12_isLetIn_0 : decode cX12_isLetIn 0 = .ok (.aload_n 0, 1) := by decide +kernel
theorem dX12_isLetIn_1 : decode cX12_isLetIn 1 = .ok (.getfield 258, 3) := by decide +kernel
theorem dX12_isLetIn_4 : decode cX12_isLetIn 4 = .ok (.ifCond .eq 16, 3) := by decide +kernel
theorem dX12_isLetIn_7 : decode cX12_isLetIn 7 = .ok (.aload_n 0, 1) := by decide +kernel
theorem dX12_isLetIn_8 : decode cX12_isLetIn 8 = .ok (.getfield 258, 3) := by decide +kernel
theorem dX12_isLetIn_11 : decode cX12_isLetIn 11 = .ok (.aload_n 0, 1) := by decide +kernel
theorem dX12_isLetIn_12 : decode cX12_isLetIn 12 = .ok (.getfield 31, 3) := by decide +kernel
theorem dX12_isLetIn_15 : decode cX12_isLetIn 15 = .ok (.iload_n 1, 1) := by decide +kernel
theorem dX12_isLetIn_16 : decode cX12_isLetIn 16 = .ok (.iaload, 1) := by decide +kernel
theorem dX12_isLetIn_17 : decode cX12_isLetIn 17 = .ok (.if_icmp .ge 5, 3) := by decide +kernel
theorem dX12_isLetIn_20 : decode cX12_isLetIn 20 = .ok (.iconst 0, 1) := by decide +kernel
theorem dX12_isLetIn_21 : decode cX12_isLetIn 21 = .ok (.ireturn, 1) := by decide +kernel
theorem dX12_isLetIn_22 : decode cX12_isLetIn 22 = .ok (.aload_n 0, 1) := by decide +kernel
theorem dX12_isLetIn_23 : decode cX12_isLetIn 23 = .ok (.iload_n 1, 1) := by decide +kernel
theorem dX12_isLetIn_24 : decode cX12_isLetIn 24 = .ok (.aload_n 0, 1) := by decide +kernel
theorem dX12_isLetIn_25 : decode cX12_isLetIn 25 = .ok (.iload_n 2, 1) := by decide +kernel
theorem dX12_isLetIn_26 : decode cX12_isLetIn 26 = .ok (.invokevirtual 261, 3) := by decide +kernel
theorem dX12_isLetIn_29 : decode cX12_isLetIn 29 = .ok (.aload_n 0, 1) := by decide +kernel
theorem dX12_isLetIn_30 : decode cX12_isLetIn 30 = .ok (.getfield 258, 3) := by decide +kernel
theorem dX12_isLetIn_33 : decode cX12_isLetIn 33 = .ok (.invokevirtual 161, 3) := by decide +kernel
theorem dX12_isLetIn_36 : decode cX12_isLetIn 36 = .ok (.ifCond .ne 7, 3) := by decide +kernel
theorem dX12_isLetIn_39 : decode cX12_isLetIn 39 = .ok (.iconst 1, 1) := by decide +kernel
theorem dX12_isLetIn_40 : decode cX12_isLetIn 40 = .ok (.goto 4, 3) := by decide +kernel
theorem dX12_isLetIn_43 : decode cX12_isLetIn 43 = .ok (.iconst 0, 1) := by decide +kernel
theorem dX12_isLetIn_44 : decode cX12_isLetIn 44 = .ok (.istore_n 3, 1) := by decide +kernel
theorem dX12_isLetIn_45 : decode cX12_isLetIn 45 = .ok (.iload_n 3, 1) := by decide +kernel
theorem dX12_isLetIn_46 : decode cX12_isLetIn 46 = .ok (.ifCond .ne 29, 3) := by decide +kernel
theorem dX12_isLetIn_49 : decode cX12_isLetIn 49 = .ok (.aload_n 0, 1) := by decide +kernel
theorem dX12_isLetIn_50 : decode cX12_isLetIn 50 = .ok (.getfield 34, 3) := by decide +kernel
theorem dX12_isLetIn_53 : decode cX12_isLetIn 53 = .ok (.iload_n 1, 1) := by decide +kernel
theorem dX12_isLetIn_54 : decode cX12_isLetIn 54 = .ok (.baload, 1) := by decide +kernel
theorem dX12_isLetIn_55 : decode cX12_isLetIn 55 = .ok (.ifCond .eq 24, 3) := by decide +kernel
theorem dX12_isLetIn_58 : decode cX12_isLetIn 58 = .ok (.aload_n 0, 1) := by decide +kernel
theorem dX12_isLetIn_59 : decode cX12_isLetIn 59 = .ok (.iload_n 1, 1) := by decide +kernel
theorem dX12_isLetIn_60 : decode cX12_isLetIn 60 = .ok (.aload_n 0, 1) := by decide +kernel
theorem dX12_isLetIn_61 : decode cX12_isLetIn 61 = .ok (.iload_n 2, 1) := by decide +kernel
theorem dX12_isLetIn_62 : decode cX12_isLetIn 62 = .ok (.invokevirtual 261, 3) := by decide +kernel
theorem dX12_isLetIn_65 : decode cX12_isLetIn 65 = .ok (.aload_n 0, 1) := by decide +kernel
theorem dX12_isLetIn_66 : decode cX12_isLetIn 66 = .ok (.getfield 258, 3) := by decide +kernel
theorem dX12_isLetIn_69 : decode cX12_isLetIn 69 = .ok (.invokevirtual 161, 3) := by decide +kernel
theorem dX12_isLetIn_72 : decode cX12_isLetIn 72 = .ok (.ifCond .ne 7, 3) := by decide +kernel
theorem dX12_isLetIn_75 : decode cX12_isLetIn 75 = .ok (.iconst 1, 1) := by decide +kernel
theorem dX12_isLetIn_76 : decode cX12_isLetIn 76 = .ok (.goto 4, 3) := by decide +kernel
theorem dX12_isLetIn_79 : decode cX12_isLetIn 79 = .ok (.iconst 0, 1) := by decide +kernel
theorem dX12_isLetIn_80 : decode cX12_isLetIn 80 = .ok (.ireturn, 1) := by decide +kernel
theorem dX12_unlike_0 : decode cX12_unlike 0 = .ok (.iconst 0, 1) := by decide +kernel
theorem dX12_unlike_1 : decode cX12_unlike 1 = .ok (.istore_n 1, 1) := by decide +kernel
theorem dX12_unlike_2 : decode cX12_unlike 2 = .ok (.iconst 0, 1) := by decide +kernel
theorem dX12_unlike_3 : decode cX12_unlike 3 = .ok (.istore_n 2, 1) := by decide +kernel
theorem dX12_unlike_4 : decode cX12_unlike 4 = .ok (.iload_n 2, 1) := by decide +kernel
theorem dX12_unlike_5 : decode cX12_unlike 5 = .ok (.aload_n 0, 1) := by decide +kernel
theorem dX12_unlike_6 : decode cX12_unlike 6 = .ok (.getfield 258, 3) := by decide +kernel
theorem dX12_unlike_9 : decode cX12_unlike 9 = .ok (.if_icmp .ge 20, 3) := by decide +kernel
theorem dX12_unlike_12 : decode cX12_unlike 12 = .ok (.iload_n 1, 1) := by decide +kernel
theorem dX12_unlike_13 : decode cX12_unlike 13 = .ok (.iconst 1, 1) := by decide +kernel
theorem dX12_unlike_14 : decode cX12_unlike 14 = .ok (.aload_n 0, 1) := by decide +kernel
theorem dX12_unlike_15 : decode cX12_unlike 15 = .ok (.getfield 58, 3) := by decide +kernel
theorem dX12_unlike_18 : decode cX12_unlike 18 = .ok (.iload_n 2, 1) := by decide +kernel
theorem dX12_unlike_19 : decode cX12_unlike 19 = .ok (.iaload, 1) := by decide +kernel
theorem dX12_unlike_20 : decode cX12_unlike 20 = .ok (.ishl, 1) := by decide +kernel
theorem dX12_unlike_21 : decode cX12_unlike 21 = .ok (.ior, 1) := by decide +kernel
theorem dX12_unlike_22 : decode cX12_unlike 22 = .ok (.istore_n 1, 1) := by decide +kernel
theorem dX12_unlike_23 : decode cX12_unlike 23 = .ok (.iinc 2 1, 3) := by decide +kernel
theorem dX12_unlike_26 : decode cX12_unlike 26 = .ok (.goto (-22), 3) := by decide +kernel
theorem dX12_unlike_29 : decode cX12_unlike 29 = .ok (.iload_n 1, 1) := by decide +kernel
theorem dX12_unlike_30 : decode cX12_unlike 30 = .ok (.invokestatic 150, 3) := by decide +kernel
theorem dX12_unlike_33 : decode cX12_unlike 33 = .ok (.ireturn, 1) := by decide +kernel
theorem dX12_years_0 : decode cX12_years 0 = .ok (.aload_n 0, 1) := by decide +kernel
theorem dX12_years_1 : decode cX12_years 1 = .ok (.iload_n 1, 1) := by decide +kernel
theorem dX12_years_2 : decode cX12_years 2 = .ok (.invokevirtual 113, 3) := by decide +kernel
theorem dX12_years_5 : decode cX12_years 5 = .ok (.ifCond .ne 6, 3) := by decide +kernel
theorem dX12_years_8 : decode cX12_years 8 = .ok (.bipush (-101), 2) := by decide +kernel
theorem dX12_years_10 : decode cX12_years 10 = .ok (.ireturn, 1) := by decide +kernel
theorem dX12_years_11 : decode cX12_years 11 = .ok (.iload_n 2, 1) := by decide +kernel
theorem dX12_years_12 : decode cX12_years 12 = .ok (.iconst 0, 1) := by decide +kernel
theorem dX12_years_13 : decode cX12_years 13 = .ok (.bipush 60, 2) := by decide +kernel
theorem dX12_years_15 : decode cX12_years 15 = .ok (.invokestatic 61, 3) := by decide +kernel
theorem dX12_years_18 : decode cX12_years 18 = .ok (.ifCond .eq 17, 3) := by decide +kernel
theorem dX12_years_21 : decode cX12_years 21 = .ok (.iload_n 3, 1) := by decide +kernel
theorem dX12_years_22 : decode cX12_years 22 = .ok (.ifCond .lt 13, 3) := by decide +kernel
theorem dX12_years_25 : decode cX12_years 25 = .ok (.iload 4, 2) := by decide +kernel
theorem dX12_years_27 : decode cX12_years 27 = .ok (.iconst 0, 1) := by decide +kernel
theorem dX12_years_28 : decode cX12_years 28 = .ok (.iconst 3, 1) := by decide +kernel
theorem dX12_years_29 : decode cX12_years 29 = .ok (.invokestatic 61, 3) := by decide +kernel
theorem dX12_years_32 : decode cX12_years 32 = .ok (.ifCond .ne 6, 3) := by decide +kernel
theorem dX12_years_35 : decode cX12_years 35 = .ok (.bipush (-102), 2) := by decide +kernel
theorem dX12_years_37 : decode cX12_years 37 = .ok (.ireturn, 1) := by decide +kernel
theorem dX12_years_38 : decode cX12_years 38 = .ok (.aload_n 0, 1) := by decide +kernel
theorem dX12_years_39 : decode cX12_years 39 = .ok (.iload_n 3, 1) := by decide +kernel
theorem dX12_years_40 : decode cX12_years 40 = .ok (.i2l, 1) := by decide +kernel
theorem dX12_years_41 : decode cX12_years 41 = .ok (.putfield 210, 3) := by decide +kernel
theorem dX12_years_44 : decode cX12_years 44 = .ok (.aload_n 0, 1) := by decide +kernel
theorem dX12_years_45 : decode cX12_years 45 = .ok (.bipush 8, 2) := by decide +kernel
theorem dX12_years_47 : decode cX12_years 47 = .ok (.putfield 258, 3) := by decide +kernel
theorem dX12_years_50 : decode cX12_years 50 = .ok (.iconst 0, 1) := by decide +kernel
theorem dX12_years_51 : decode cX12_years 51 = .ok (.istore 5, 2) := by decide +kernel
theorem dX12_years_53 : decode cX12_years 53 = .ok (.iload 5, 2) := by decide +kernel
theorem dX12_years_55 : decode cX12_years 55 = .ok (.bipush 8, 2) := by decide +kernel
theorem dX12_years_57 : decode cX12_years 57 = .ok (.if_icmp .ge 22, 3) := by decide +kernel
theorem dX12_years_60 : decode cX12_years 60 = .ok (.aload_n 0, 1) := by decide +kernel
theorem dX12_years_61 : decode cX12_years 61 = .ok (.getfield 58, 3) := by decide +kernel
theorem dX12_years_64 : decode cX12_years 64 = .ok (.iload 5, 2) := by decide +kernel
theorem dX12_years_66 : decode cX12_years 66 = .ok (.aload_n 0, 1) := by decide +kernel
theorem dX12_years_67 : decode cX12_years 67 = .ok (.bipush 10, 2) := by decide +kernel
theorem dX12_years_69 : decode cX12_years 69 = .ok (.invokevirtual 220, 3) := by decide +kernel
theorem dX12_years_72 : decode cX12_years 72 = .ok (.iastore, 1) := by decide +kernel
theorem dX12_years_73 : decode cX12_years 73 = .ok (.iinc 5 1, 3) := by decide +kernel
theorem dX12_years_76 : decode cX12_years 76 = .ok (.goto (-23), 3) := by decide +kernel
theorem dX12_years_79 : decode cX12_years 79 = .ok (.iconst 0, 1) := by decide +kernel
theorem dX12_years_80 : decode cX12_years 80 = .ok (.istore 5, 2) := by decide +kernel
theorem dX12_years_82 : decode cX12_years 82 = .ok (.iconst 0, 1) := by decide +kernel
theorem dX12_years_83 : decode cX12_years 83 = .ok (.istore 6, 2) := by decide +kernel
theorem dX12_years_85 : decode cX12_years 85 = .ok (.iload 6, 2) := by decide +kernel
theorem dX12_years_87 : decode cX12_years 87 = .ok (.iload_n 2, 1) := by decide +kernel
theorem dX12_years_88 : decode cX12_years 88 = .ok (.if_icmp .ge 106, 3) := by decide +kernel
theorem dX12_years_91 : decode cX12_years 91 = .ok (.iconst 1, 1) := by decide +kernel
theorem dX12_years_92 : decode cX12_years 92 = .ok (.istore 7, 2) := by decide +kernel
theorem dX12_years_94 : decode cX12_years 94 = .ok (.iload 7, 2) := by decide +kernel
theorem dX12_years_96 : decode cX12_years 96 = .ok (.aload_n 0, 1) := by decide +kernel
theorem dX12_years_97 : decode cX12_years 97 = .ok (.getfield 258, 3) := by decide +kernel
theorem dX12_years_100 : decode cX12_years 100 = .ok (.if_icmp .ge 25, 3) := by decide +kernel
theorem dX12_years_103 : decode cX12_years 103 = .ok (.aload_n 0, 1) := by decide +kernel
theorem dX12_years_104 : decode cX12_years 104 = .ok (.getfield 58, 3) := by decide +kernel
theorem dX12_years_107 : decode cX12_years 107 = .ok (.iload 7, 2) := by decide +kernel
theorem dX12_years_109 : decode cX12_years 109 = .ok (.iconst 1, 1) := by decide +kernel
theorem dX12_years_110 : decode cX12_years 110 = .ok (.isub, 1) := by decide +kernel
theorem dX12_years_111 : decode cX12_years 111 = .ok (.aload_n 0, 1) := by decide +kernel
theorem dX12_years_112 : decode cX12_years 112 = .ok (.getfield 58, 3) := by decide +kernel
theorem dX12_years_115 : decode cX12_years 115 = .ok (.iload 7, 2) := by decide +kernel
theorem dX12_years_117 : decode cX12_years 117 = .ok (.iaload, 1) := by decide +kernel
theorem dX12_years_118 : decode cX12_years 118 = .ok (.iastore, 1) := by decide +kernel
theorem dX12_years_119 : decode cX12_years 119 = .ok (.iinc 7 1, 3) := by decide +kernel
theorem dX12_years_122 : decode cX12_years 122 = .ok (.goto (-28), 3) := by decide +kernel
theorem dX12_years_125 : decode cX12_years 125 = .ok (.aload_n 0, 1) := by decide +kernel
theorem dX12_years_126 : decode cX12_years 126 = .ok (.dup, 1) := by decide +kernel
theorem dX12_years_127 : decode cX12_years 127 = .ok (.getfield 258, 3) := by decide +kernel
theorem dX12_years_130 : decode cX12_years 130 = .ok (.aload_n 0, 1) := by decide +kernel
theorem dX12_years_131 : decode cX12_years 131 = .ok (.getfield 258, 3) := by decide +kernel
theorem dX12_years_134 : decode cX12_years 134 = .ok (.ifCond .le 7, 3) := by decide +kernel
theorem dX12_years_137 : decode cX12_years 137 = .ok (.iconst 1, 1) := by decide +kernel
theorem dX12_years_138 : decode cX12_years 138 = .ok (.goto 4, 3) := by decide +kernel
theorem dX12_years_141 : decode cX12_years 141 = .ok (.iconst 0, 1) := by decide +kernel
theorem dX12_years_142 : decode cX12_years 142 = .ok (.isub, 1) := by decide +kernel
theorem dX12_years_143 : decode cX12_years 143 = .ok (.putfield 258, 3) := by decide +kernel
theorem dX12_years_146 : decode cX12_years 146 = .ok (.aload_n 0, 1) := by decide +kernel
theorem dX12_years_147 : decode cX12_years 147 = .ok (.bipush 10, 2) := by decide +kernel
theorem dX12_years_149 : decode cX12_years 149 = .ok (.invokevirtual 220, 3) := by decide +kernel
theorem dX12_years_152 : decode cX12_years 152 = .ok (.istore 7, 2) := by decide +kernel
theorem dX12_years_154 : decode cX12_years 154 = .ok (.aload_n 0, 1) := by decide +kernel
theorem dX12_years_155 : decode cX12_years 155 = .ok (.iload_n 1, 1) := by decide +kernel
theorem dX12_years_156 : decode cX12_years 156 = .ok (.iload 7, 2) := by decide +kernel
theorem dX12_years_158 : decode cX12_years 158 = .ok (.invokevirtual 264, 3) := by decide +kernel
theorem dX12_years_161 : decode cX12_years 161 = .ok (.ifCond .eq 27, 3) := by decide +kernel
theorem dX12_years_164 : decode cX12_years 164 = .ok (.aload_n 0, 1) := by decide +kernel
theorem dX12_years_165 : decode cX12_years 165 = .ok (.getfield 58, 3) := by decide +kernel
theorem dX12_years_168 : decode cX12_years 168 = .ok (.aload_n 0, 1) := by decide +kernel
theorem dX12_years_169 : decode cX12_years 169 = .ok (.getfield 258, 3) := by decide +kernel
theorem dX12_years_172 : decode cX12_years 172 = .ok (.iload 7, 2) := by decide +kernel
theorem dX12_years_174 : decode cX12_years 174 = .ok (.iastore, 1) := by decide +kernel
theorem dX12_years_175 : decode cX12_years 175 = .ok (.aload_n 0, 1) := by decide +kernel
theorem dX12_years_176 : decode cX12_years 176 = .ok (.dup, 1) := by decide +kernel
theorem dX12_years_177 : decode cX12_years 177 = .ok (.getfield 258, 3) := by decide +kernel
theorem dX12_years_180 : decode cX12_years 180 = .ok (.iconst 1, 1) := by decide +kernel
theorem dX12_years_181 : decode cX12_years 181 = .ok (.iadd, 1) := by decide +kernel
theorem dX12_years_182 : decode cX12_years 182 = .ok (.putfield 258, 3) := by decide +kernel
theorem dX12_years_185 : decode cX12_years 185 = .ok (.iinc 5 1, 3) := by decide +kernel
theorem dX12_years_188 : decode cX12_years 188 = .ok (.iinc 6 1, 3) := by decide +kernel
theorem dX12_years_191 : decode cX12_years 191 = .ok (.goto (-106), 3) := by decide +kernel
theorem dX12_years_194 : decode cX12_years 194 = .ok (.iload 4, 2) := by decide +kernel
theorem dX12_years_196 : decode cX12_years 196 = .ok (.ifCond .ne 10, 3) := by decide +kernel
theorem dX12_years_199 : decode cX12_years 199 = .ok (.aload_n 0, 1) := by decide +kernel
theorem dX12_years_200 : decode cX12_years 200 = .ok (.getfield 258, 3) := by decide +kernel
theorem dX12_years_203 : decode cX12_years 203 = .ok (.goto 32, 3) := by decide +kernel
theorem dX12_years_206 : decode cX12_years 206 = .ok (.iload 4, 2) := by decide +kernel
theorem dX12_years_208 : decode cX12_years 208 = .ok (.iconst 1, 1) := by decide +kernel
theorem dX12_years_209 : decode cX12_years 209 = .ok (.if_icmp .ne 10, 3) := by decide +kernel
theorem dX12_years_212 : decode cX12_years 212 = .ok (.aload_n 0, 1) := by decide +kernel
theorem dX12_years_213 : decode cX12_years 213 = .ok (.invokevirtual 267, 3) := by decide +kernel
theorem dX12_years_216 : decode cX12_years 216 = .ok (.goto 19, 3) := by decide +kernel
theorem dX12_years_219 : decode cX12_years 219 = .ok (.iload 4, 2) := by decide +kernel
theorem dX12_years_221 : decode cX12_years 221 = .ok (.iconst 2, 1) := by decide +kernel
theorem dX12_years_222 : decode cX12_years 222 = .ok (.if_icmp .ne 8, 3) := by decide +kernel
theorem dX12_years_225 : decode cX12_years 225 = .ok (.iload 5, 2) := by decide +kernel
theorem dX12_years_227 : decode cX12_years 227 = .ok (.goto 8, 3) := by decide +kernel
theorem dX12_years_230 : decode cX12_years 230 = .ok (.aload_n 0, 1) := by decide +kernel
theorem dX12_years_231 : decode cX12_years 231 = .ok (.getfield 210, 3) := by decide +kernel
theorem dX12_years_234 : decode cX12_years 234 = .ok (.l2i, 1) := by decide +kernel
theorem dX12_years_235 : decode cX12_years 235 = .ok (.ireturn, 1) := by decide +kernel
theorem dX12_mindedMany_0 : decode cX12_mindedMany 0 = .ok (.iconst 0, 1) := by decide +kernel
theorem dX12_mindedMany_1 : decode cX12_mindedMany 1 = .ok (.istore_n 1, 1) := by decide +kernel
theorem dX12_mindedMany_2 : decode cX12_mindedMany 2 = .ok (.iconst 0, 1) := by decide +kernel
theorem dX12_mindedMany_3 : decode cX12_mindedMany 3 = .ok (.istore_n 2, 1) := by decide +kernel
theorem dX12_mindedMany_4 : decode cX12_mindedMany 4 = .ok (.iload_n 2, 1) := by decide +kernel
theorem dX12_mindedMany_5 : decode cX12_mindedMany 5 = .ok (.aload_n 0, 1) := by decide +kernel
theorem dX12_mindedMany_6 : decode cX12_mindedMany 6 = .ok (.getfield 122, 3) := by decide +kernel
theorem dX12_mindedMany_9 : decode cX12_mindedMany 9 = .ok (.if_icmp .ge 25, 3) := by decide +kernel
theorem dX12_mindedMany_12 : decode cX12_mindedMany 12 = .ok (.iload_n 1, 1) := by decide +kernel
theorem dX12_mindedMany_13 : decode cX12_mindedMany 13 = .ok (.aload_n 0, 1) := by decide +kernel
theorem dX12_mindedMany_14 : decode cX12_mindedMany 14 = .ok (.iload_n 2, 1) := by decide +kernel
theorem dX12_mindedMany_15 : decode cX12_mindedMany 15 = .ok (.invokevirtual 137, 3) := by decide +kernel
theorem dX12_mindedMany_18 : decode cX12_mindedMany 18 = .ok (.ifCond .eq 7, 3) := by decide +kernel
theorem dX12_mindedMany_21 : decode cX12_mindedMany 21 = .ok (.iconst 1, 1) := by decide +kernel
theorem dX12_mindedMany_22 : decode cX12_mindedMany 22 = .ok (.goto 4, 3) := by decide +kernel
theorem dX12_mindedMany_25 : decode cX12_mindedMany 25 = .ok (.iconst 0, 1) := by decide +kernel
theorem dX12_mindedMany_26 : decode cX12_mindedMany 26 = .ok (.iadd, 1) := by decide +kernel
theorem dX12_mindedMany_27 : decode cX12_mindedMany 27 = .ok (.istore_n 1, 1) := by decide +kernel
theorem dX12_mindedMany_28 : decode cX12_mindedMany 28 = .ok (.iinc 2 1, 3) := by decide +kernel
theorem dX12_mindedMany_31 : decode cX12_mindedMany 31 = .ok (.goto (-27), 3) := by decide +kernel
theorem dX12_mindedMany_34 : decode cX12_mindedMany 34 = .ok (.iload_n 1, 1) := by decide +kernel
