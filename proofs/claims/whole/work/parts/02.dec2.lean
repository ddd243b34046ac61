theorem dX11_expectVetoes_9 : decode cX11_expectVetoes 9 = .ok (.lstore_n 2, 1) := by decide +kernel
theorem dX11_expectVetoes_10 : decode cX11_expectVetoes 10 = .ok (.iconst 0, 1) := by decide +kernel
theorem dX11_expectVetoes_11 : decode cX11_expectVetoes 11 = .ok (.istore 4, 2) := by decide +kernel
theorem dX11_expectVetoes_13 : decode cX11_expectVetoes 13 = .ok (.iload 4, 2) := by decide +kernel
theorem dX11_expectVetoes_15 : decode cX11_expectVetoes 15 = .ok (.iload_n 1, 1) := by decide +kernel
theorem dX11_expectVetoes_16 : decode cX11_expectVetoes 16 = .ok (.if_icmp .ge 88, 3) := by decide +kernel
theorem dX11_expectVetoes_19 : decode cX11_expectVetoes 19 = .ok (.iconst 3, 1) := by decide +kernel
theorem dX11_expectVetoes_20 : decode cX11_expectVetoes 20 = .ok (.istore 5, 2) := by decide +kernel
theorem dX11_expectVetoes_22 : decode cX11_expectVetoes 22 = .ok (.iload 5, 2) := by decide +kernel
theorem dX11_expectVetoes_24 : decode cX11_expectVetoes 24 = .ok (.iconst 1, 1) := by decide +kernel
theorem dX11_expectVetoes_25 : decode cX11_expectVetoes 25 = .ok (.if_icmp .lt 67, 3) := by decide +kernel
theorem dX11_expectVetoes_28 : decode cX11_expectVetoes 28 = .ok (.lconst 0, 1) := by decide +kernel
theorem dX11_expectVetoes_29 : decode cX11_expectVetoes 29 = .ok (.lstore 6, 2) := by decide +kernel
theorem dX11_expectVetoes_31 : decode cX11_expectVetoes 31 = .ok (.iconst 0, 1) := by decide +kernel
theorem dX11_expectVetoes_32 : decode cX11_expectVetoes 32 = .ok (.istore 8, 2) := by decide +kernel
theorem dX11_expectVetoes_34 : decode cX11_expectVetoes 34 = .ok (.iload 8, 2) := by decide +kernel
theorem dX11_expectVetoes_36 : decode cX11_expectVetoes 36 = .ok (.bipush 10, 2) := by decide +kernel
theorem dX11_expectVetoes_38 : decode cX11_expectVetoes 38 = .ok (.if_icmp .gt 39, 3) := by decide +kernel
theorem dX11_expectVetoes_41 : decode cX11_expectVetoes 41 = .ok (.lload 6, 2) := by decide +kernel
theorem dX11_expectVetoes_43 : decode cX11_expectVetoes 43 = .ok (.iload 8, 2) := by decide +kernel
theorem dX11_expectVetoes_45 : decode cX11_expectVetoes 45 = .ok (.i2l, 1) := by decide +kernel
theorem dX11_expectVetoes_46 : decode cX11_expectVetoes 46 = .ok (.lload_n 2, 1) := by decide +kernel
theorem dX11_expectVetoes_47 : decode cX11_expectVetoes 47 = .ok (.lmul, 1) := by decide +kernel
theorem dX11_expectVetoes_48 : decode cX11_expectVetoes 48 = .ok (.aload_n 0, 1) := by decide +kernel
theorem dX11_expectVetoes_49 : decode cX11_expectVetoes 49 = .ok (.getfield 60, 3) := by decide +kernel
theorem dX11_expectVetoes_52 : decode cX11_expectVetoes 52 = .ok (.iload 5, 2) := by decide +kernel
theorem dX11_expectVetoes_54 : decode cX11_expectVetoes 54 = .ok (.iconst 1, 1) := by decide +kernel
theorem dX11_expectVetoes_55 : decode cX11_expectVetoes 55 = .ok (.isub, 1) := by decide +kernel
theorem dX11_expectVetoes_56 : decode cX11_expectVetoes 56 = .ok (.laload, 1) := by decide +kernel
theorem dX11_expectVetoes_57 : decode cX11_expectVetoes 57 = .ok (.ladd, 1) := by decide +kernel
theorem dX11_expectVetoes_58 : decode cX11_expectVetoes 58 = .ok (.aload_n 0, 1) := by decide +kernel
theorem dX11_expectVetoes_59 : decode cX11_expectVetoes 59 = .ok (.getfield 60, 3) := by decide +kernel
theorem dX11_expectVetoes_62 : decode cX11_expectVetoes 62 = .ok (.iload 5, 2) := by decide +kernel
theorem dX11_expectVetoes_64 : decode cX11_expectVetoes 64 = .ok (.laload, 1) := by decide +kernel
theorem dX11_expectVetoes_65 : decode cX11_expectVetoes 65 = .ok (.invokestatic 372, 3) := by decide +kernel
theorem dX11_expectVetoes_68 : decode cX11_expectVetoes 68 = .ok (.ladd, 1) := by decide +kernel
theorem dX11_expectVetoes_69 : decode cX11_expectVetoes 69 = .ok (.lstore 6, 2) := by decide +kernel
theorem dX11_expectVetoes_71 : decode cX11_expectVetoes 71 = .ok (.iinc 8 1, 3) := by decide +kernel
theorem dX11_expectVetoes_74 : decode cX11_expectVetoes 74 = .ok (.goto (-40), 3) := by decide +kernel
theorem dX11_expectVetoes_77 : decode cX11_expectVetoes 77 = .ok (.aload_n 0, 1) := by decide +kernel
theorem dX11_expectVetoes_78 : decode cX11_expectVetoes 78 = .ok (.getfield 60, 3) := by decide +kernel
theorem dX11_expectVetoes_81 : decode cX11_expectVetoes 81 = .ok (.iload 5, 2) := by decide +kernel
theorem dX11_expectVetoes_83 : decode cX11_expectVetoes 83 = .ok (.lload 6, 2) := by decide +kernel
theorem dX11_expectVetoes_85 : decode cX11_expectVetoes 85 = .ok (.lastore, 1) := by decide +kernel
theorem dX11_expectVetoes_86 : decode cX11_expectVetoes 86 = .ok (.iinc 5 (-1), 3) := by decide +kernel
theorem dX11_expectVetoes_89 : decode cX11_expectVetoes 89 = .ok (.goto (-67), 3) := by decide +kernel
theorem dX11_expectVetoes_92 : decode cX11_expectVetoes 92 = .ok (.lload_n 2, 1) := by decide +kernel
theorem dX11_expectVetoes_93 : decode cX11_expectVetoes 93 = .ok (.ldc2_w 375, 3) := by decide +kernel
theorem dX11_expectVetoes_96 : decode cX11_expectVetoes 96 = .ok (.lmul, 1) := by decide +kernel
theorem dX11_expectVetoes_97 : decode cX11_expectVetoes 97 = .ok (.lstore_n 2, 1) := by decide +kernel
theorem dX11_expectVetoes_98 : decode cX11_expectVetoes 98 = .ok (.iinc 4 1, 3) := by decide +kernel
theorem dX11_expectVetoes_101 : decode cX11_expectVetoes 101 = .ok (.goto (-88), 3) := by decide +kernel
theorem dX11_expectVetoes_104 : decode cX11_expectVetoes 104 = .ok (.lload_n 2, 1) := by decide +kernel
theorem dX11_expectVetoes_105 : decode cX11_expectVetoes 105 = .ok (.lreturn, 1) := by decide +kernel
theorem dX11_digestRules_0 : decode cX11_digestRules 0 = .ok (.lload_n 1, 1) := by decide +kernel
theorem dX11_digestRules_1 : decode cX11_digestRules 1 = .ok (.lstore_n 3, 1) := by decide +kernel
theorem dX11_digestRules_2 : decode cX11_digestRules 2 = .ok (.iconst 0, 1) := by decide +kernel
theorem dX11_digestRules_3 : decode cX11_digestRules 3 = .ok (.istore 5, 2) := by decide +kernel
theorem dX11_digestRules_5 : decode cX11_digestRules 5 = .ok (.iload 5, 2) := by decide +kernel
theorem dX11_digestRules_7 : decode cX11_digestRules 7 = .ok (.aload_n 0, 1) := by decide +kernel
theorem dX11_digestRules_8 : decode cX11_digestRules 8 = .ok (.getfield 79, 3) := by decide +kernel
theorem dX11_digestRules_11 : decode cX11_digestRules 11 = .ok (.if_icmp .ge 42, 3) := by decide +kernel
theorem dX11_digestRules_14 : decode cX11_digestRules 14 = .ok (.iconst 0, 1) := by decide +kernel
theorem dX11_digestRules_15 : decode cX11_digestRules 15 = .ok (.istore 6, 2) := by decide +kernel
theorem dX11_digestRules_17 : decode cX11_digestRules 17 = .ok (.iload 6, 2) := by decide +kernel
theorem dX11_digestRules_19 : decode cX11_digestRules 19 = .ok (.iconst 4, 1) := by decide +kernel
theorem dX11_digestRules_20 : decode cX11_digestRules 20 = .ok (.if_icmp .gt 27, 3) := by decide +kernel
theorem dX11_digestRules_23 : decode cX11_digestRules 23 = .ok (.lload_n 3, 1) := by decide +kernel
theorem dX11_digestRules_24 : decode cX11_digestRules 24 = .ok (.aload_n 0, 1) := by decide +kernel
theorem dX11_digestRules_25 : decode cX11_digestRules 25 = .ok (.getfield 18, 3) := by decide +kernel
theorem dX11_digestRules_28 : decode cX11_digestRules 28 = .ok (.iload 5, 2) := by decide +kernel
theorem dX11_digestRules_30 : decode cX11_digestRules 30 = .ok (.aaload, 1) := by decide +kernel
theorem dX11_digestRules_31 : decode cX11_digestRules 31 = .ok (.iload 6, 2) := by decide +kernel
theorem dX11_digestRules_33 : decode cX11_digestRules 33 = .ok (.invokevirtual 95, 3) := by decide +kernel
theorem dX11_digestRules_36 : decode cX11_digestRules 36 = .ok (.i2l, 1) := by decide +kernel
theorem dX11_digestRules_37 : decode cX11_digestRules 37 = .ok (.invokestatic 320, 3) := by decide +kernel
theorem dX11_digestRules_40 : decode cX11_digestRules 40 = .ok (.lstore_n 3, 1) := by decide +kernel
theorem dX11_digestRules_41 : decode cX11_digestRules 41 = .ok (.iinc 6 1, 3) := by decide +kernel
theorem dX11_digestRules_44 : decode cX11_digestRules 44 = .ok (.goto (-27), 3) := by decide +kernel
theorem dX11_digestRules_47 : decode cX11_digestRules 47 = .ok (.iinc 5 1, 3) := by decide +kernel
theorem dX11_digestRules_50 : decode cX11_digestRules 50 = .ok (.goto (-45), 3) := by decide +kernel
theorem dX11_digestRules_53 : decode cX11_digestRules 53 = .ok (.lload_n 3, 1) := by decide +kernel
theorem dX11_digestRules_54 : decode cX11_digestRules 54 = .ok (.lreturn, 1) := by decide +kernel
theorem dX11_digestPeople_0 : decode cX11_digestPeople 0 = .ok (.lload_n 1, 1) := by decide +kernel
theorem dX11_digestPeople_1 : decode cX11_digestPeople 1 = .ok (.lstore_n 3, 1) := by decide +kernel
theorem dX11_digestPeople_2 : decode cX11_digestPeople 2 = .ok (.iconst 0, 1) := by decide +kernel
theorem dX11_digestPeople_3 : decode cX11_digestPeople 3 = .ok (.istore 5, 2) := by decide +kernel
theorem dX11_digestPeople_5 : decode cX11_digestPeople 5 = .ok (.iload 5, 2) := by decide +kernel
theorem dX11_digestPeople_7 : decode cX11_digestPeople 7 = .ok (.aload_n 0, 1) := by decide +kernel
theorem dX11_digestPeople_8 : decode cX11_digestPeople 8 = .ok (.getfield 103, 3) := by decide +kernel
theorem dX11_digestPeople_11 : decode cX11_digestPeople 11 = .ok (.if_icmp .ge 74, 3) := by decide +kernel
theorem dX11_digestPeople_14 : decode cX11_digestPeople 14 = .ok (.iconst 0, 1) := by decide +kernel
theorem dX11_digestPeople_15 : decode cX11_digestPeople 15 = .ok (.istore 6, 2) := by decide +kernel
theorem dX11_digestPeople_17 : decode cX11_digestPeople 17 = .ok (.iload 6, 2) := by decide +kernel
theorem dX11_digestPeople_19 : decode cX11_digestPeople 19 = .ok (.iconst 2, 1) := by decide +kernel
theorem dX11_digestPeople_20 : decode cX11_digestPeople 20 = .ok (.if_icmp .gt 23, 3) := by decide +kernel
theorem dX11_digestPeople_23 : decode cX11_digestPeople 23 = .ok (.lload_n 3, 1) := by decide +kernel
theorem dX11_digestPeople_24 : decode cX11_digestPeople 24 = .ok (.aload_n 0, 1) := by decide +kernel
theorem dX11_digestPeople_25 : decode cX11_digestPeople 25 = .ok (.iload 5, 2) := by decide +kernel
theorem dX11_digestPeople_27 : decode cX11_digestPeople 27 = .ok (.iload 6, 2) := by decide +kernel
theorem dX11_digestPeople_29 : decode cX11_digestPeople 29 = .ok (.invokevirtual 377, 3) := by decide +kernel
theorem dX11_digestPeople_32 : decode cX11_digestPeople 32 = .ok (.i2l, 1) := by decide +kernel
theorem dX11_digestPeople_33 : decode cX11_digestPeople 33 = .ok (.invokestatic 320, 3) := by decide +kernel
theorem dX11_digestPeople_36 : decode cX11_digestPeople 36 = .ok (.lstore_n 3, 1) := by decide +kernel
theorem dX11_digestPeople_37 : decode cX11_digestPeople 37 = .ok (.iinc 6 1, 3) := by decide +kernel
theorem dX11_digestPeople_40 : decode cX11_digestPeople 40 = .ok (.goto (-23), 3) := by decide +kernel
theorem dX11_digestPeople_43 : decode cX11_digestPeople 43 = .ok (.iconst 0, 1) := by decide +kernel
theorem dX11_digestPeople_44 : decode cX11_digestPeople 44 = .ok (.istore 6, 2) := by decide +kernel
theorem dX11_digestPeople_46 : decode cX11_digestPeople 46 = .ok (.iload 6, 2) := by decide +kernel
theorem dX11_digestPeople_48 : decode cX11_digestPeople 48 = .ok (.aload_n 0, 1) := by decide +kernel
theorem dX11_digestPeople_49 : decode cX11_digestPeople 49 = .ok (.getfield 126, 3) := by decide +kernel
theorem dX11_digestPeople_52 : decode cX11_digestPeople 52 = .ok (.if_icmp .ge 27, 3) := by decide +kernel
theorem dX11_digestPeople_55 : decode cX11_digestPeople 55 = .ok (.lload_n 3, 1) := by decide +kernel
theorem dX11_digestPeople_56 : decode cX11_digestPeople 56 = .ok (.aload_n 0, 1) := by decide +kernel
theorem dX11_digestPeople_57 : decode cX11_digestPeople 57 = .ok (.getfield 24, 3) := by decide +kernel
theorem dX11_digestPeople_60 : decode cX11_digestPeople 60 = .ok (.iload 5, 2) := by decide +kernel
theorem dX11_digestPeople_62 : decode cX11_digestPeople 62 = .ok (.aaload, 1) := by decide +kernel
theorem dX11_digestPeople_63 : decode cX11_digestPeople 63 = .ok (.iload 6, 2) := by decide +kernel
theorem dX11_digestPeople_65 : decode cX11_digestPeople 65 = .ok (.invokevirtual 133, 3) := by decide +kernel
theorem dX11_digestPeople_68 : decode cX11_digestPeople 68 = .ok (.i2l, 1) := by decide +kernel
theorem dX11_digestPeople_69 : decode cX11_digestPeople 69 = .ok (.invokestatic 320, 3) := by decide +kernel
theorem dX11_digestPeople_72 : decode cX11_digestPeople 72 = .ok (.lstore_n 3, 1) := by decide +kernel
theorem dX11_digestPeople_73 : decode cX11_digestPeople 73 = .ok (.iinc 6 1, 3) := by decide +kernel
theorem dX11_digestPeople_76 : decode cX11_digestPeople 76 = .ok (.goto (-30), 3) := by decide +kernel
theorem dX11_digestPeople_79 : decode cX11_digestPeople 79 = .ok (.iinc 5 1, 3) := by decide +kernel
theorem dX11_digestPeople_82 : decode cX11_digestPeople 82 = .ok (.goto (-77), 3) := by decide +kernel
theorem dX11_digestPeople_85 : decode cX11_digestPeople 85 = .ok (.lload_n 3, 1) := by decide +kernel
theorem dX11_digestPeople_86 : decode cX11_digestPeople 86 = .ok (.lreturn, 1) := by decide +kernel
theorem dX11_digestCandidates_0 : decode cX11_digestCandidates 0 = .ok (.lload_n 1, 1) := by decide +kernel
theorem dX11_digestCandidates_1 : decode cX11_digestCandidates 1 = .ok (.lstore_n 3, 1) := by decide +kernel
theorem dX11_digestCandidates_2 : decode cX11_digestCandidates 2 = .ok (.iconst 0, 1) := by decide +kernel
theorem dX11_digestCandidates_3 : decode cX11_digestCandidates 3 = .ok (.istore 5, 2) := by decide +kernel
theorem dX11_digestCandidates_5 : decode cX11_digestCandidates 5 = .ok (.iload 5, 2) := by decide +kernel
theorem dX11_digestCandidates_7 : decode cX11_digestCandidates 7 = .ok (.aload_n 0, 1) := by decide +kernel
theorem dX11_digestCandidates_8 : decode cX11_digestCandidates 8 = .ok (.getfield 126, 3) := by decide +kernel
theorem dX11_digestCandidates_11 : decode cX11_digestCandidates 11 = .ok (.if_icmp .ge 38, 3) := by decide +kernel
theorem dX11_digestCandidates_14 : decode cX11_digestCandidates 14 = .ok (.iconst 0, 1) := by decide +kernel
theorem dX11_digestCandidates_15 : decode cX11_digestCandidates 15 = .ok (.istore 6, 2) := by decide +kernel
theorem dX11_digestCandidates_17 : decode cX11_digestCandidates 17 = .ok (.iload 6, 2) := by decide +kernel
theorem dX11_digestCandidates_19 : decode cX11_digestCandidates 19 = .ok (.iconst 2, 1) := by decide +kernel
theorem dX11_digestCandidates_20 : decode cX11_digestCandidates 20 = .ok (.if_icmp .gt 23, 3) := by decide +kernel
theorem dX11_digestCandidates_23 : decode cX11_digestCandidates 23 = .ok (.lload_n 3, 1) := by decide +kernel
theorem dX11_digestCandidates_24 : decode cX11_digestCandidates 24 = .ok (.aload_n 0, 1) := by decide +kernel
theorem dX11_digestCandidates_25 : decode cX11_digestCandidates 25 = .ok (.iload 5, 2) := by decide +kernel
theorem dX11_digestCandidates_27 : decode cX11_digestCandidates 27 = .ok (.iload 6, 2) := by decide +kernel
theorem dX11_digestCandidates_29 : decode cX11_digestCandidates 29 = .ok (.invokevirtual 381, 3) := by decide +kernel
theorem dX11_digestCandidates_32 : decode cX11_digestCandidates 32 = .ok (.i2l, 1) := by decide +kernel
theorem dX11_digestCandidates_33 : decode cX11_digestCandidates 33 = .ok (.invokestatic 320, 3) := by decide +kernel
theorem dX11_digestCandidates_36 : decode cX11_digestCandidates 36 = .ok (.lstore_n 3, 1) := by decide +kernel
theorem dX11_digestCandidates_37 : decode cX11_digestCandidates 37 = .ok (.iinc 6 1, 3) := by decide +kernel
theorem dX11_digestCandidates_40 : decode cX11_digestCandidates 40 = .ok (.goto (-23), 3) := by decide +kernel
theorem dX11_digestCandidates_43 : decode cX11_digestCandidates 43 = .ok (.iinc 5 1, 3) := by decide +kernel
theorem dX11_digestCandidates_46 : decode cX11_digestCandidates 46 = .ok (.goto (-41), 3) := by decide +kernel
theorem dX11_digestCandidates_49 : decode cX11_digestCandidates 49 = .ok (.lload_n 3, 1) := by decide +kernel
theorem dX11_digestCandidates_50 : decode cX11_digestCandidates 50 = .ok (.lreturn, 1) := by decide +kernel
theorem dX11_digestIn_0 : decode cX11_digestIn 0 = .ok (.lload_n 1, 1) := by decide +kernel
theorem dX11_digestIn_1 : decode cX11_digestIn 1 = .ok (.lstore_n 3, 1) := by decide +kernel
theorem dX11_digestIn_2 : decode cX11_digestIn 2 = .ok (.aload_n 0, 1) := by decide +kernel
theorem dX11_digestIn_3 : decode cX11_digestIn 3 = .ok (.invokevirtual 200, 3) := by decide +kernel
theorem dX11_digestIn_6 : decode cX11_digestIn 6 = .ok (.invokestatic 191, 3) := by decide +kernel
theorem dX11_digestIn_9 : decode cX11_digestIn 9 = .ok (.lstore 5, 2) := by decide +kernel
theorem dX11_digestIn_11 : decode cX11_digestIn 11 = .ok (.iconst 0, 1) := by decide +kernel
theorem dX11_digestIn_12 : decode cX11_digestIn 12 = .ok (.istore 7, 2) := by decide +kernel
theorem dX11_digestIn_14 : decode cX11_digestIn 14 = .ok (.iload 7, 2) := by decide +kernel
theorem dX11_digestIn_16 : decode cX11_digestIn 16 = .ok (.aload_n 0, 1) := by decide +kernel
theorem dX11_digestIn_17 : decode cX11_digestIn 17 = .ok (.getfield 79, 3) := by decide +kernel
theorem dX11_digestIn_20 : decode cX11_digestIn 20 = .ok (.if_icmp .ge 72, 3) := by decide +kernel
theorem dX11_digestIn_23 : decode cX11_digestIn 23 = .ok (.iconst 0, 1) := by decide +kernel
theorem dX11_digestIn_24 : decode cX11_digestIn 24 = .ok (.istore 8, 2) := by decide +kernel
theorem dX11_digestIn_26 : decode cX11_digestIn 26 = .ok (.iload 8, 2) := by decide +kernel
theorem dX11_digestIn_28 : decode cX11_digestIn 28 = .ok (.aload_n 0, 1) := by decide +kernel
theorem dX11_digestIn_29 : decode cX11_digestIn 29 = .ok (.getfield 126, 3) := by decide +kernel
theorem dX11_digestIn_32 : decode cX11_digestIn 32 = .ok (.if_icmp .ge 54, 3) := by decide +kernel
theorem dX11_digestIn_35 : decode cX11_digestIn 35 = .ok (.aload_n 0, 1) := by decide +kernel
theorem dX11_digestIn_36 : decode cX11_digestIn 36 = .ok (.aload_n 0, 1) := by decide +kernel
theorem dX11_digestIn_37 : decode cX11_digestIn 37 = .ok (.getfield 18, 3) := by decide +kernel
theorem dX11_digestIn_40 : decode cX11_digestIn 40 = .ok (.iload 7, 2) := by decide +kernel
theorem dX11_digestIn_42 : decode cX11_digestIn 42 = .ok (.aaload, 1) := by decide +kernel
theorem dX11_digestIn_43 : decode cX11_digestIn 43 = .ok (.iload 8, 2) := by decide +kernel
theorem dX11_digestIn_45 : decode cX11_digestIn 45 = .ok (.aload_n 0, 1) := by decide +kernel
theorem dX11_digestIn_46 : decode cX11_digestIn 46 = .ok (.invokevirtual 200, 3) := by decide +kernel
theorem dX11_digestIn_49 : decode cX11_digestIn 49 = .ok (.invokevirtual 187, 3) := by decide +kernel
theorem dX11_digestIn_52 : decode cX11_digestIn 52 = .ok (.lstore 9, 2) := by decide +kernel
theorem dX11_digestIn_54 : decode cX11_digestIn 54 = .ok (.lload_n 3, 1) := by decide +kernel
theorem dX11_digestIn_55 : decode cX11_digestIn 55 = .ok (.lload 9, 2) := by decide +kernel
theorem dX11_digestIn_57 : decode cX11_digestIn 57 = .ok (.lload 5, 2) := by decide +kernel
theorem dX11_digestIn_59 : decode cX11_digestIn 59 = .ok (.iconst 0, 1) := by decide +kernel
theorem dX11_digestIn_60 : decode cX11_digestIn 60 = .ok (.invokestatic 179, 3) := by decide +kernel
theorem dX11_digestIn_63 : decode cX11_digestIn 63 = .ok (.invokestatic 320, 3) := by decide +kernel
theorem dX11_digestIn_66 : decode cX11_digestIn 66 = .ok (.lstore_n 3, 1) := by decide +kernel
theorem dX11_digestIn_67 : decode cX11_digestIn 67 = .ok (.lload_n 3, 1) := by decide +kernel
theorem dX11_digestIn_68 : decode cX11_digestIn 68 = .ok (.lload 9, 2) := by decide +kernel
theorem dX11_digestIn_70 : decode cX11_digestIn 70 = .ok (.lload 5, 2) := by decide +kernel
theorem dX11_digestIn_72 : decode cX11_digestIn 72 = .ok (.iconst 1, 1) := by decide +kernel
theorem dX11_digestIn_73 : decode cX11_digestIn 73 = .ok (.invokestatic 179, 3) := by decide +kernel
theorem dX11_digestIn_76 : decode cX11_digestIn 76 = .ok (.invokestatic 320, 3) := by decide +kernel
theorem dX11_digestIn_79 : decode cX11_digestIn 79 = .ok (.lstore_n 3, 1) := by decide +kernel
theorem dX11_digestIn_80 : decode cX11_digestIn 80 = .ok (.iinc 8 1, 3) := by decide +kernel
theorem dX11_digestIn_83 : decode cX11_digestIn 83 = .ok (.goto (-57), 3) := by decide +kernel
theorem dX11_digestIn_86 : decode cX11_digestIn 86 = .ok (.iinc 7 1, 3) := by decide +kernel
theorem dX11_digestIn_89 : decode cX11_digestIn 89 = .ok (.goto (-75), 3) := by decide +kernel
theorem dX11_digestIn_92 : decode cX11_digestIn 92 = .ok (.lload_n 3, 1) := by decide +kernel
theorem dX11_digestIn_93 : decode cX11_digestIn 93 = .ok (.lreturn, 1) := by decide +kernel
theorem dX11_mix_0 : decode cX11_mix 0 = .ok (.ldc2_w 384, 3) := by decide +kernel
theorem dX11_mix_3 : decode cX11_mix 3 = .ok (.lload_n 0, 1) := by decide +kernel
theorem dX11_mix_4 : decode cX11_mix 4 = .ok (.lmul, 1) := by decide +kernel
theorem dX11_mix_5 : decode cX11_mix 5 = .ok (.lload_n 2, 1) := by decide +kernel
theorem dX11_mix_6 : decode cX11_mix 6 = .ok (.ladd, 1) := by decide +kernel
theorem dX11_mix_7 : decode cX11_mix 7 = .ok (.lreturn, 1) := by decide +kernel
theorem dX11_power_0 : decode cX11_power 0 = .ok (.lconst 1, 1) := by decide +kernel
theorem dX11_power_1 : decode cX11_power 1 = .ok (.lstore_n 3, 1) := by decide +kernel
theorem dX11_power_2 : decode cX11_power 2 = .ok (.iconst 0, 1) := by decide +kernel
theorem dX11_power_3 : decode cX11_power 3 = .ok (.istore 5, 2) := by decide +kernel
theorem dX11_power_5 : decode cX11_power 5 = .ok (.iload 5, 2) := by decide +kernel
theorem dX11_power_7 : decode cX11_power 7 = .ok (.iload_n 2, 1) := by decide +kernel
theorem dX11_power_8 : decode cX11_power 8 = .ok (.if_icmp .ge 13, 3) := by decide +kernel
theorem dX11_power_11 : decode cX11_power 11 = .ok (.lload_n 3, 1) := by decide +kernel
theorem dX11_power_12 : decode cX11_power 12 = .ok (.lload_n 0, 1) := by decide +kernel
theorem dX11_power_13 : decode cX11_power 13 = .ok (.lmul, 1) := by decide +kernel
theorem dX11_power_14 : decode cX11_power 14 = .ok (.lstore_n 3, 1) := by decide +kernel
theorem dX11_power_15 : decode cX11_power 15 = .ok (.iinc 5 1, 3) := by decide +kernel
theorem dX11_power_18 : decode cX11_power 18 = .ok (.goto (-13), 3) := by decide +kernel
theorem dX11_power_21 : decode cX11_power 21 = .ok (.lload_n 3, 1) := by decide +kernel
theorem dX11_power_22 : decode cX11_power 22 = .ok (.lreturn, 1) := by decide +kernel
theorem dX11_commonDivisor_0 : decode cX11_commonDivisor 0 = .ok (.lload_n 0, 1) := by decide +kernel
theorem dX11_commonDivisor_1 : decode cX11_commonDivisor 1 = .ok (.lstore 4, 2) := by decide +kernel
theorem dX11_commonDivisor_3 : decode cX11_commonDivisor 3 = .ok (.lload_n 2, 1) := by decide +kernel
theorem dX11_commonDivisor_4 : decode cX11_commonDivisor 4 = .ok (.lstore 6, 2) := by decide +kernel
theorem dX11_commonDivisor_6 : decode cX11_commonDivisor 6 = .ok (.iconst 0, 1) := by decide +kernel
theorem dX11_commonDivisor_7 : decode cX11_commonDivisor 7 = .ok (.istore 8, 2) := by decide +kernel
theorem dX11_commonDivisor_9 : decode cX11_commonDivisor 9 = .ok (.iload 8, 2) := by decide +kernel
theorem dX11_commonDivisor_11 : decode cX11_commonDivisor 11 = .ok (.sipush 1000, 3) := by decide +kernel
theorem dX11_commonDivisor_14 : decode cX11_commonDivisor 14 = .ok (.if_icmp .ge 31, 3) := by decide +kernel
theorem dX11_commonDivisor_17 : decode cX11_commonDivisor 17 = .ok (.lload 6, 2) := by decide +kernel
theorem dX11_commonDivisor_19 : decode cX11_commonDivisor 19 = .ok (.lconst 0, 1) := by decide +kernel
theorem dX11_commonDivisor_20 : decode cX11_commonDivisor 20 = .ok (.lcmp, 1) := by decide +kernel
theorem dX11_commonDivisor_21 : decode cX11_commonDivisor 21 = .ok (.ifCond .eq 24, 3) := by decide +kernel
theorem dX11_commonDivisor_24 : decode cX11_commonDivisor 24 = .ok (.lload 4, 2) := by decide +kernel
theorem dX11_commonDivisor_26 : decode cX11_commonDivisor 26 = .ok (.lload 6, 2) := by decide +kernel
theorem dX11_commonDivisor_28 : decode cX11_commonDivisor 28 = .ok (.lrem, 1) := by decide +kernel
theorem dX11_commonDivisor_29 : decode cX11_commonDivisor 29 = .ok (.lstore 9, 2) := by decide +kernel
theorem dX11_commonDivisor_31 : decode cX11_commonDivisor 31 = .ok (.lload 6, 2) := by decide +kernel
theorem dX11_commonDivisor_33 : decode cX11_commonDivisor 33 = .ok (.lstore 4, 2) := by decide +kernel
theorem dX11_commonDivisor_35 : decode cX11_commonDivisor 35 = .ok (.lload 9, 2) := by decide +kernel
theorem dX11_commonDivisor_37 : decode cX11_commonDivisor 37 = .ok (.lstore 6, 2) := by decide +kernel
theorem dX11_commonDivisor_39 : decode cX11_commonDivisor 39 = .ok (.iinc 8 1, 3) := by decide +kernel
theorem dX11_commonDivisor_42 : decode cX11_commonDivisor 42 = .ok (.goto (-33), 3) := by decide +kernel
theorem dX11_commonDivisor_45 : decode cX11_commonDivisor 45 = .ok (.lload 4, 2) := by decide +kernel
theorem dX11_commonDivisor_47 : decode cX11_commonDivisor 47 = .ok (.lreturn, 1) := by decide +kernel
theorem dX11_lowest_0 : decode cX11_lowest 0 = .ok (.lload_n 0, 1) := by decide +kernel
theorem dX11_lowest_1 : decode cX11_lowest 1 = .ok (.lload_n 2, 1) := by decide +kernel
theorem dX11_lowest_2 : decode cX11_lowest 2 = .ok (.invokestatic 386, 3) := by decide +kernel
theorem dX11_lowest_5 : decode cX11_lowest 5 = .ok (.lstore 5, 2) := by decide +kernel
theorem dX11_lowest_7 : decode cX11_lowest 7 = .ok (.lload 5, 2) := by decide +kernel
theorem dX11_lowest_9 : decode cX11_lowest 9 = .ok (.lconst 0, 1) := by decide +kernel
theorem dX11_lowest_10 : decode cX11_lowest 10 = .ok (.lcmp, 1) := by decide +kernel
theorem dX11_lowest_11 : decode cX11_lowest 11 = .ok (.ifCond .ne 7, 3) := by decide +kernel
theorem dX11_lowest_14 : decode cX11_lowest 14 = .ok (.ldc2_w 226, 3) := by decide +kernel
theorem dX11_lowest_17 : decode cX11_lowest 17 = .ok (.lreturn, 1) := by decide +kernel
theorem dX11_lowest_18 : decode cX11_lowest 18 = .ok (.iload 4, 2) := by decide +kernel
theorem dX11_lowest_20 : decode cX11_lowest 20 = .ok (.ifCond .ne 7, 3) := by decide +kernel
theorem dX11_lowest_23 : decode cX11_lowest 23 = .ok (.lload_n 0, 1) := by decide +kernel
theorem dX11_lowest_24 : decode cX11_lowest 24 = .ok (.goto 4, 3) := by decide +kernel
theorem dX11_lowest_27 : decode cX11_lowest 27 = .ok (.lload_n 2, 1) := by decide +kernel
theorem dX11_lowest_28 : decode cX11_lowest 28 = .ok (.lload 5, 2) := by decide +kernel
theorem dX11_lowest_30 : decode cX11_lowest 30 = .ok (.ldiv, 1) := by decide +kernel
theorem dX11_lowest_31 : decode cX11_lowest 31 = .ok (.lreturn, 1) := by decide +kernel
theorem dX12_init_0 : decode cX12_init 0 = .ok (.aload_n 0, 1) := by decide +kernel
theorem dX12_init_1 : decode cX12_init 1 = .ok (.invokespecial 1, 3) := by decide +kernel
theorem dX12_init_4 : decode cX12_init 4 = .ok (.aload_n 0, 1) := by decide +kernel
theorem dX12_init_5 : decode cX12_init 5 = .ok (.bipush 8, 2) := by decide +kernel
theorem dX12_init_7 : decode cX12_init 7 = .ok (.newarray .int, 2) := by decide +kernel
theorem dX12_init_9 : decode cX12_init 9 = .ok (.putfield 7, 3) := by decide +kernel
theorem dX12_init_12 : decode cX12_init 12 = .ok (.aload_n 0, 1) := by decide +kernel
theorem dX12_init_13 : decode cX12_init 13 = .ok (.bipush 8, 2) := by decide +kernel
theorem dX12_init_15 : decode cX12_init 15 = .ok (.newarray .int, 2) := by decide +kernel
theorem dX12_init_17 : decode cX12_init 17 = .ok (.putfield 13, 3) := by decide +kernel
theorem dX12_init_20 : decode cX12_init 20 = .ok (.aload_n 0, 1) := by decide +kernel
theorem dX12_init_21 : decode cX12_init 21 = .ok (.bipush 8, 2) := by decide +kernel
theorem dX12_init_23 : decode cX12_init 23 = .ok (.newarray .int, 2) := by decide +kernel
theorem dX12_init_25 : decode cX12_init 25 = .ok (.putfield 16, 3) := by decide +kernel
theorem dX12_init_28 : decode cX12_init 28 = .ok (.aload_n 0, 1) := by decide +kernel
theorem dX12_init_29 : decode cX12_init 29 = .ok (.bipush 6, 2) := by decide +kernel
theorem dX12_init_31 : decode cX12_init 31 = .ok (.newarray .int, 2) := by decide +kernel
theorem dX12_init_33 : decode cX12_init 33 = .ok (.putfield 19, 3) := by decide +kernel
theorem dX12_init_36 : decode cX12_init 36 = .ok (.aload_n 0, 1) := by decide +kernel
theorem dX12_init_37 : decode cX12_init 37 = .ok (.bipush 48, 2) := by decide +kernel
theorem dX12_init_39 : decode cX12_init 39 = .ok (.newarray .int, 2) := by decide +kernel
theorem dX12_init_41 : decode cX12_init 41 = .ok (.putfield 22, 3) := by decide +kernel
theorem dX12_init_44 : decode cX12_init 44 = .ok (.aload_n 0, 1) := by decide +kernel
theorem dX12_init_45 : decode cX12_init 45 = .ok (.bipush 6, 2) := by decide +kernel
theorem dX12_init_47 : decode cX12_init 47 = .ok (.newarray .int, 2) := by decide +kernel
theorem dX12_init_49 : decode cX12_init 49 = .ok (.putfield 25, 3) := by decide +kernel
theorem dX12_init_52 : decode cX12_init 52 = .ok (.aload_n 0, 1) := by decide +kernel
theorem dX12_init_53 : decode cX12_init 53 = .ok (.bipush 6, 2) := by decide +kernel
theorem dX12_init_55 : decode cX12_init 55 = .ok (.newarray .int, 2) := by decide +kernel
theorem dX12_init_57 : decode cX12_init 57 = .ok (.putfield 28, 3) := by decide +kernel
theorem dX12_init_60 : decode cX12_init 60 = .ok (.aload_n 0, 1) := by decide +kernel
theorem dX12_init_61 : decode cX12_init 61 = .ok (.bipush 6, 2) := by decide +kernel
theorem dX12_init_63 : decode cX12_init 63 = .ok (.newarray .int, 2) := by decide +kernel
theorem dX12_init_65 : decode cX12_init 65 = .ok (.putfield 31, 3) := by decide +kernel
theorem dX12_init_68 : decode cX12_init 68 = .ok (.aload_n 0, 1) := by decide +kernel
theorem dX12_init_69 : decode cX12_init 69 = .ok (.bipush 6, 2) := by decide +kernel
theorem dX12_init_71 : decode cX12_init 71 = .ok (.newarray .boolean, 2) := by decide +kernel
theorem dX12_init_73 : decode cX12_init 73 = .ok (.putfield 34, 3) := by decide +kernel
theorem dX12_init_76 : decode cX12_init 76 = .ok (.aload_n 0, 1) := by decide +kernel
theorem dX12_init_77 : decode cX12_init 77 = .ok (.bipush 6, 2) := by decide +kernel
theorem dX12_init_79 : decode cX12_init 79 = .ok (.newarray .boolean, 2) := by decide +kernel
theorem dX12_init_81 : decode cX12_init 81 = .ok (.putfield 38, 3) := by decide +kernel
theorem dX12_init_84 : decode cX12_init 84 = .ok (.aload_n 0, 1) := by decide +kernel
theorem dX12_init_85 : decode cX12_init 85 = .ok (.bipush 20, 2) := by decide +kernel
theorem dX12_init_87 : decode cX12_init 87 = .ok (.newarray .byte, 2) := by decide +kernel
theorem dX12_init_89 : decode cX12_init 89 = .ok (.putfield 41, 3) := by decide +kernel
theorem dX12_init_92 : decode cX12_init 92 = .ok (.aload_n 0, 1) := by decide +kernel
theorem dX12_init_93 : decode cX12_init 93 = .ok (.bipush 8, 2) := by decide +kernel
theorem dX12_init_95 : decode cX12_init 95 = .ok (.newarray .int, 2) := by decide +kernel
theorem dX12_init_97 : decode cX12_init 97 = .ok (.putfield 45, 3) := by decide +kernel
theorem dX12_init_100 : decode cX12_init 100 = .ok (.aload_n 0, 1) := by decide +kernel
theorem dX12_init_101 : decode cX12_init 101 = .ok (.bipush 48, 2) := by decide +kernel
theorem dX12_init_103 : decode cX12_init 103 = .ok (.newarray .int, 2) := by decide +kernel
theorem dX12_init_105 : decode cX12_init 105 = .ok (.putfield 48, 3) := by decide +kernel
theorem dX12_init_108 : decode cX12_init 108 = .ok (.aload_n 0, 1) := by decide +kernel
theorem dX12_init_109 : decode cX12_init 109 = .ok (.bipush 9, 2) := by decide +kernel
theorem dX12_init_111 : decode cX12_init 111 = .ok (.newarray .long, 2) := by decide +kernel
theorem dX12_init_113 : decode cX12_init 113 = .ok (.putfield 51, 3) := by decide +kernel
theorem dX12_init_116 : decode cX12_init 116 = .ok (.aload_n 0, 1) := by decide +kernel
theorem dX12_init_117 : decode cX12_init 117 = .ok (.bipush 36, 2) := by decide +kernel
theorem dX12_init_119 : decode cX12_init 119 = .ok (.newarray .long, 2) := by decide +kernel
theorem dX12_init_121 : decode cX12_init 121 = .ok (.putfield 55, 3) := by decide +kernel
theorem dX12_init_124 : decode cX12_init 124 = .ok (.aload_n 0, 1) := by decide +kernel
theorem dX12_init_125 : decode cX12_init 125 = .ok (.bipush 9, 2) := by decide +kernel
theorem dX12_init_127 : decode cX12_init 127 = .ok (.newarray .int, 2) := by decide +kernel
theorem dX12_init_129 : decode cX12_init 129 = .ok (.putfield 58, 3) := by decide +kernel
theorem dX12_init_132 : decode cX12_init 132 = .ok (.return_, 1) := by decide +kernel
theorem dX12_within_0 : decode cX12_within 0 = .ok (.iload_n 0, 1) := by decide +kernel
theorem dX12_within_1 : decode cX12_within 1 = .ok (.iload_n 1, 1) := by decide +kernel
theorem dX12_within_2 : decode cX12_within 2 = .ok (.if_icmp .lt 12, 3) := by decide +kernel
theorem dX12_within_5 : decode cX12_within 5 = .ok (.iload_n 0, 1) := by decide +kernel
theorem dX12_within_6 : decode cX12_within 6 = .ok (.iload_n 2, 1) := by decide +kernel
theorem dX12_within_7 : decode cX12_within 7 = .ok (.if_icmp .gt 7, 3) := by decide +kernel
theorem dX12_within_10 : decode cX12_within 10 = .ok (.iconst 1, 1) := by decide +kernel
theorem dX12_within_11 : decode cX12_within 11 = .ok (.goto 4, 3) := by decide +kernel
theorem dX12_within_14 : decode cX12_within 14 = .ok (.iconst 0, 1) := by decide +kernel
theorem dX12_within_15 : decode cX12_within 15 = .ok (.ireturn, 1) := by decide +kernel
theorem dX12_has_0 : decode cX12_has 0 = .ok (.iload_n 0, 1) := by decide +kernel
theorem dX12_has_1 : decode cX12_has 1 = .ok (.iload_n 1, 1) := by decide +kernel
theorem dX12_has_2 : decode cX12_has 2 = .ok (.ishr, 1) := by decide +kernel
theorem dX12_has_3 : decode cX12_has 3 = .ok (.iconst 1, 1) := by decide +kernel
theorem dX12_has_4 : decode cX12_has 4 = .ok (.iand, 1) := by decide +kernel
theorem dX12_has_5 : decode cX12_has 5 = .ok (.iconst 1, 1) := by decide +kernel
theorem dX12_has_6 : decode cX12_has 6 = .ok (.if_icmp .ne 7, 3) := by decide +kernel
theorem dX12_has_9 : decode cX12_has 9 = .ok (.iconst 1, 1) := by decide +kernel
theorem dX12_has_10 : decode cX12_has 10 = .ok (.goto 4, 3) := by decide +kernel
theorem dX12_has_13 : decode cX12_has 13 = .ok (.iconst 0, 1) := by decide +kernel
theorem dX12_has_14 : decode cX12_has 14 = .ok (.ireturn, 1) := by decide +kernel
theorem dX12_ones_0 : decode cX12_ones 0 = .ok (.iconst 0, 1) := by decide +kernel
theorem dX12_ones_1 : decode cX12_ones 1 = .ok (.istore_n 1, 1) := by decide +kernel
theorem dX12_ones_2 : decode cX12_ones 2 = .ok (.iload_n 0, 1) := by decide +kernel
theorem dX12_ones_3 : decode cX12_ones 3 = .ok (.istore_n 2, 1) := by decide +kernel
theorem dX12_ones_4 : decode cX12_ones 4 = .ok (.iload_n 2, 1) := by decide +kernel
theorem dX12_ones_5 : decode cX12_ones 5 = .ok (.ifCond .eq 15, 3) := by decide +kernel
theorem dX12_ones_8 : decode cX12_ones 8 = .ok (.iinc 1 1, 3) := by decide +kernel
theorem dX12_ones_11 : decode cX12_ones 11 = .ok (.iload_n 2, 1) := by decide +kernel
theorem dX12_ones_12 : decode cX12_ones 12 = .ok (.iload_n 2, 1) := by decide +kernel
theorem dX12_ones_13 : decode cX12_ones 13 = .ok (.iconst 1, 1) := by decide +kernel
theorem dX12_ones_14 : decode cX12_ones 14 = .ok (.isub, 1) := by decide +kernel
theorem dX12_ones_15 : decode cX12_ones 15 = .ok (.iand, 1) := by decide +kernel
theorem dX12_ones_16 : decode cX12_ones 16 = .ok (.istore_n 2, 1) := by decide +kernel
theorem dX12_ones_17 : decode cX12_ones 17 = .ok (.goto (-13), 3) := by decide +kernel
theorem dX12_ones_20 : decode cX12_ones 20 = .ok (.iload_n 1, 1) := by decide +kernel
theorem dX12_ones_21 : decode cX12_ones 21 = .ok (.ireturn, 1) := by decide +kernel
theorem dX12_isPart_0 : decode cX12_isPart 0 = .ok (.iload_n 0, 1) := by decide +kernel
theorem dX12_isPart_1 : decode cX12_isPart 1 = .ok (.iconst 0, 1) := by decide +kernel
theorem dX12_isPart_2 : decode cX12_isPart 2 = .ok (.iconst 1, 1) := by decide +kernel
theorem dX12_isPart_3 : decode cX12_isPart 3 = .ok (.invokestatic 61, 3) := by decide +kernel
theorem dX12_isPart_6 : decode cX12_isPart 6 = .ok (.ireturn, 1) := by decide +kernel
theorem dX12_lowest_0 : decode cX12_lowest 0 = .ok (.lload_n 0, 1) := by decide +kernel
theorem dX12_lowest_1 : decode cX12_lowest 1 = .ok (.lstore 5, 2) := by decide +kernel
theorem dX12_lowest_3 : decode cX12_lowest 3 = .ok (.lload_n 2, 1) := by decide +kernel
theorem dX12_lowest_4 : decode cX12_lowest 4 = .ok (.lstore 7, 2) := by decide +kernel
theorem dX12_lowest_6 : decode cX12_lowest 6 = .ok (.lload 7, 2) := by decide +kernel
theorem dX12_lowest_8 : decode cX12_lowest 8 = .ok (.lconst 0, 1) := by decide +kernel
theorem dX12_lowest_9 : decode cX12_lowest 9 = .ok (.lcmp, 1) := by decide +kernel
theorem dX12_lowest_10 : decode cX12_lowest 10 = .ok (.ifCond .eq 21, 3) := by decide +kernel
theorem dX12_lowest_13 : decode cX12_lowest 13 = .ok (.lload 5, 2) := by decide +kernel
theorem dX12_lowest_15 : decode cX12_lowest 15 = .ok (.lload 7, 2) := by decide +kernel
theorem dX12_lowest_17 : decode cX12_lowest 17 = .ok (.lrem, 1) := by decide +kernel
theorem dX12_lowest_18 : decode cX12_lowest 18 = .ok (.lstore 9, 2) := by decide +kernel
theorem dX12_lowest_20 : decode cX12_lowest 20 = .ok (.lload 7, 2) := by decide +kernel
theorem dX12_lowest_22 : decode cX12_lowest 22 = .ok (.lstore 5, 2) := by decide +kernel
theorem dX12_lowest_24 : decode cX12_lowest 24 = .ok (.lload 9, 2) := by decide +kernel
theorem dX12_lowest_26 : decode cX12_lowest 26 = .ok (.lstore 7, 2) := by decide +kernel
theorem dX12_lowest_28 : decode cX12_lowest 28 = .ok (.goto (-22), 3) := by decide +kernel
theorem dX12_lowest_31 : decode cX12_lowest 31 = .ok (.iload 4, 2) := by decide +kernel
theorem dX12_lowest_33 : decode cX12_lowest 33 = .ok (.ifCond .ne 10, 3) := by decide +kernel
theorem dX12_lowest_36 : decode cX12_lowest 36 = .ok (.lload_n 0, 1) := by decide +kernel
theorem dX12_lowest_37 : decode cX12_lowest 37 = .ok (.lload 5, 2) := by decide +kernel
theorem dX12_lowest_39 : decode cX12_lowest 39 = .ok (.ldiv, 1) := by decide +kernel
theorem dX12_lowest_40 : decode cX12_lowest 40 = .ok (.goto 7, 3) := by decide +kernel
theorem dX12_lowest_43 : decode cX12_lowest 43 = .ok (.lload_n 2, 1) := by decide +kernel
theorem dX12_lowest_44 : decode cX12_lowest 44 = .ok (.lload 5, 2) := by decide +kernel
theorem dX12_lowest_46 : decode cX12_lowest 46 = .ok (.ldiv, 1) := by decide +kernel
theorem dX12_lowest_47 : decode cX12_lowest 47 = .ok (.lreturn, 1) := by decide +kernel
theorem dX12_tens_0 : decode cX12_tens 0 = .ok (.lconst 1, 1) := by decide +kernel
theorem dX12_tens_1 : decode cX12_tens 1 = .ok (.lstore_n 1, 1) := by decide +kernel
theorem dX12_tens_2 : decode cX12_tens 2 = .ok (.iconst 0, 1) := by decide +kernel
theorem dX12_tens_3 : decode cX12_tens 3 = .ok (.istore_n 3, 1) := by decide +kernel
theorem dX12_tens_4 : decode cX12_tens 4 = .ok (.iload_n 3, 1) := by decide +kernel
theorem dX12_tens_5 : decode cX12_tens 5 = .ok (.iload_n 0, 1) := by decide +kernel
theorem dX12_tens_6 : decode cX12_tens 6 = .ok (.if_icmp .ge 15, 3) := by decide +kernel
theorem dX12_tens_9 : decode cX12_tens 9 = .ok (.lload_n 1, 1) := by decide +kernel
theorem dX12_tens_10 : decode cX12_tens 10 = .ok (.ldc2_w 65, 3) := by decide +kernel
theorem dX12_tens_13 : decode cX12_tens 13 = .ok (.lmul, 1) := by decide +kernel
theorem dX12_tens_14 : decode cX12_tens 14 = .ok (.lstore_n 1, 1) := by decide +kernel
theorem dX12_tens_15 : decode cX12_tens 15 = .ok (.iinc 3 1, 3) := by decide +kernel
theorem dX12_tens_18 : decode cX12_tens 18 = .ok (.goto (-14), 3) := by decide +kernel
theorem dX12_tens_21 : decode cX12_tens 21 = .ok (.lload_n 1, 1) := by decide +kernel
theorem dX12_tens_22 : decode cX12_tens 22 = .ok (.lreturn, 1) := by decide +kernel
theorem dX12_letters_0 : decode cX12_letters 0 = .ok (.iconst 0, 1) := by decide +kernel
theorem dX12_letters_1 : decode cX12_letters 1 = .ok (.istore_n 3, 1) := by decide +kernel
theorem dX12_letters_2 : decode cX12_letters 2 = .ok (.iconst 0, 1) := by decide +kernel
theorem dX12_letters_3 : decode cX12_letters 3 = .ok (.istore 4, 2) := by decide +kernel
theorem dX12_letters_5 : decode cX12_letters 5 = .ok (.iconst 0, 1) := by decide +kernel
theorem dX12_letters_6 : decode cX12_letters 6 = .ok (.istore 5, 2) := by decide +kernel
theorem dX12_letters_8 : decode cX12_letters 8 = .ok (.iload 5, 2) := by decide +kernel
theorem dX12_letters_10 : decode cX12_letters 10 = .ok (.bipush 8, 2) := by decide +kernel
theorem dX12_letters_12 : decode cX12_letters 12 = .ok (.if_icmp .ge 73, 3) := by decide +kernel
theorem dX12_letters_15 : decode cX12_letters 15 = .ok (.lload_n 1, 1) := by decide +kernel
theorem dX12_letters_16 : decode cX12_letters 16 = .ok (.bipush 8, 2) := by decide +kernel
theorem dX12_letters_18 : decode cX12_letters 18 = .ok (.iload 5, 2) := by decide +kernel
theorem dX12_letters_20 : decode cX12_letters 20 = .ok (.imul, 1) := by decide +kernel
theorem dX12_letters_21 : decode cX12_letters 21 = .ok (.lshr, 1) := by decide +kernel
theorem dX12_letters_22 : decode cX12_letters 22 = .ok (.ldc2_w 67, 3) := by decide +kernel
theorem dX12_letters_25 : decode cX12_letters 25 = .ok (.land, 1) := by decide +kernel
theorem dX12_letters_26 : decode cX12_letters 26 = .ok (.l2i, 1) := by decide +kernel
theorem dX12_letters_27 : decode cX12_letters 27 = .ok (.istore 6, 2) := by decide +kernel
theorem dX12_letters_29 : decode cX12_letters 29 = .ok (.iload 6, 2) := by decide +kernel
theorem dX12_letters_31 : decode cX12_letters 31 = .ok (.bipush 126, 2) := by decide +kernel
theorem dX12_letters_33 : decode cX12_letters 33 = .ok (.if_icmp .gt 13, 3) := by decide +kernel
theorem dX12_letters_36 : decode cX12_letters 36 = .ok (.iload 4, 2) := by decide +kernel
theorem dX12_letters_38 : decode cX12_letters 38 = .ok (.ifCond .eq 11, 3) := by decide +kernel
theorem dX12_letters_41 : decode cX12_letters 41 = .ok (.iload 6, 2) := by decide +kernel
theorem dX12_letters_43 : decode cX12_letters 43 = .ok (.ifCond .eq 6, 3) := by decide +kernel
theorem dX12_letters_46 : decode cX12_letters 46 = .ok (.bipush (-102), 2) := by decide +kernel
theorem dX12_letters_48 : decode cX12_letters 48 = .ok (.ireturn, 1) := by decide +kernel
theorem dX12_letters_49 : decode cX12_letters 49 = .ok (.iload 4, 2) := by decide +kernel
theorem dX12_letters_51 : decode cX12_letters 51 = .ok (.ifCond .ne 8, 3) := by decide +kernel
theorem dX12_letters_54 : decode cX12_letters 54 = .ok (.iload 6, 2) := by decide +kernel
theorem dX12_letters_56 : decode cX12_letters 56 = .ok (.ifCond .ne 7, 3) := by decide +kernel
theorem dX12_letters_59 : decode cX12_letters 59 = .ok (.iconst 1, 1) := by decide +kernel
theorem dX12_letters_60 : decode cX12_letters 60 = .ok (.goto 4, 3) := by decide +kernel
theorem dX12_letters_63 : decode cX12_letters 63 = .ok (.iconst 0, 1) := by decide +kernel
theorem dX12_letters_64 : decode cX12_letters 64 = .ok (.istore 4, 2) := by decide +kernel
theorem dX12_letters_66 : decode cX12_letters 66 = .ok (.iload_n 3, 1) := by decide +kernel
theorem dX12_letters_67 : decode cX12_letters 67 = .ok (.iload 6, 2) := by decide +kernel
theorem dX12_letters_69 : decode cX12_letters 69 = .ok (.ifCond .ne 7, 3) := by decide +kernel
theorem dX12_letters_72 : decode cX12_letters 72 = .ok (.iconst 0, 1) := by decide +kernel
theorem dX12_letters_73 : decode cX12_letters 73 = .ok (.goto 4, 3) := by decide +kernel
theorem dX12_letters_76 : decode cX12_letters 76 = .ok (.iconst 1, 1) := by decide +kernel
theorem dX12_letters_77 : decode cX12_letters 77 = .ok (.iadd, 1) := by decide +kernel
theorem dX12_letters_78 : decode cX12_letters 78 = .ok (.istore_n 3, 1) := by decide +kernel
theorem dX12_letters_79 : decode cX12_letters 79 = .ok (.iinc 5 1, 3) := by decide +kernel
theorem dX12_letters_82 : decode cX12_letters 82 = .ok (.goto (-74), 3) := by decide +kernel
theorem dX12_letters_85 : decode cX12_letters 85 = .ok (.aload_n 0, 1) := by decide +kernel
theorem dX12_letters_86 : decode cX12_letters 86 = .ok (.getfield 69, 3) := by decide +kernel
theorem dX12_letters_89 : decode cX12_letters 89 = .ok (.iload_n 3, 1) := by decide +kernel
theorem dX12_letters_90 : decode cX12_letters 90 = .ok (.iadd, 1) := by decide +kernel
theorem dX12_letters_91 : decode cX12_letters 91 = .ok (.bipush 20, 2) := by decide +kernel
theorem dX12_letters_93 : decode cX12_letters 93 = .ok (.if_icmp .le 6, 3) := by decide +kernel
theorem dX12_letters_96 : decode cX12_letters 96 = .ok (.bipush (-104), 2) := by decide +kernel
theorem dX12_letters_98 : decode cX12_letters 98 = .ok (.ireturn, 1) := by decide +kernel
theorem dX12_letters_99 : decode cX12_letters 99 = .ok (.iconst 0, 1) := by decide +kernel
theorem dX12_letters_100 : decode cX12_letters 100 = .ok (.istore 5, 2) := by decide +kernel
theorem dX12_letters_102 : decode cX12_letters 102 = .ok (.iload 5, 2) := by decide +kernel
theorem dX12_letters_104 : decode cX12_letters 104 = .ok (.iload_n 3, 1) := by decide +kernel
theorem dX12_letters_105 : decode cX12_letters 105 = .ok (.if_icmp .ge 30, 3) := by decide +kernel
theorem dX12_letters_108 : decode cX12_letters 108 = .ok (.aload_n 0, 1) := by decide +kernel
theorem dX12_letters_109 : decode cX12_letters 109 = .ok (.getfield 41, 3) := by decide +kernel
theorem dX12_letters_112 : decode cX12_letters 112 = .ok (.aload_n 0, 1) := by decide +kernel
theorem dX12_letters_113 : decode cX12_letters 113 = .ok (.getfield 69, 3) := by decide +kernel
theorem dX12_letters_116 : decode cX12_letters 116 = .ok (.iload 5, 2) := by decide +kernel
theorem dX12_letters_118 : decode cX12_letters 118 = .ok (.iadd, 1) := by decide +kernel
theorem dX12_letters_119 : decode cX12_letters 119 = .ok (.lload_n 1, 1) := by decide +kernel
theorem dX12_letters_120 : decode cX12_letters 120 = .ok (.bipush 8, 2) := by decide +kernel
theorem dX12_letters_122 : decode cX12_letters 122 = .ok (.iload 5, 2) := by decide +kernel
theorem dX12_letters_124 : decode cX12_letters 124 = .ok (.imul, 1) := by decide +kernel
theorem dX12_letters_125 : decode cX12_letters 125 = .ok (.lshr, 1) := by decide +kernel
theorem dX12_letters_126 : decode cX12_letters 126 = .ok (.l2i, 1) := by decide +kernel
theorem dX12_letters_127 : decode cX12_letters 127 = .ok (.i2b, 1) := by decide +kernel
theorem dX12_letters_128 : decode cX12_letters 128 = .ok (.bastore, 1) := by decide +kernel
theorem dX12_letters_129 : decode cX12_letters 129 = .ok (.iinc 5 1, 3) := by decide +kernel
theorem dX12_letters_132 : decode cX12_letters 132 = .ok (.goto (-30), 3) := by decide +kernel
theorem dX12_letters_135 : decode cX12_letters 135 = .ok (.aload_n 0, 1) := by decide +kernel
theorem dX12_letters_136 : decode cX12_letters 136 = .ok (.dup, 1) := by decide +kernel
theorem dX12_letters_137 : decode cX12_letters 137 = .ok (.getfield 69, 3) := by decide +kernel
theorem dX12_letters_140 : decode cX12_letters 140 = .ok (.iload_n 3, 1) := by decide +kernel
theorem dX12_letters_141 : decode cX12_letters 141 = .ok (.iadd, 1) := by decide +kernel
theorem dX12_letters_142 : decode cX12_letters 142 = .ok (.putfield 69, 3) := by decide +kernel
theorem dX12_letters_145 : decode cX12_letters 145 = .ok (.aload_n 0, 1) := by decide +kernel
theorem dX12_letters_146 : decode cX12_letters 146 = .ok (.getfield 69, 3) := by decide +kernel
theorem dX12_letters_149 : decode cX12_letters 149 = .ok (.ireturn, 1) := by decide +kernel
theorem dX12_blank_0 : decode cX12_blank 0 = .ok (.aload_n 0, 1) := by decide +kernel
theorem dX12_blank_1 : decode cX12_blank 1 = .ok (.getfield 69, 3) := by decide +kernel
theorem dX12_blank_4 : decode cX12_blank 4 = .ok (.istore_n 1, 1) := by decide +kernel
theorem dX12_blank_5 : decode cX12_blank 5 = .ok (.aload_n 0, 1) := by decide +kernel
theorem dX12_blank_6 : decode cX12_blank 6 = .ok (.iconst 0, 1) := by decide +kernel
theorem dX12_blank_7 : decode cX12_blank 7 = .ok (.putfield 69, 3) := by decide +kernel
theorem dX12_blank_10 : decode cX12_blank 10 = .ok (.iload_n 1, 1) := by decide +kernel
theorem dX12_blank_11 : decode cX12_blank 11 = .ok (.ireturn, 1) := by decide +kernel
theorem dX12_isDigit_0 : decode cX12_isDigit 0 = .ok (.iload_n 0, 1) := by decide +kernel
theorem dX12_isDigit_1 : decode cX12_isDigit 1 = .ok (.bipush 48, 2) := by decide +kernel
theorem dX12_isDigit_3 : decode cX12_isDigit 3 = .ok (.bipush 57, 2) := by decide +kernel
theorem dX12_isDigit_5 : decode cX12_isDigit 5 = .ok (.invokestatic 61, 3) := by decide +kernel
theorem dX12_isDigit_8 : decode cX12_isDigit 8 = .ok (.ireturn, 1) := by decide +kernel
theorem dX12_next_0 : decode cX12_next 0 = .ok (.iload_n 1, 1) := by decide +kernel
theorem dX12_next_1 : decode cX12_next 1 = .ok (.tableswitch 258 0 7 #[47, 69, 94, 119, 125, 137, 163, 224], 47) := by decide +kernel
theorem dX12_next_48 : decode cX12_next 48 = .ok (.iload_n 2, 1) := by decide +kernel
theorem dX12_next_49 : decode cX12_next 49 = .ok (.bipush 98, 2) := by decide +kernel
theorem dX12_next_51 : decode cX12_next 51 = .ok (.if_icmp .ne 7, 3) := by decide +kernel
theorem dX12_next_54 : decode cX12_next 54 = .ok (.iconst 1, 1) := by decide +kernel
theorem dX12_next_55 : decode cX12_next 55 = .ok (.goto 14, 3) := by decide +kernel
theorem dX12_next_58 : decode cX12_next 58 = .ok (.iload_n 2, 1) := by decide +kernel
theorem dX12_next_59 : decode cX12_next 59 = .ok (.bipush 114, 2) := by decide +kernel
theorem dX12_next_61 : decode cX12_next 61 = .ok (.if_icmp .ne 7, 3) := by decide +kernel
theorem dX12_next_64 : decode cX12_next 64 = .ok (.iconst 2, 1) := by decide +kernel
theorem dX12_next_65 : decode cX12_next 65 = .ok (.goto 4, 3) := by decide +kernel
theorem dX12_next_68 : decode cX12_next 68 = .ok (.iconst (-1), 1) := by decide +kernel
theorem dX12_next_69 : decode cX12_next 69 = .ok (.ireturn, 1) := by decide +kernel
theorem dX12_next_70 : decode cX12_next 70 = .ok (.aload_n 0, 1) := by decide +kernel
theorem dX12_next_71 : decode cX12_next 71 = .ok (.iload_n 2, 1) := by decide +kernel
theorem dX12_next_72 : decode cX12_next 72 = .ok (.bipush 48, 2) := by decide +kernel
theorem dX12_next_74 : decode cX12_next 74 = .ok (.isub, 1) := by decide +kernel
theorem dX12_next_75 : decode cX12_next 75 = .ok (.putfield 73, 3) := by decide +kernel
theorem dX12_next_78 : decode cX12_next 78 = .ok (.iload_n 2, 1) := by decide +kernel
theorem dX12_next_79 : decode cX12_next 79 = .ok (.bipush 49, 2) := by decide +kernel
theorem dX12_next_81 : decode cX12_next 81 = .ok (.bipush 56, 2) := by decide +kernel
theorem dX12_next_83 : decode cX12_next 83 = .ok (.invokestatic 61, 3) := by decide +kernel
theorem dX12_next_86 : decode cX12_next 86 = .ok (.ifCond .eq 7, 3) := by decide +kernel
theorem dX12_next_89 : decode cX12_next 89 = .ok (.iconst 4, 1) := by decide +kernel
theorem dX12_next_90 : decode cX12_next 90 = .ok (.goto 4, 3) := by decide +kernel
theorem dX12_next_93 : decode cX12_next 93 = .ok (.iconst (-1), 1) := by decide +kernel
theorem dX12_next_94 : decode cX12_next 94 = .ok (.ireturn, 1) := by decide +kernel
theorem dX12_next_95 : decode cX12_next 95 = .ok (.aload_n 0, 1) := by decide +kernel
theorem dX12_next_96 : decode cX12_next 96 = .ok (.iload_n 2, 1) := by decide +kernel
theorem dX12_next_97 : decode cX12_next 97 = .ok (.bipush 48, 2) := by decide +kernel
theorem dX12_next_99 : decode cX12_next 99 = .ok (.isub, 1) := by decide +kernel
theorem dX12_next_100 : decode cX12_next 100 = .ok (.putfield 76, 3) := by decide +kernel
theorem dX12_next_103 : decode cX12_next 103 = .ok (.iload_n 2, 1) := by decide +kernel
theorem dX12_next_104 : decode cX12_next 104 = .ok (.bipush 49, 2) := by decide +kernel
theorem dX12_next_106 : decode cX12_next 106 = .ok (.bipush 57, 2) := by decide +kernel
theorem dX12_next_108 : decode cX12_next 108 = .ok (.invokestatic 61, 3) := by decide +kernel
theorem dX12_next_111 : decode cX12_next 111 = .ok (.ifCond .eq 7, 3) := by decide +kernel
theorem dX12_next_114 : decode cX12_next 114 = .ok (.iconst 3, 1) := by decide +kernel
theorem dX12_next_115 : decode cX12_next 115 = .ok (.goto 4, 3) := by decide +kernel
theorem dX12_next_118 : decode cX12_next 118 = .ok (.iconst (-1), 1) := by decide +kernel
theorem dX12_next_119 : decode cX12_next 119 = .ok (.ireturn, 1) := by decide +kernel
theorem dX12_next_120 : decode cX12_next 120 = .ok (.aload_n 0, 1) := by decide +kernel
theorem dX12_next_121 : decode cX12_next 121 = .ok (.iload_n 2, 1) := by decide +kernel
theorem dX12_next_122 : decode cX12_next 122 = .ok (.invokevirtual 79, 3) := by decide +kernel
theorem dX12_next_125 : decode cX12_next 125 = .ok (.ireturn, 1) := by decide +kernel
theorem dX12_next_126 : decode cX12_next 126 = .ok (.iload_n 2, 1) := by decide +kernel
theorem dX12_next_127 : decode cX12_next 127 = .ok (.bipush 113, 2) := by decide +kernel
theorem dX12_next_129 : decode cX12_next 129 = .ok (.if_icmp .ne 7, 3) := by decide +kernel
theorem dX12_next_132 : decode cX12_next 132 = .ok (.iconst 5, 1) := by decide +kernel
theorem dX12_next_133 : decode cX12_next 133 = .ok (.goto 4, 3) := by decide +kernel
theorem dX12_next_136 : decode cX12_next 136 = .ok (.iconst (-1), 1) := by decide +kernel
theorem dX12_next_137 : decode cX12_next 137 = .ok (.ireturn, 1) := by decide +kernel
theorem dX12_next_138 : decode cX12_next 138 = .ok (.aload_n 0, 1) := by decide +kernel
theorem dX12_next_139 : decode cX12_next 139 = .ok (.iload_n 2, 1) := by decide +kernel
theorem dX12_next_140 : decode cX12_next 140 = .ok (.bipush 48, 2) := by decide +kernel
theorem dX12_next_142 : decode cX12_next 142 = .ok (.isub, 1) := by decide +kernel
theorem dX12_next_143 : decode cX12_next 143 = .ok (.putfield 83, 3) := by decide +kernel
theorem dX12_next_146 : decode cX12_next 146 = .ok (.iload_n 2, 1) := by decide +kernel
theorem dX12_next_147 : decode cX12_next 147 = .ok (.bipush 48, 2) := by decide +kernel
theorem dX12_next_149 : decode cX12_next 149 = .ok (.bipush 56, 2) := by decide +kernel
theorem dX12_next_151 : decode cX12_next 151 = .ok (.invokestatic 61, 3) := by decide +kernel
theorem dX12_next_154 : decode cX12_next 154 = .ok (.ifCond .eq 8, 3) := by decide +kernel
theorem dX12_next_157 : decode cX12_next 157 = .ok (.bipush 6, 2) := by decide +kernel
theorem dX12_next_159 : decode cX12_next 159 = .ok (.goto 4, 3) := by decide +kernel
theorem dX12_next_162 : decode cX12_next 162 = .ok (.iconst (-1), 1) := by decide +kernel
theorem dX12_next_163 : decode cX12_next 163 = .ok (.ireturn, 1) := by decide +kernel
theorem dX12_next_164 : decode cX12_next 164 = .ok (.aload_n 0, 1) := by decide +kernel
theorem dX12_next_165 : decode cX12_next 165 = .ok (.iload_n 2, 1) := by decide +kernel
theorem dX12_next_166 : decode cX12_next 166 = .ok (.bipush 116, 2) := by decide +kernel
theorem dX12_next_168 : decode cX12_next 168 = .ok (.if_icmp .ne 7, 3) := by decide +kernel
theorem dX12_next_171 : decode cX12_next 171 = .ok (.iconst 1, 1) := by decide +kernel
theorem dX12_next_172 : decode cX12_next 172 = .ok (.goto 4, 3) := by decide +kernel
theorem dX12_next_175 : decode cX12_next 175 = .ok (.iconst 0, 1) := by decide +kernel
theorem dX12_next_176 : decode cX12_next 176 = .ok (.putfield 86, 3) := by decide +kernel
theorem dX12_next_179 : decode cX12_next 179 = .ok (.aload_n 0, 1) := by decide +kernel
theorem dX12_next_180 : decode cX12_next 180 = .ok (.iload_n 2, 1) := by decide +kernel
theorem dX12_next_181 : decode cX12_next 181 = .ok (.bipush 99, 2) := by decide +kernel
theorem dX12_next_183 : decode cX12_next 183 = .ok (.if_icmp .ne 7, 3) := by decide +kernel
theorem dX12_next_186 : decode cX12_next 186 = .ok (.iconst 1, 1) := by decide +kernel
theorem dX12_next_187 : decode cX12_next 187 = .ok (.goto 4, 3) := by decide +kernel
theorem dX12_next_190 : decode cX12_next 190 = .ok (.iconst 0, 1) := by decide +kernel
theorem dX12_next_191 : decode cX12_next 191 = .ok (.putfield 90, 3) := by decide +kernel
theorem dX12_next_194 : decode cX12_next 194 = .ok (.aload_n 0, 1) := by decide +kernel
theorem dX12_next_195 : decode cX12_next 195 = .ok (.getfield 86, 3) := by decide +kernel
theorem dX12_next_198 : decode cX12_next 198 = .ok (.ifCond .eq 8, 3) := by decide +kernel
theorem dX12_next_201 : decode cX12_next 201 = .ok (.bipush 7, 2) := by decide +kernel
theorem dX12_next_203 : decode cX12_next 203 = .ok (.goto 21, 3) := by decide +kernel
theorem dX12_next_206 : decode cX12_next 206 = .ok (.iload_n 2, 1) := by decide +kernel
theorem dX12_next_207 : decode cX12_next 207 = .ok (.bipush 99, 2) := by decide +kernel
theorem dX12_next_209 : decode cX12_next 209 = .ok (.if_icmp .eq 9, 3) := by decide +kernel
theorem dX12_next_212 : decode cX12_next 212 = .ok (.iload_n 2, 1) := by decide +kernel
theorem dX12_next_213 : decode cX12_next 213 = .ok (.bipush 121, 2) := by decide +kernel
theorem dX12_next_215 : decode cX12_next 215 = .ok (.if_icmp .ne 8, 3) := by decide +kernel
theorem dX12_next_218 : decode cX12_next 218 = .ok (.bipush 8, 2) := by decide +kernel
theorem dX12_next_220 : decode cX12_next 220 = .ok (.goto 4, 3) := by decide +kernel
theorem dX12_next_223 : decode cX12_next 223 = .ok (.iconst (-1), 1) := by decide +kernel
theorem dX12_next_224 : decode cX12_next 224 = .ok (.ireturn, 1) := by decide +kernel
theorem dX12_next_225 : decode cX12_next 225 = .ok (.aload_n 0, 1) := by decide +kernel
theorem dX12_next_226 : decode cX12_next 226 = .ok (.iload_n 2, 1) := by decide +kernel
theorem dX12_next_227 : decode cX12_next 227 = .ok (.bipush 99, 2) := by decide +kernel
theorem dX12_next_229 : decode cX12_next 229 = .ok (.if_icmp .ne 7, 3) := by decide +kernel
theorem dX12_next_232 : decode cX12_next 232 = .ok (.iconst 1, 1) := by decide +kernel
theorem dX12_next_233 : decode cX12_next 233 = .ok (.goto 4, 3) := by decide +kernel
theorem dX12_next_236 : decode cX12_next 236 = .ok (.iconst 0, 1) := by decide +kernel
theorem dX12_next_237 : decode cX12_next 237 = .ok (.putfield 90, 3) := by decide +kernel
theorem dX12_next_240 : decode cX12_next 240 = .ok (.iload_n 2, 1) := by decide +kernel
theorem dX12_next_241 : decode cX12_next 241 = .ok (.bipush 99, 2) := by decide +kernel
theorem dX12_next_243 : decode cX12_next 243 = .ok (.if_icmp .eq 9, 3) := by decide +kernel
theorem dX12_next_246 : decode cX12_next 246 = .ok (.iload_n 2, 1) := by decide +kernel
theorem dX12_next_247 : decode cX12_next 247 = .ok (.bipush 121, 2) := by decide +kernel
theorem dX12_next_249 : decode cX12_next 249 = .ok (.if_icmp .ne 8, 3) := by decide +kernel
theorem dX12_next_252 : decode cX12_next 252 = .ok (.bipush 8, 2) := by decide +kernel
theorem dX12_next_254 : decode cX12_next 254 = .ok (.goto 4, 3) := by decide +kernel
theorem dX12_next_257 : decode cX12_next 257 = .ok (.iconst (-1), 1) := by decide +kernel
theorem dX12_next_258 : decode cX12_next 258 = .ok (.ireturn, 1) := by decide +kernel
theorem dX12_next_259 : decode cX12_next 259 = .ok (.iconst (-1), 1) := by decide +kernel
theorem dX12_next_260 : decode cX12_next 260 = .ok (.ireturn, 1) := by decide +kernel
theorem dX12_nextRatio_0 : decode cX12_nextRatio 0 = .ok (.aload_n 0, 1) := by decide +kernel
theorem dX12_nextRatio_1 : decode cX12_nextRatio 1 = .ok (.getfield 76, 3) := by decide +kernel
theorem dX12_nextRatio_4 : decode cX12_nextRatio 4 = .ok (.iconst 1, 1) := by decide +kernel
theorem dX12_nextRatio_5 : decode cX12_nextRatio 5 = .ok (.if_icmp .ne 10, 3) := by decide +kernel
theorem dX12_nextRatio_8 : decode cX12_nextRatio 8 = .ok (.iload_n 1, 1) := by decide +kernel
theorem dX12_nextRatio_9 : decode cX12_nextRatio 9 = .ok (.invokestatic 93, 3) := by decide +kernel
theorem dX12_nextRatio_12 : decode cX12_nextRatio 12 = .ok (.ifCond .ne 17, 3) := by decide +kernel
theorem dX12_nextRatio_15 : decode cX12_nextRatio 15 = .ok (.aload_n 0, 1) := by decide +kernel
theorem dX12_nextRatio_16 : decode cX12_nextRatio 16 = .ok (.getfield 76, 3) := by decide +kernel
theorem dX12_nextRatio_19 : decode cX12_nextRatio 19 = .ok (.iconst 2, 1) := by decide +kernel
theorem dX12_nextRatio_20 : decode cX12_nextRatio 20 = .ok (.if_icmp .ne 13, 3) := by decide +kernel
theorem dX12_nextRatio_23 : decode cX12_nextRatio 23 = .ok (.iload_n 1, 1) := by decide +kernel
theorem dX12_nextRatio_24 : decode cX12_nextRatio 24 = .ok (.bipush 48, 2) := by decide +kernel
theorem dX12_nextRatio_26 : decode cX12_nextRatio 26 = .ok (.if_icmp .ne 7, 3) := by decide +kernel
theorem dX12_nextRatio_29 : decode cX12_nextRatio 29 = .ok (.iconst 1, 1) := by decide +kernel
theorem dX12_nextRatio_30 : decode cX12_nextRatio 30 = .ok (.goto 4, 3) := by decide +kernel
theorem dX12_nextRatio_33 : decode cX12_nextRatio 33 = .ok (.iconst 0, 1) := by decide +kernel
theorem dX12_nextRatio_34 : decode cX12_nextRatio 34 = .ok (.istore_n 2, 1) := by decide +kernel
theorem dX12_nextRatio_35 : decode cX12_nextRatio 35 = .ok (.iload_n 2, 1) := by decide +kernel
theorem dX12_nextRatio_36 : decode cX12_nextRatio 36 = .ok (.ifCond .eq 21, 3) := by decide +kernel
theorem dX12_nextRatio_39 : decode cX12_nextRatio 39 = .ok (.aload_n 0, 1) := by decide +kernel
theorem dX12_nextRatio_40 : decode cX12_nextRatio 40 = .ok (.bipush 10, 2) := by decide +kernel
theorem dX12_nextRatio_42 : decode cX12_nextRatio 42 = .ok (.aload_n 0, 1) := by decide +kernel
theorem dX12_nextRatio_43 : decode cX12_nextRatio 43 = .ok (.getfield 76, 3) := by decide +kernel
theorem dX12_nextRatio_46 : decode cX12_nextRatio 46 = .ok (.imul, 1) := by decide +kernel
theorem dX12_nextRatio_47 : decode cX12_nextRatio 47 = .ok (.iload_n 1, 1) := by decide +kernel
theorem dX12_nextRatio_48 : decode cX12_nextRatio 48 = .ok (.iadd, 1) := by decide +kernel
theorem dX12_nextRatio_49 : decode cX12_nextRatio 49 = .ok (.bipush 48, 2) := by decide +kernel
theorem dX12_nextRatio_51 : decode cX12_nextRatio 51 = .ok (.isub, 1) := by decide +kernel
theorem dX12_nextRatio_52 : decode cX12_nextRatio 52 = .ok (.putfield 76, 3) := by decide +kernel
theorem dX12_nextRatio_55 : decode cX12_nextRatio 55 = .ok (.iconst 4, 1) := by decide +kernel
theorem dX12_nextRatio_56 : decode cX12_nextRatio 56 = .ok (.ireturn, 1) := by decide +kernel
theorem dX12_nextRatio_57 : decode cX12_nextRatio 57 = .ok (.aload_n 0, 1) := by decide +kernel
theorem dX12_nextRatio_58 : decode cX12_nextRatio 58 = .ok (.getfield 76, 3) := by decide +kernel
theorem dX12_nextRatio_61 : decode cX12_nextRatio 61 = .ok (.iconst 1, 1) := by decide +kernel
theorem dX12_nextRatio_62 : decode cX12_nextRatio 62 = .ok (.if_icmp .le 13, 3) := by decide +kernel
theorem dX12_nextRatio_65 : decode cX12_nextRatio 65 = .ok (.iload_n 1, 1) := by decide +kernel
theorem dX12_nextRatio_66 : decode cX12_nextRatio 66 = .ok (.bipush 113, 2) := by decide +kernel
theorem dX12_nextRatio_68 : decode cX12_nextRatio 68 = .ok (.if_icmp .ne 7, 3) := by decide +kernel
theorem dX12_nextRatio_71 : decode cX12_nextRatio 71 = .ok (.iconst 5, 1) := by decide +kernel
theorem dX12_nextRatio_72 : decode cX12_nextRatio 72 = .ok (.goto 4, 3) := by decide +kernel
theorem dX12_nextRatio_75 : decode cX12_nextRatio 75 = .ok (.iconst (-1), 1) := by decide +kernel
theorem dX12_nextRatio_76 : decode cX12_nextRatio 76 = .ok (.ireturn, 1) := by decide +kernel
theorem dX12_readPage_0 : decode cX12_readPage 0 = .ok (.aload_n 0, 1) := by decide +kernel
theorem dX12_readPage_1 : decode cX12_readPage 1 = .ok (.iconst 0, 1) := by decide +kernel
theorem dX12_readPage_2 : decode cX12_readPage 2 = .ok (.putfield 73, 3) := by decide +kernel
theorem dX12_readPage_5 : decode cX12_readPage 5 = .ok (.aload_n 0, 1) := by decide +kernel
theorem dX12_readPage_6 : decode cX12_readPage 6 = .ok (.iconst 0, 1) := by decide +kernel
theorem dX12_readPage_7 : decode cX12_readPage 7 = .ok (.putfield 76, 3) := by decide +kernel
theorem dX12_readPage_10 : decode cX12_readPage 10 = .ok (.iconst 0, 1) := by decide +kernel
theorem dX12_readPage_11 : decode cX12_readPage 11 = .ok (.istore_n 1, 1) := by decide +kernel
theorem dX12_readPage_12 : decode cX12_readPage 12 = .ok (.iconst 0, 1) := by decide +kernel
theorem dX12_readPage_13 : decode cX12_readPage 13 = .ok (.istore_n 2, 1) := by decide +kernel
theorem dX12_readPage_14 : decode cX12_readPage 14 = .ok (.iconst 1, 1) := by decide +kernel
theorem dX12_readPage_15 : decode cX12_readPage 15 = .ok (.istore_n 3, 1) := by decide +kernel
theorem dX12_readPage_16 : decode cX12_readPage 16 = .ok (.iload_n 2, 1) := by decide +kernel
theorem dX12_readPage_17 : decode cX12_readPage 17 = .ok (.aload_n 0, 1) := by decide +kernel
theorem dX12_readPage_18 : decode cX12_readPage 18 = .ok (.getfield 69, 3) := by decide +kernel
theorem dX12_readPage_21 : decode cX12_readPage 21 = .ok (.if_icmp .ge 58, 3) := by decide +kernel
theorem dX12_readPage_24 : decode cX12_readPage 24 = .ok (.iload_n 3, 1) := by decide +kernel
theorem dX12_readPage_25 : decode cX12_readPage 25 = .ok (.ifCond .eq 54, 3) := by decide +kernel
theorem dX12_readPage_28 : decode cX12_readPage 28 = .ok (.aload_n 0, 1) := by decide +kernel
theorem dX12_readPage_29 : decode cX12_readPage 29 = .ok (.iload_n 1, 1) := by decide +kernel
theorem dX12_readPage_30 : decode cX12_readPage 30 = .ok (.aload_n 0, 1) := by decide +kernel
theorem dX12_readPage_31 : decode cX12_readPage 31 = .ok (.getfield 41, 3) := by decide +kernel
theorem dX12_readPage_34 : decode cX12_readPage 34 = .ok (.iload_n 2, 1) := by decide +kernel
theorem dX12_readPage_35 : decode cX12_readPage 35 = .ok (.baload, 1) := by decide +kernel
theorem dX12_readPage_36 : decode cX12_readPage 36 = .ok (.invokevirtual 97, 3) := by decide +kernel
theorem dX12_readPage_39 : decode cX12_readPage 39 = .ok (.istore 4, 2) := by decide +kernel
theorem dX12_readPage_41 : decode cX12_readPage 41 = .ok (.iload 4, 2) := by decide +kernel
theorem dX12_readPage_43 : decode cX12_readPage 43 = .ok (.iconst (-1), 1) := by decide +kernel
theorem dX12_readPage_44 : decode cX12_readPage 44 = .ok (.if_icmp .eq 7, 3) := by decide +kernel
theorem dX12_readPage_47 : decode cX12_readPage 47 = .ok (.iconst 1, 1) := by decide +kernel
theorem dX12_readPage_48 : decode cX12_readPage 48 = .ok (.goto 4, 3) := by decide +kernel
theorem dX12_readPage_51 : decode cX12_readPage 51 = .ok (.iconst 0, 1) := by decide +kernel
theorem dX12_readPage_52 : decode cX12_readPage 52 = .ok (.istore_n 3, 1) := by decide +kernel
theorem dX12_readPage_53 : decode cX12_readPage 53 = .ok (.iload_n 3, 1) := by decide +kernel
theorem dX12_readPage_54 : decode cX12_readPage 54 = .ok (.ifCond .eq 8, 3) := by decide +kernel
theorem dX12_readPage_57 : decode cX12_readPage 57 = .ok (.iload 4, 2) := by decide +kernel
theorem dX12_readPage_59 : decode cX12_readPage 59 = .ok (.goto 4, 3) := by decide +kernel
theorem dX12_readPage_62 : decode cX12_readPage 62 = .ok (.iload_n 1, 1) := by decide +kernel
theorem dX12_readPage_63 : decode cX12_readPage 63 = .ok (.istore_n 1, 1) := by decide +kernel
theorem dX12_readPage_64 : decode cX12_readPage 64 = .ok (.iload_n 2, 1) := by decide +kernel
theorem dX12_readPage_65 : decode cX12_readPage 65 = .ok (.iload_n 3, 1) := by decide +kernel
theorem dX12_readPage_66 : decode cX12_readPage 66 = .ok (.ifCond .eq 7, 3) := by decide +kernel
theorem dX12_readPage_69 : decode cX12_readPage 69 = .ok (.iconst 1, 1) := by decide +kernel
theorem dX12_readPage_70 : decode cX12_readPage 70 = .ok (.goto 4, 3) := by decide +kernel
theorem dX12_readPage_73 : decode cX12_readPage 73 = .ok (.iconst 0, 1) := by decide +kernel
theorem dX12_readPage_74 : decode cX12_readPage 74 = .ok (.iadd, 1) := by decide +kernel
theorem dX12_readPage_75 : decode cX12_readPage 75 = .ok (.istore_n 2, 1) := by decide +kernel
theorem dX12_readPage_76 : decode cX12_readPage 76 = .ok (.goto (-60), 3) := by decide +kernel
theorem dX12_readPage_79 : decode cX12_readPage 79 = .ok (.aload_n 0, 1) := by decide +kernel
theorem dX12_readPage_80 : decode cX12_readPage 80 = .ok (.iload_n 2, 1) := by decide +kernel
theorem dX12_readPage_81 : decode cX12_readPage 81 = .ok (.putfield 101, 3) := by decide +kernel
theorem dX12_readPage_84 : decode cX12_readPage 84 = .ok (.aload_n 0, 1) := by decide +kernel
theorem dX12_readPage_85 : decode cX12_readPage 85 = .ok (.iload_n 2, 1) := by decide +kernel
theorem dX12_readPage_86 : decode cX12_readPage 86 = .ok (.aload_n 0, 1) := by decide +kernel
theorem dX12_readPage_87 : decode cX12_readPage 87 = .ok (.getfield 69, 3) := by decide +kernel
theorem dX12_readPage_90 : decode cX12_readPage 90 = .ok (.if_icmp .ne 13, 3) := by decide +kernel
theorem dX12_readPage_93 : decode cX12_readPage 93 = .ok (.iload_n 1, 1) := by decide +kernel
theorem dX12_readPage_94 : decode cX12_readPage 94 = .ok (.bipush 8, 2) := by decide +kernel
theorem dX12_readPage_96 : decode cX12_readPage 96 = .ok (.if_icmp .ne 7, 3) := by decide +kernel
theorem dX12_readPage_99 : decode cX12_readPage 99 = .ok (.iconst 1, 1) := by decide +kernel
theorem dX12_readPage_100 : decode cX12_readPage 100 = .ok (.goto 4, 3) := by decide +kernel
theorem dX12_readPage_103 : decode cX12_readPage 103 = .ok (.iconst 0, 1) := by decide +kernel
theorem dX12_readPage_104 : decode cX12_readPage 104 = .ok (.putfield 104, 3) := by decide +kernel
theorem dX12_readPage_107 : decode cX12_readPage 107 = .ok (.return_, 1) := by decide +kernel
theorem dX12_fault_0 : decode cX12_fault 0 = .ok (.aload_n 0, 1) := by decide +kernel
theorem dX12_fault_1 : decode cX12_fault 1 = .ok (.invokevirtual 107, 3) := by decide +kernel
theorem dX12_fault_4 : decode cX12_fault 4 = .ok (.aload_n 0, 1) := by decide +kernel
theorem dX12_fault_5 : decode cX12_fault 5 = .ok (.getfield 101, 3) := by decide +kernel
theorem dX12_fault_8 : decode cX12_fault 8 = .ok (.ireturn, 1) := by decide +kernel
theorem dX12_rule_0 : decode cX12_rule 0 = .ok (.aload_n 0, 1) := by decide +kernel
theorem dX12_rule_1 : decode cX12_rule 1 = .ok (.invokevirtual 107, 3) := by decide +kernel
theorem dX12_rule_4 : decode cX12_rule 4 = .ok (.aload_n 0, 1) := by decide +kernel
theorem dX12_rule_5 : decode cX12_rule 5 = .ok (.getfield 104, 3) := by decide +kernel
theorem dX12_rule_8 : decode cX12_rule 8 = .ok (.ifCond .ne 6, 3) := by decide +kernel
theorem dX12_rule_11 : decode cX12_rule 11 = .ok (.bipush (-103), 2) := by decide +kernel
theorem dX12_rule_13 : decode cX12_rule 13 = .ok (.ireturn, 1) := by decide +kernel
theorem dX12_rule_14 : decode cX12_rule 14 = .ok (.aload_n 0, 1) := by decide +kernel
theorem dX12_rule_15 : decode cX12_rule 15 = .ok (.getfield 110, 3) := by decide +kernel
theorem dX12_rule_18 : decode cX12_rule 18 = .ok (.bipush 6, 2) := by decide +kernel
theorem dX12_rule_20 : decode cX12_rule 20 = .ok (.if_icmp .ne 6, 3) := by decide +kernel
theorem dX12_rule_23 : decode cX12_rule 23 = .ok (.bipush (-104), 2) := by decide +kernel
theorem dX12_rule_25 : decode cX12_rule 25 = .ok (.ireturn, 1) := by decide +kernel
theorem dX12_rule_26 : decode cX12_rule 26 = .ok (.aload_n 0, 1) := by decide +kernel
theorem dX12_rule_27 : decode cX12_rule 27 = .ok (.getfield 25, 3) := by decide +kernel
theorem dX12_rule_30 : decode cX12_rule 30 = .ok (.aload_n 0, 1) := by decide +kernel
theorem dX12_rule_31 : decode cX12_rule 31 = .ok (.getfield 110, 3) := by decide +kernel
theorem dX12_rule_34 : decode cX12_rule 34 = .ok (.aload_n 0, 1) := by decide +kernel
theorem dX12_rule_35 : decode cX12_rule 35 = .ok (.getfield 73, 3) := by decide +kernel
theorem dX12_rule_38 : decode cX12_rule 38 = .ok (.iastore, 1) := by decide +kernel
theorem dX12_rule_39 : decode cX12_rule 39 = .ok (.aload_n 0, 1) := by decide +kernel
theorem dX12_rule_40 : decode cX12_rule 40 = .ok (.getfield 28, 3) := by decide +kernel
theorem dX12_rule_43 : decode cX12_rule 43 = .ok (.aload_n 0, 1) := by decide +kernel
theorem dX12_rule_44 : decode cX12_rule 44 = .ok (.getfield 110, 3) := by decide +kernel
theorem dX12_rule_47 : decode cX12_rule 47 = .ok (.aload_n 0, 1) := by decide +kernel
theorem dX12_rule_48 : decode cX12_rule 48 = .ok (.getfield 76, 3) := by decide +kernel
theorem dX12_rule_51 : decode cX12_rule 51 = .ok (.iastore, 1) := by decide +kernel
theorem dX12_rule_52 : decode cX12_rule 52 = .ok (.aload_n 0, 1) := by decide +kernel
theorem dX12_rule_53 : decode cX12_rule 53 = .ok (.getfield 31, 3) := by decide +kernel
theorem dX12_rule_56 : decode cX12_rule 56 = .ok (.aload_n 0, 1) := by decide +kernel
theorem dX12_rule_57 : decode cX12_rule 57 = .ok (.getfield 110, 3) := by decide +kernel
theorem dX12_rule_60 : decode cX12_rule 60 = .ok (.aload_n 0, 1) := by decide +kernel
theorem dX12_rule_61 : decode cX12_rule 61 = .ok (.getfield 83, 3) := by decide +kernel
theorem dX12_rule_64 : decode cX12_rule 64 = .ok (.iastore, 1) := by decide +kernel
theorem dX12_rule_65 : decode cX12_rule 65 = .ok (.aload_n 0, 1) := by decide +kernel
theorem dX12_rule_66 : decode cX12_rule 66 = .ok (.getfield 34, 3) := by decide +kernel
theorem dX12_rule_69 : decode cX12_rule 69 = .ok (.aload_n 0, 1) := by decide +kernel
theorem dX12_rule_70 : decode cX12_rule 70 = .ok (.getfield 110, 3) := by decide +kernel
theorem dX12_rule_73 : decode cX12_rule 73 = .ok (.aload_n 0, 1) := by decide +kernel
theorem dX12_rule_74 : decode cX12_rule 74 = .ok (.getfield 86, 3) := by decide +kernel
theorem dX12_rule_77 : decode cX12_rule 77 = .ok (.bastore, 1) := by decide +kernel
theorem dX12_rule_78 : decode cX12_rule 78 = .ok (.aload_n 0, 1) := by decide +kernel
theorem dX12_rule_79 : decode cX12_rule 79 = .ok (.getfield 38, 3) := by decide +kernel
theorem dX12_rule_82 : decode cX12_rule 82 = .ok (.aload_n 0, 1) := by decide +kernel
theorem dX12_rule_83 : decode cX12_rule 83 = .ok (.getfield 110, 3) := by decide +kernel
theorem dX12_rule_86 : decode cX12_rule 86 = .ok (.aload_n 0, 1) := by decide +kernel
theorem dX12_rule_87 : decode cX12_rule 87 = .ok (.getfield 90, 3) := by decide +kernel
theorem dX12_rule_90 : decode cX12_rule 90 = .ok (.bastore, 1) := by decide +kernel
theorem dX12_rule_91 : decode cX12_rule 91 = .ok (.aload_n 0, 1) := by decide +kernel
theorem dX12_rule_92 : decode cX12_rule 92 = .ok (.dup, 1) := by decide +kernel
theorem dX12_rule_93 : decode cX12_rule 93 = .ok (.getfield 110, 3) := by decide +kernel
theorem dX12_rule_96 : decode cX12_rule 96 = .ok (.iconst 1, 1) := by decide +kernel
theorem dX12_rule_97 : decode cX12_rule 97 = .ok (.iadd, 1) := by decide +kernel
theorem dX12_rule_98 : decode cX12_rule 98 = .ok (.putfield 110, 3) := by decide +kernel
theorem dX12_rule_101 : decode cX12_rule 101 = .ok (.aload_n 0, 1) := by decide +kernel
theorem dX12_rule_102 : decode cX12_rule 102 = .ok (.iconst 0, 1) := by decide +kernel
theorem dX12_rule_103 : decode cX12_rule 103 = .ok (.putfield 69, 3) := by decide +kernel
theorem dX12_rule_106 : decode cX12_rule 106 = .ok (.aload_n 0, 1) := by decide +kernel
theorem dX12_rule_107 : decode cX12_rule 107 = .ok (.getfield 110, 3) := by decide +kernel
theorem dX12_rule_110 : decode cX12_rule 110 = .ok (.iconst 1, 1) := by decide +kernel
theorem dX12_rule_111 : decode cX12_rule 111 = .ok (.isub, 1) := by decide +kernel
theorem dX12_rule_112 : decode cX12_rule 112 = .ok (.ireturn, 1) := by decide +kernel
theorem dX12_isRule_0 : decode cX12_isRule 0 = .ok (.iload_n 1, 1) := by decide +kernel
theorem dX12_isRule_1 : decode cX12_isRule 1 = .ok (.iconst 0, 1) := by decide +kernel
theorem dX12_isRule_2 : decode cX12_isRule 2 = .ok (.aload_n 0, 1) := by decide +kernel
theorem dX12_isRule_3 : decode cX12_isRule 3 = .ok (.getfield 110, 3) := by decide +kernel
theorem dX12_isRule_6 : decode cX12_isRule 6 = .ok (.iconst 1, 1) := by decide +kernel
theorem dX12_isRule_7 : decode cX12_isRule 7 = .ok (.isub, 1) := by decide +kernel
theorem dX12_isRule_8 : decode cX12_isRule 8 = .ok (.invokestatic 61, 3) := by decide +kernel
theorem dX12_isRule_11 : decode cX12_isRule 11 = .ok (.ireturn, 1) := by decide +kernel
theorem dX12_ruleNow_0 : decode cX12_ruleNow 0 = .ok (.iload_n 2, 1) := by decide +kernel
theorem dX12_ruleNow_1 : decode cX12_ruleNow 1 = .ok (.tableswitch 67 0 3 #[31, 38, 45, 52], 31) := by decide +kernel
theorem dX12_ruleNow_32 : decode cX12_ruleNow 32 = .ok (.aload_n 0, 1) := by decide +kernel
theorem dX12_ruleNow_33 : decode cX12_ruleNow 33 = .ok (.getfield 25, 3) := by decide +kernel
theorem dX12_ruleNow_36 : decode cX12_ruleNow 36 = .ok (.iload_n 1, 1) := by decide +kernel
theorem dX12_ruleNow_37 : decode cX12_ruleNow 37 = .ok (.iaload, 1) := by decide +kernel
theorem dX12_ruleNow_38 : decode cX12_ruleNow 38 = .ok (.ireturn, 1) := by decide +kernel
theorem dX12_ruleNow_39 : decode cX12_ruleNow 39 = .ok (.aload_n 0, 1) := by decide +kernel
theorem dX12_ruleNow_40 : decode cX12_ruleNow 40 = .ok (.getfield 28, 3) := by decide +kernel
theorem dX12_ruleNow_43 : decode cX12_ruleNow 43 = .ok (.iload_n 1, 1) := by decide +kernel
theorem dX12_ruleNow_44 : decode cX12_ruleNow 44 = .ok (.iaload, 1) := by decide +kernel
theorem dX12_ruleNow_45 : decode cX12_ruleNow 45 = .ok (.ireturn, 1) := by decide +kernel
theorem dX12_ruleNow_46 : decode cX12_ruleNow 46 = .ok (.aload_n 0, 1) := by decide +kernel
theorem dX12_ruleNow_47 : decode cX12_ruleNow 47 = .ok (.getfield 31, 3) := by decide +kernel
theorem dX12_ruleNow_50 : decode cX12_ruleNow 50 = .ok (.iload_n 1, 1) := by decide +kernel
theorem dX12_ruleNow_51 : decode cX12_ruleNow 51 = .ok (.iaload, 1) := by decide +kernel
theorem dX12_ruleNow_52 : decode cX12_ruleNow 52 = .ok (.ireturn, 1) := by decide +kernel
theorem dX12_ruleNow_53 : decode cX12_ruleNow 53 = .ok (.aload_n 0, 1) := by decide +kernel
theorem dX12_ruleNow_54 : decode cX12_ruleNow 54 = .ok (.getfield 34, 3) := by decide +kernel
theorem dX12_ruleNow_57 : decode cX12_ruleNow 57 = .ok (.iload_n 1, 1) := by decide +kernel
theorem dX12_ruleNow_58 : decode cX12_ruleNow 58 = .ok (.baload, 1) := by decide +kernel
theorem dX12_ruleNow_59 : decode cX12_ruleNow 59 = .ok (.ifCond .eq 7, 3) := by decide +kernel
theorem dX12_ruleNow_62 : decode cX12_ruleNow 62 = .ok (.iconst 1, 1) := by decide +kernel
theorem dX12_ruleNow_63 : decode cX12_ruleNow 63 = .ok (.goto 4, 3) := by decide +kernel
theorem dX12_ruleNow_66 : decode cX12_ruleNow 66 = .ok (.iconst 0, 1) := by decide +kernel
theorem dX12_ruleNow_67 : decode cX12_ruleNow 67 = .ok (.ireturn, 1) := by decide +kernel
theorem dX12_ruleNow_68 : decode cX12_ruleNow 68 = .ok (.aload_n 0, 1) := by decide +kernel
theorem dX12_ruleNow_69 : decode cX12_ruleNow 69 = .ok (.getfield 38, 3) := by decide +kernel
theorem dX12_ruleNow_72 : decode cX12_ruleNow 72 = .ok (.iload_n 1, 1) := by decide +kernel
theorem dX12_ruleNow_73 : decode cX12_ruleNow 73 = .ok (.baload, 1) := by decide +kernel
theorem dX12_ruleNow_74 : decode cX12_ruleNow 74 = .ok (.ifCond .eq 7, 3) := by decide +kernel
theorem dX12_ruleNow_77 : decode cX12_ruleNow 77 = .ok (.iconst 1, 1) := by decide +kernel
theorem dX12_ruleNow_78 : decode cX12_ruleNow 78 = .ok (.goto 4, 3) := by decide +kernel
theorem dX12_ruleNow_81 : decode cX12_ruleNow 81 = .ok (.iconst 0, 1) := by decide +kernel
theorem dX12_ruleNow_82 : decode cX12_ruleNow 82 = .ok (.ireturn, 1) := by decide +kernel
theorem dX12_ruleTold_0 : decode cX12_ruleTold 0 = .ok (.aload_n 0, 1) := by decide +kernel
theorem dX12_ruleTold_1 : decode cX12_ruleTold 1 = .ok (.iload_n 1, 1) := by decide +kernel
theorem dX12_ruleTold_2 : decode cX12_ruleTold 2 = .ok (.invokevirtual 113, 3) := by decide +kernel
theorem dX12_ruleTold_5 : decode cX12_ruleTold 5 = .ok (.ifCond .ne 8, 3) := by decide +kernel
theorem dX12_ruleTold_8 : decode cX12_ruleTold 8 = .ok (.bipush (-101), 2) := by decide +kernel
theorem dX12_ruleTold_10 : decode cX12_ruleTold 10 = .ok (.goto 23, 3) := by decide +kernel
theorem dX12_ruleTold_13 : decode cX12_ruleTold 13 = .ok (.iload_n 2, 1) := by decide +kernel
theorem dX12_ruleTold_14 : decode cX12_ruleTold 14 = .ok (.iconst 0, 1) := by decide +kernel
theorem dX12_ruleTold_15 : decode cX12_ruleTold 15 = .ok (.iconst 4, 1) := by decide +kernel
theorem dX12_ruleTold_16 : decode cX12_ruleTold 16 = .ok (.invokestatic 61, 3) := by decide +kernel
theorem dX12_ruleTold_19 : decode cX12_ruleTold 19 = .ok (.ifCond .eq 12, 3) := by decide +kernel
theorem dX12_ruleTold_22 : decode cX12_ruleTold 22 = .ok (.aload_n 0, 1) := by decide +kernel
theorem dX12_ruleTold_23 : decode cX12_ruleTold 23 = .ok (.iload_n 1, 1) := by decide +kernel
theorem dX12_ruleTold_24 : decode cX12_ruleTold 24 = .ok (.iload_n 2, 1) := by decide +kernel
theorem dX12_ruleTold_25 : decode cX12_ruleTold 25 = .ok (.invokevirtual 116, 3) := by decide +kernel
theorem dX12_ruleTold_28 : decode cX12_ruleTold 28 = .ok (.goto 5, 3) := by decide +kernel
theorem dX12_ruleTold_31 : decode cX12_ruleTold 31 = .ok (.bipush (-102), 2) := by decide +kernel
theorem dX12_ruleTold_33 : decode cX12_ruleTold 33 = .ok (.ireturn, 1) := by decide +kernel
theorem dX12_isMember_0 : decode cX12_isMember 0 = .ok (.iload_n 1, 1) := by decide +kernel
theorem dX12_isMember_1 : decode cX12_isMember 1 = .ok (.iconst 0, 1) := by decide +kernel
theorem dX12_isMember_2 : decode cX12_isMember 2 = .ok (.aload_n 0, 1) := by decide +kernel
theorem dX12_isMember_3 : decode cX12_isMember 3 = .ok (.getfield 119, 3) := by decide +kernel
theorem dX12_isMember_6 : decode cX12_isMember 6 = .ok (.iconst 1, 1) := by decide +kernel
theorem dX12_isMember_7 : decode cX12_isMember 7 = .ok (.isub, 1) := by decide +kernel
theorem dX12_isMember_8 : decode cX12_isMember 8 = .ok (.invokestatic 61, 3) := by decide +kernel
theorem dX12_isMember_11 : decode cX12_isMember 11 = .ok (.ireturn, 1) := by decide +kernel
theorem dX12_isCandidate_0 : decode cX12_isCandidate 0 = .ok (.iload_n 1, 1) := by decide +kernel
theorem dX12_isCandidate_1 : decode cX12_isCandidate 1 = .ok (.iconst 0, 1) := by decide +kernel
theorem dX12_isCandidate_2 : decode cX12_isCandidate 2 = .ok (.aload_n 0, 1) := by decide +kernel
theorem dX12_isCandidate_3 : decode cX12_isCandidate 3 = .ok (.getfield 122, 3) := by decide +kernel
theorem dX12_isCandidate_6 : decode cX12_isCandidate 6 = .ok (.iconst 1, 1) := by decide +kernel
theorem dX12_isCandidate_7 : decode cX12_isCandidate 7 = .ok (.isub, 1) := by decide +kernel
theorem dX12_isCandidate_8 : decode cX12_isCandidate 8 = .ok (.invokestatic 61, 3) := by decide +kernel
theorem dX12_isCandidate_11 : decode cX12_isCandidate 11 = .ok (.ireturn, 1) := by decide +kernel
theorem dX12_member_0 : decode cX12_member 0 = .ok (.iload_n 1, 1) := by decide +kernel
theorem dX12_member_1 : decode cX12_member 1 = .ok (.iconst 0, 1) := by decide +kernel
theorem dX12_member_2 : decode cX12_member 2 = .ok (.iconst 4, 1) := by decide +kernel
theorem dX12_member_3 : decode cX12_member 3 = .ok (.invokestatic 61, 3) := by decide +kernel
theorem dX12_member_6 : decode cX12_member 6 = .ok (.ifCond .eq 26, 3) := by decide +kernel
theorem dX12_member_9 : decode cX12_member 9 = .ok (.iload_n 1, 1) := by decide +kernel
theorem dX12_member_10 : decode cX12_member 10 = .ok (.iconst 3, 1) := by decide +kernel
theorem dX12_member_11 : decode cX12_member 11 = .ok (.if_icmp .ge 24, 3) := by decide +kernel
theorem dX12_member_14 : decode cX12_member 14 = .ok (.iload_n 2, 1) := by decide +kernel
theorem dX12_member_15 : decode cX12_member 15 = .ok (.iconst 0, 1) := by decide +kernel
theorem dX12_member_16 : decode cX12_member 16 = .ok (.iload_n 1, 1) := by decide +kernel
theorem dX12_member_17 : decode cX12_member 17 = .ok (.iconst 2, 1) := by decide +kernel
theorem dX12_member_18 : decode cX12_member 18 = .ok (.if_icmp .ne 7, 3) := by decide +kernel
theorem dX12_member_21 : decode cX12_member 21 = .ok (.iconst 5, 1) := by decide +kernel
theorem dX12_member_22 : decode cX12_member 22 = .ok (.goto 4, 3) := by decide +kernel
theorem dX12_member_25 : decode cX12_member 25 = .ok (.iconst 0, 1) := by decide +kernel
theorem dX12_member_26 : decode cX12_member 26 = .ok (.invokestatic 61, 3) := by decide +kernel
theorem dX12_member_29 : decode cX12_member 29 = .ok (.ifCond .ne 6, 3) := by decide +kernel
theorem dX12_member_32 : decode cX12_member 32 = .ok (.bipush (-102), 2) := by decide +kernel
theorem dX12_member_34 : decode cX12_member 34 = .ok (.ireturn, 1) := by decide +kernel
theorem dX12_member_35 : decode cX12_member 35 = .ok (.iload_n 1, 1) := by decide +kernel
theorem dX12_member_36 : decode cX12_member 36 = .ok (.iconst 3, 1) := by decide +kernel
theorem dX12_member_37 : decode cX12_member 37 = .ok (.if_icmp .lt 14, 3) := by decide +kernel
theorem dX12_member_40 : decode cX12_member 40 = .ok (.aload_n 0, 1) := by decide +kernel
theorem dX12_member_41 : decode cX12_member 41 = .ok (.iload_n 2, 1) := by decide +kernel
theorem dX12_member_42 : decode cX12_member 42 = .ok (.invokevirtual 125, 3) := by decide +kernel
theorem dX12_member_45 : decode cX12_member 45 = .ok (.ifCond .ne 6, 3) := by decide +kernel
theorem dX12_member_48 : decode cX12_member 48 = .ok (.bipush (-101), 2) := by decide +kernel
theorem dX12_member_50 : decode cX12_member 50 = .ok (.ireturn, 1) := by decide +kernel
theorem dX12_member_51 : decode cX12_member 51 = .ok (.iload_n 3, 1) := by decide +kernel
theorem dX12_member_52 : decode cX12_member 52 = .ok (.iconst 0, 1) := by decide +kernel
theorem dX12_member_53 : decode cX12_member 53 = .ok (.bipush 10, 2) := by decide +kernel
theorem dX12_member_55 : decode cX12_member 55 = .ok (.invokestatic 61, 3) := by decide +kernel
theorem dX12_member_58 : decode cX12_member 58 = .ok (.ifCond .ne 6, 3) := by decide +kernel
theorem dX12_member_61 : decode cX12_member 61 = .ok (.bipush (-102), 2) := by decide +kernel
theorem dX12_member_63 : decode cX12_member 63 = .ok (.ireturn, 1) := by decide +kernel
theorem dX12_member_64 : decode cX12_member 64 = .ok (.aload_n 0, 1) := by decide +kernel
theorem dX12_member_65 : decode cX12_member 65 = .ok (.getfield 119, 3) := by decide +kernel
theorem dX12_member_68 : decode cX12_member 68 = .ok (.bipush 8, 2) := by decide +kernel
theorem dX12_member_70 : decode cX12_member 70 = .ok (.if_icmp .ne 6, 3) := by decide +kernel
theorem dX12_member_73 : decode cX12_member 73 = .ok (.bipush (-104), 2) := by decide +kernel
theorem dX12_member_75 : decode cX12_member 75 = .ok (.ireturn, 1) := by decide +kernel
theorem dX12_member_76 : decode cX12_member 76 = .ok (.aload_n 0, 1) := by decide +kernel
theorem dX12_member_77 : decode cX12_member 77 = .ok (.getfield 7, 3) := by decide +kernel
theorem dX12_member_80 : decode cX12_member 80 = .ok (.aload_n 0, 1) := by decide +kernel
theorem dX12_member_81 : decode cX12_member 81 = .ok (.getfield 119, 3) := by decide +kernel
theorem dX12_member_84 : decode cX12_member 84 = .ok (.iload_n 1, 1) := by decide +kernel
theorem dX12_member_85 : decode cX12_member 85 = .ok (.iastore, 1) := by decide +kernel
theorem dX12_member_86 : decode cX12_member 86 = .ok (.aload_n 0, 1) := by decide +kernel
theorem dX12_member_87 : decode cX12_member 87 = .ok (.getfield 13, 3) := by decide +kernel
theorem dX12_member_90 : decode cX12_member 90 = .ok (.aload_n 0, 1) := by decide +kernel
theorem dX12_member_91 : decode cX12_member 91 = .ok (.getfield 119, 3) := by decide +kernel
theorem dX12_member_94 : decode cX12_member 94 = .ok (.iload_n 2, 1) := by decide +kernel
theorem dX12_member_95 : decode cX12_member 95 = .ok (.iastore, 1) := by decide +kernel
theorem dX12_member_96 : decode cX12_member 96 = .ok (.aload_n 0, 1) := by decide +kernel
theorem dX12_member_97 : decode cX12_member 97 = .ok (.getfield 16, 3) := by decide +kernel
theorem dX12_member_100 : decode cX12_member 100 = .ok (.aload_n 0, 1) := by decide +kernel
theorem dX12_member_101 : decode cX12_member 101 = .ok (.getfield 119, 3) := by decide +kernel
theorem dX12_member_104 : decode cX12_member 104 = .ok (.iload_n 3, 1) := by decide +kernel
theorem dX12_member_105 : decode cX12_member 105 = .ok (.iastore, 1) := by decide +kernel
theorem dX12_member_106 : decode cX12_member 106 = .ok (.aload_n 0, 1) := by decide +kernel
theorem dX12_member_107 : decode cX12_member 107 = .ok (.dup, 1) := by decide +kernel
theorem dX12_member_108 : decode cX12_member 108 = .ok (.getfield 119, 3) := by decide +kernel
theorem dX12_member_111 : decode cX12_member 111 = .ok (.iconst 1, 1) := by decide +kernel
theorem dX12_member_112 : decode cX12_member 112 = .ok (.iadd, 1) := by decide +kernel
theorem dX12_member_113 : decode cX12_member 113 = .ok (.putfield 119, 3) := by decide +kernel
theorem dX12_member_116 : decode cX12_member 116 = .ok (.aload_n 0, 1) := by decide +kernel
theorem dX12_member_117 : decode cX12_member 117 = .ok (.getfield 119, 3) := by decide +kernel
theorem dX12_member_120 : decode cX12_member 120 = .ok (.iconst 1, 1) := by decide +kernel
theorem dX12_member_121 : decode cX12_member 121 = .ok (.isub, 1) := by decide +kernel
theorem dX12_member_122 : decode cX12_member 122 = .ok (.ireturn, 1) := by decide +kernel
theorem dX12_as_0 : decode cX12_as 0 = .ok (.aload_n 0, 1) := by decide +kernel
theorem dX12_as_1 : decode cX12_as 1 = .ok (.iload_n 1, 1) := by decide +kernel
theorem dX12_as_2 : decode cX12_as 2 = .ok (.invokevirtual 125, 3) := by decide +kernel
theorem dX12_as_5 : decode cX12_as 5 = .ok (.ifCond .ne 6, 3) := by decide +kernel
theorem dX12_as_8 : decode cX12_as 8 = .ok (.bipush (-101), 2) := by decide +kernel
theorem dX12_as_10 : decode cX12_as 10 = .ok (.ireturn, 1) := by decide +kernel
theorem dX12_as_11 : decode cX12_as 11 = .ok (.iload_n 2, 1) := by decide +kernel
theorem dX12_as_12 : decode cX12_as 12 = .ok (.iconst 0, 1) := by decide +kernel
theorem dX12_as_13 : decode cX12_as 13 = .ok (.iconst 4, 1) := by decide +kernel
theorem dX12_as_14 : decode cX12_as 14 = .ok (.invokestatic 61, 3) := by decide +kernel
theorem dX12_as_17 : decode cX12_as 17 = .ok (.ifCond .ne 6, 3) := by decide +kernel
theorem dX12_as_20 : decode cX12_as 20 = .ok (.bipush (-102), 2) := by decide +kernel
theorem dX12_as_22 : decode cX12_as 22 = .ok (.ireturn, 1) := by decide +kernel
theorem dX12_as_23 : decode cX12_as 23 = .ok (.aload_n 0, 1) := by decide +kernel
theorem dX12_as_24 : decode cX12_as 24 = .ok (.getfield 7, 3) := by decide +kernel
theorem dX12_as_27 : decode cX12_as 27 = .ok (.iload_n 1, 1) := by decide +kernel
theorem dX12_as_28 : decode cX12_as 28 = .ok (.iaload, 1) := by decide +kernel
theorem dX12_as_29 : decode cX12_as 29 = .ok (.istore_n 3, 1) := by decide +kernel
theorem dX12_as_30 : decode cX12_as 30 = .ok (.iload_n 2, 1) := by decide +kernel
theorem dX12_as_31 : decode cX12_as 31 = .ok (.ifCond .eq 18, 3) := by decide +kernel
theorem dX12_as_34 : decode cX12_as 34 = .ok (.iload_n 3, 1) := by decide +kernel
theorem dX12_as_35 : decode cX12_as 35 = .ok (.iload_n 2, 1) := by decide +kernel
theorem dX12_as_36 : decode cX12_as 36 = .ok (.if_icmp .eq 13, 3) := by decide +kernel
theorem dX12_as_39 : decode cX12_as 39 = .ok (.iload_n 2, 1) := by decide +kernel
theorem dX12_as_40 : decode cX12_as 40 = .ok (.iconst 3, 1) := by decide +kernel
theorem dX12_as_41 : decode cX12_as 41 = .ok (.if_icmp .ne 12, 3) := by decide +kernel
theorem dX12_as_44 : decode cX12_as 44 = .ok (.iload_n 3, 1) := by decide +kernel
theorem dX12_as_45 : decode cX12_as 45 = .ok (.iconst 4, 1) := by decide +kernel
theorem dX12_as_46 : decode cX12_as 46 = .ok (.if_icmp .ne 7, 3) := by decide +kernel
theorem dX12_as_49 : decode cX12_as 49 = .ok (.iload_n 1, 1) := by decide +kernel
theorem dX12_as_50 : decode cX12_as 50 = .ok (.goto 4, 3) := by decide +kernel
theorem dX12_as_53 : decode cX12_as 53 = .ok (.iconst (-1), 1) := by decide +kernel
theorem dX12_as_54 : decode cX12_as 54 = .ok (.ireturn, 1) := by decide +kernel
theorem dX12_memberNow_0 : decode cX12_memberNow 0 = .ok (.iload_n 2, 1) := by decide +kernel
theorem dX12_memberNow_1 : decode cX12_memberNow 1 = .ok (.ifCond .ne 12, 3) := by decide +kernel
theorem dX12_memberNow_4 : decode cX12_memberNow 4 = .ok (.aload_n 0, 1) := by decide +kernel
theorem dX12_memberNow_5 : decode cX12_memberNow 5 = .ok (.getfield 7, 3) := by decide +kernel
theorem dX12_memberNow_8 : decode cX12_memberNow 8 = .ok (.iload_n 1, 1) := by decide +kernel
theorem dX12_memberNow_9 : decode cX12_memberNow 9 = .ok (.iaload, 1) := by decide +kernel
theorem dX12_memberNow_10 : decode cX12_memberNow 10 = .ok (.goto 23, 3) := by decide +kernel
theorem dX12_memberNow_13 : decode cX12_memberNow 13 = .ok (.iload_n 2, 1) := by decide +kernel
theorem dX12_memberNow_14 : decode cX12_memberNow 14 = .ok (.iconst 1, 1) := by decide +kernel
theorem dX12_memberNow_15 : decode cX12_memberNow 15 = .ok (.if_icmp .ne 12, 3) := by decide +kernel
theorem dX12_memberNow_18 : decode cX12_memberNow 18 = .ok (.aload_n 0, 1) := by decide +kernel
theorem dX12_memberNow_19 : decode cX12_memberNow 19 = .ok (.getfield 13, 3) := by decide +kernel
theorem dX12_memberNow_22 : decode cX12_memberNow 22 = .ok (.iload_n 1, 1) := by decide +kernel
theorem dX12_memberNow_23 : decode cX12_memberNow 23 = .ok (.iaload, 1) := by decide +kernel
theorem dX12_memberNow_24 : decode cX12_memberNow 24 = .ok (.goto 9, 3) := by decide +kernel
theorem dX12_memberNow_27 : decode cX12_memberNow 27 = .ok (.aload_n 0, 1) := by decide +kernel
theorem dX12_memberNow_28 : decode cX12_memberNow 28 = .ok (.getfield 16, 3) := by decide +kernel
theorem dX12_memberNow_31 : decode cX12_memberNow 31 = .ok (.iload_n 1, 1) := by decide +kernel
theorem dX12_memberNow_32 : decode cX12_memberNow 32 = .ok (.iaload, 1) := by decide +kernel
theorem dX12_memberNow_33 : decode cX12_memberNow 33 = .ok (.ireturn, 1) := by decide +kernel
theorem dX12_about_0 : decode cX12_about 0 = .ok (.aload_n 0, 1) := by decide +kernel
theorem dX12_about_1 : decode cX12_about 1 = .ok (.iload_n 1, 1) := by decide +kernel
theorem dX12_about_2 : decode cX12_about 2 = .ok (.invokevirtual 125, 3) := by decide +kernel
theorem dX12_about_5 : decode cX12_about 5 = .ok (.ifCond .ne 8, 3) := by decide +kernel
theorem dX12_about_8 : decode cX12_about 8 = .ok (.bipush (-101), 2) := by decide +kernel
theorem dX12_about_10 : decode cX12_about 10 = .ok (.goto 23, 3) := by decide +kernel
theorem dX12_about_13 : decode cX12_about 13 = .ok (.iload_n 2, 1) := by decide +kernel
theorem dX12_about_14 : decode cX12_about 14 = .ok (.iconst 0, 1) := by decide +kernel
theorem dX12_about_15 : decode cX12_about 15 = .ok (.iconst 2, 1) := by decide +kernel
theorem dX12_about_16 : decode cX12_about 16 = .ok (.invokestatic 61, 3) := by decide +kernel
theorem dX12_about_19 : decode cX12_about 19 = .ok (.ifCond .eq 12, 3) := by decide +kernel
theorem dX12_about_22 : decode cX12_about 22 = .ok (.aload_n 0, 1) := by decide +kernel
theorem dX12_about_23 : decode cX12_about 23 = .ok (.iload_n 1, 1) := by decide +kernel
theorem dX12_about_24 : decode cX12_about 24 = .ok (.iload_n 2, 1) := by decide +kernel
theorem dX12_about_25 : decode cX12_about 25 = .ok (.invokevirtual 128, 3) := by decide +kernel
theorem dX12_about_28 : decode cX12_about 28 = .ok (.goto 5, 3) := by decide +kernel
theorem dX12_about_31 : decode cX12_about 31 = .ok (.bipush (-102), 2) := by decide +kernel
theorem dX12_about_33 : decode cX12_about 33 = .ok (.ireturn, 1) := by decide +kernel
theorem dX12_comes_0 : decode cX12_comes 0 = .ok (.aload_n 0, 1) := by decide +kernel
theorem dX12_comes_1 : decode cX12_comes 1 = .ok (.iload_n 1, 1) := by decide +kernel
theorem dX12_comes_2 : decode cX12_comes 2 = .ok (.invokevirtual 125, 3) := by decide +kernel
theorem dX12_comes_5 : decode cX12_comes 5 = .ok (.ifCond .ne 6, 3) := by decide +kernel
theorem dX12_comes_8 : decode cX12_comes 8 = .ok (.bipush (-101), 2) := by decide +kernel
theorem dX12_comes_10 : decode cX12_comes 10 = .ok (.ireturn, 1) := by decide +kernel
theorem dX12_comes_11 : decode cX12_comes 11 = .ok (.iload_n 2, 1) := by decide +kernel
theorem dX12_comes_12 : decode cX12_comes 12 = .ok (.iconst 0, 1) := by decide +kernel
theorem dX12_comes_13 : decode cX12_comes 13 = .ok (.bipush 10, 2) := by decide +kernel
theorem dX12_comes_15 : decode cX12_comes 15 = .ok (.invokestatic 61, 3) := by decide +kernel
theorem dX12_comes_18 : decode cX12_comes 18 = .ok (.ifCond .ne 6, 3) := by decide +kernel
theorem dX12_comes_21 : decode cX12_comes 21 = .ok (.bipush (-102), 2) := by decide +kernel
theorem dX12_comes_23 : decode cX12_comes 23 = .ok (.ireturn, 1) := by decide +kernel
theorem dX12_comes_24 : decode cX12_comes 24 = .ok (.aload_n 0, 1) := by decide +kernel
theorem dX12_comes_25 : decode cX12_comes 25 = .ok (.getfield 16, 3) := by decide +kernel
theorem dX12_comes_28 : decode cX12_comes 28 = .ok (.iload_n 1, 1) := by decide +kernel
theorem dX12_comes_29 : decode cX12_comes 29 = .ok (.iaload, 1) := by decide +kernel
theorem dX12_comes_30 : decode cX12_comes 30 = .ok (.istore_n 3, 1) := by decide +kernel
theorem dX12_comes_31 : decode cX12_comes 31 = .ok (.aload_n 0, 1) := by decide +kernel
theorem dX12_comes_32 : decode cX12_comes 32 = .ok (.getfield 16, 3) := by decide +kernel
theorem dX12_comes_35 : decode cX12_comes 35 = .ok (.iload_n 1, 1) := by decide +kernel
theorem dX12_comes_36 : decode cX12_comes 36 = .ok (.iload_n 2, 1) := by decide +kernel
theorem dX12_comes_37 : decode cX12_comes 37 = .ok (.iastore, 1) := by decide +kernel
theorem dX12_comes_38 : decode cX12_comes 38 = .ok (.iload_n 3, 1) := by decide +kernel
theorem dX12_comes_39 : decode cX12_comes 39 = .ok (.ireturn, 1) := by decide +kernel
theorem dX12_candidate_0 : decode cX12_candidate 0 = .ok (.aload_n 0, 1) := by decide +kernel
theorem dX12_candidate_1 : decode cX12_candidate 1 = .ok (.iload_n 1, 1) := by decide +kernel
theorem dX12_candidate_2 : decode cX12_candidate 2 = .ok (.invokevirtual 125, 3) := by decide +kernel
theorem dX12_candidate_5 : decode cX12_candidate 5 = .ok (.ifCond .ne 6, 3) := by decide +kernel
theorem dX12_candidate_8 : decode cX12_candidate 8 = .ok (.bipush (-101), 2) := by decide +kernel
theorem dX12_candidate_10 : decode cX12_candidate 10 = .ok (.ireturn, 1) := by decide +kernel
theorem dX12_candidate_11 : decode cX12_candidate 11 = .ok (.aload_n 0, 1) := by decide +kernel
theorem dX12_candidate_12 : decode cX12_candidate 12 = .ok (.getfield 122, 3) := by decide +kernel
theorem dX12_candidate_15 : decode cX12_candidate 15 = .ok (.bipush 6, 2) := by decide +kernel
theorem dX12_candidate_17 : decode cX12_candidate 17 = .ok (.if_icmp .ne 6, 3) := by decide +kernel
theorem dX12_candidate_20 : decode cX12_candidate 20 = .ok (.bipush (-104), 2) := by decide +kernel
theorem dX12_candidate_22 : decode cX12_candidate 22 = .ok (.ireturn, 1) := by decide +kernel
theorem dX12_candidate_23 : decode cX12_candidate 23 = .ok (.aload_n 0, 1) := by decide +kernel
theorem dX12_candidate_24 : decode cX12_candidate 24 = .ok (.getfield 19, 3) := by decide +kernel
theorem dX12_candidate_27 : decode cX12_candidate 27 = .ok (.aload_n 0, 1) := by decide +kernel
theorem dX12_candidate_28 : decode cX12_candidate 28 = .ok (.getfield 122, 3) := by decide +kernel
theorem dX12_candidate_31 : decode cX12_candidate 31 = .ok (.iload_n 1, 1) := by decide +kernel
theorem dX12_candidate_32 : decode cX12_candidate 32 = .ok (.iastore, 1) := by decide +kernel
theorem dX12_candidate_33 : decode cX12_candidate 33 = .ok (.aload_n 0, 1) := by decide +kernel
theorem dX12_candidate_34 : decode cX12_candidate 34 = .ok (.dup, 1) := by decide +kernel
theorem dX12_candidate_35 : decode cX12_candidate 35 = .ok (.getfield 122, 3) := by decide +kernel
theorem dX12_candidate_38 : decode cX12_candidate 38 = .ok (.iconst 1, 1) := by decide +kernel
theorem dX12_candidate_39 : decode cX12_candidate 39 = .ok (.iadd, 1) := by decide +kernel
theorem dX12_candidate_40 : decode cX12_candidate 40 = .ok (.putfield 122, 3) := by decide +kernel
theorem dX12_candidate_43 : decode cX12_candidate 43 = .ok (.aload_n 0, 1) := by decide +kernel
theorem dX12_candidate_44 : decode cX12_candidate 44 = .ok (.getfield 122, 3) := by decide +kernel
theorem dX12_candidate_47 : decode cX12_candidate 47 = .ok (.iconst 1, 1) := by decide +kernel
theorem dX12_candidate_48 : decode cX12_candidate 48 = .ok (.isub, 1) := by decide +kernel
theorem dX12_candidate_49 : decode cX12_candidate 49 = .ok (.ireturn, 1) := by decide +kernel
theorem dX12_minds_0 : decode cX12_minds 0 = .ok (.aload_n 0, 1) := by decide +kernel
theorem dX12_minds_1 : decode cX12_minds 1 = .ok (.iload_n 1, 1) := by decide +kernel
theorem dX12_minds_2 : decode cX12_minds 2 = .ok (.invokevirtual 125, 3) := by decide +kernel
theorem dX12_minds_5 : decode cX12_minds 5 = .ok (.ifCond .eq 11, 3) := by decide +kernel
theorem dX12_minds_8 : decode cX12_minds 8 = .ok (.aload_n 0, 1) := by decide +kernel
theorem dX12_minds_9 : decode cX12_minds 9 = .ok (.iload_n 2, 1) := by decide +kernel
theorem dX12_minds_10 : decode cX12_minds 10 = .ok (.invokevirtual 131, 3) := by decide +kernel
theorem dX12_minds_13 : decode cX12_minds 13 = .ok (.ifCond .ne 6, 3) := by decide +kernel
theorem dX12_minds_16 : decode cX12_minds 16 = .ok (.bipush (-101), 2) := by decide +kernel
theorem dX12_minds_18 : decode cX12_minds 18 = .ok (.ireturn, 1) := by decide +kernel
theorem dX12_minds_19 : decode cX12_minds 19 = .ok (.iload_n 3, 1) := by decide +kernel
theorem dX12_minds_20 : decode cX12_minds 20 = .ok (.iconst (-1), 1) := by decide +kernel
theorem dX12_minds_21 : decode cX12_minds 21 = .ok (.bipush 10, 2) := by decide +kernel
theorem dX12_minds_23 : decode cX12_minds 23 = .ok (.invokestatic 61, 3) := by decide +kernel
theorem dX12_minds_26 : decode cX12_minds 26 = .ok (.ifCond .ne 6, 3) := by decide +kernel
theorem dX12_minds_29 : decode cX12_minds 29 = .ok (.bipush (-102), 2) := by decide +kernel
theorem dX12_minds_31 : decode cX12_minds 31 = .ok (.ireturn, 1) := by decide +kernel
theorem dX12_minds_32 : decode cX12_minds 32 = .ok (.aload_n 0, 1) := by decide +kernel
theorem dX12_minds_33 : decode cX12_minds 33 = .ok (.getfield 22, 3) := by decide +kernel
theorem dX12_minds_36 : decode cX12_minds 36 = .ok (.bipush 6, 2) := by decide +kernel
theorem dX12_minds_38 : decode cX12_minds 38 = .ok (.iload_n 1, 1) := by decide +kernel
theorem dX12_minds_39 : decode cX12_minds 39 = .ok (.imul, 1) := by decide +kernel
theorem dX12_minds_40 : decode cX12_minds 40 = .ok (.iload_n 2, 1) := by decide +kernel
theorem dX12_minds_41 : decode cX12_minds 41 = .ok (.iadd, 1) := by decide +kernel
theorem dX12_minds_42 : decode cX12_minds 42 = .ok (.iaload, 1) := by decide +kernel
theorem dX12_minds_43 : decode cX12_minds 43 = .ok (.istore 4, 2) := by decide +kernel
theorem dX12_minds_45 : decode cX12_minds 45 = .ok (.aload_n 0, 1) := by decide +kernel
theorem dX12_minds_46 : decode cX12_minds 46 = .ok (.getfield 22, 3) := by decide +kernel
theorem dX12_minds_49 : decode cX12_minds 49 = .ok (.bipush 6, 2) := by decide +kernel
theorem dX12_minds_51 : decode cX12_minds 51 = .ok (.iload_n 1, 1) := by decide +kernel
theorem dX12_minds_52 : decode cX12_minds 52 = .ok (.imul, 1) := by decide +kernel
theorem dX12_minds_53 : decode cX12_minds 53 = .ok (.iload_n 2, 1) := by decide +kernel
theorem dX12_minds_54 : decode cX12_minds 54 = .ok (.iadd, 1) := by decide +kernel
theorem dX12_minds_55 : decode cX12_minds 55 = .ok (.iload_n 3, 1) := by decide +kernel
theorem dX12_minds_56 : decode cX12_minds 56 = .ok (.iconst (-1), 1) := by decide +kernel
theorem dX12_minds_57 : decode cX12_minds 57 = .ok (.if_icmp .ne 8, 3) := by decide +kernel
theorem dX12_minds_60 : decode cX12_minds 60 = .ok (.iload 4, 2) := by decide +kernel
theorem dX12_minds_62 : decode cX12_minds 62 = .ok (.goto 4, 3) := by decide +kernel
theorem dX12_minds_65 : decode cX12_minds 65 = .ok (.iload_n 3, 1) := by decide +kernel
theorem dX12_minds_66 : decode cX12_minds 66 = .ok (.iastore, 1) := by decide +kernel
theorem dX12_minds_67 : decode cX12_minds 67 = .ok (.iload 4, 2) := by decide +kernel
theorem dX12_minds_69 : decode cX12_minds 69 = .ok (.ireturn, 1) := by decide +kernel
theorem dX12_mindedBy_0 : decode cX12_mindedBy 0 = .ok (.iconst 0, 1) := by decide +kernel
theorem dX12_mindedBy_1 : decode cX12_mindedBy 1 = .ok (.istore_n 2, 1) := by decide +kernel
theorem dX12_mindedBy_2 : decode cX12_mindedBy 2 = .ok (.iconst 0, 1) := by decide +kernel
theorem dX12_mindedBy_3 : decode cX12_mindedBy 3 = .ok (.istore_n 3, 1) := by decide +kernel
theorem dX12_mindedBy_4 : decode cX12_mindedBy 4 = .ok (.iload_n 3, 1) := by decide +kernel
theorem dX12_mindedBy_5 : decode cX12_mindedBy 5 = .ok (.aload_n 0, 1) := by decide +kernel
theorem dX12_mindedBy_6 : decode cX12_mindedBy 6 = .ok (.getfield 119, 3) := by decide +kernel
theorem dX12_mindedBy_9 : decode cX12_mindedBy 9 = .ok (.if_icmp .ge 32, 3) := by decide +kernel
theorem dX12_mindedBy_12 : decode cX12_mindedBy 12 = .ok (.iload_n 2, 1) := by decide +kernel
theorem dX12_mindedBy_13 : decode cX12_mindedBy 13 = .ok (.aload_n 0, 1) := by decide +kernel
theorem dX12_mindedBy_14 : decode cX12_mindedBy 14 = .ok (.getfield 22, 3) := by decide +kernel
theorem dX12_mindedBy_17 : decode cX12_mindedBy 17 = .ok (.bipush 6, 2) := by decide +kernel
theorem dX12_mindedBy_19 : decode cX12_mindedBy 19 = .ok (.iload_n 3, 1) := by decide +kernel
theorem dX12_mindedBy_20 : decode cX12_mindedBy 20 = .ok (.imul, 1) := by decide +kernel
theorem dX12_mindedBy_21 : decode cX12_mindedBy 21 = .ok (.iload_n 1, 1) := by decide +kernel
theorem dX12_mindedBy_22 : decode cX12_mindedBy 22 = .ok (.iadd, 1) := by decide +kernel
theorem dX12_mindedBy_23 : decode cX12_mindedBy 23 = .ok (.iaload, 1) := by decide +kernel
theorem dX12_mindedBy_24 : decode cX12_mindedBy 24 = .ok (.iconst 5, 1) := by decide +kernel
theorem dX12_mindedBy_25 : decode cX12_mindedBy 25 = .ok (.if_icmp .lt 7, 3) := by decide +kernel
theorem dX12_mindedBy_28 : decode cX12_mindedBy 28 = .ok (.iconst 1, 1) := by decide +kernel
theorem dX12_mindedBy_29 : decode cX12_mindedBy 29 = .ok (.goto 4, 3) := by decide +kernel
theorem dX12_mindedBy_32 : decode cX12_mindedBy 32 = .ok (.iconst 0, 1) := by decide +kernel
theorem dX12_mindedBy_33 : decode cX12_mindedBy 33 = .ok (.iadd, 1) := by decide +kernel
theorem dX12_mindedBy_34 : decode cX12_mindedBy 34 = .ok (.istore_n 2, 1) := by decide +kernel
theorem dX12_mindedBy_35 : decode cX12_mindedBy 35 = .ok (.iinc 3 1, 3) := by decide +kernel
theorem dX12_mindedBy_38 : decode cX12_mindedBy 38 = .ok (.goto (-34), 3) := by decide +kernel
theorem dX12_mindedBy_41 : decode cX12_mindedBy 41 = .ok (.iload_n 2, 1) := by decide +kernel
theorem dX12_mindedBy_42 : decode cX12_mindedBy 42 = .ok (.ireturn, 1) := by decide +kernel
theorem dX12_isMinded_0 : decode cX12_isMinded 0 = .ok (.aload_n 0, 1) := by decide +kernel
theorem dX12_isMinded_1 : decode cX12_isMinded 1 = .ok (.iload_n 1, 1) := by decide +kernel
theorem dX12_isMinded_2 : decode cX12_isMinded 2 = .ok (.invokevirtual 134, 3) := by decide +kernel
theorem dX12_isMinded_5 : decode cX12_isMinded 5 = .ok (.iconst 1, 1) := by decide +kernel
theorem dX12_isMinded_6 : decode cX12_isMinded 6 = .ok (.if_icmp .le 7, 3) := by decide +kernel
theorem dX12_isMinded_9 : decode cX12_isMinded 9 = .ok (.iconst 1, 1) := by decide +kernel
theorem dX12_isMinded_10 : decode cX12_isMinded 10 = .ok (.goto 4, 3) := by decide +kernel
theorem dX12_isMinded_13 : decode cX12_isMinded 13 = .ok (.iconst 0, 1) := by decide +kernel
theorem dX12_isMinded_14 : decode cX12_isMinded 14 = .ok (.ireturn, 1) := by decide +kernel
theorem dX12_candidateNow_0 : decode cX12_candidateNow 0 = .ok (.iload_n 2, 1) := by decide +kernel
theorem dX12_candidateNow_1 : decode cX12_candidateNow 1 = .ok (.ifCond .ne 12, 3) := by decide +kernel
theorem dX12_candidateNow_4 : decode cX12_candidateNow 4 = .ok (.aload_n 0, 1) := by decide +kernel
theorem dX12_candidateNow_5 : decode cX12_candidateNow 5 = .ok (.getfield 19, 3) := by decide +kernel
theorem dX12_candidateNow_8 : decode cX12_candidateNow 8 = .ok (.iload_n 1, 1) := by decide +kernel
theorem dX12_candidateNow_9 : decode cX12_candidateNow 9 = .ok (.iaload, 1) := by decide +kernel
theorem dX12_candidateNow_10 : decode cX12_candidateNow 10 = .ok (.goto 29, 3) := by decide +kernel
theorem dX12_candidateNow_13 : decode cX12_candidateNow 13 = .ok (.iload_n 2, 1) := by decide +kernel
theorem dX12_candidateNow_14 : decode cX12_candidateNow 14 = .ok (.iconst 1, 1) := by decide +kernel
theorem dX12_candidateNow_15 : decode cX12_candidateNow 15 = .ok (.if_icmp .ne 19, 3) := by decide +kernel
theorem dX12_candidateNow_18 : decode cX12_candidateNow 18 = .ok (.aload_n 0, 1) := by decide +kernel
theorem dX12_candidateNow_19 : decode cX12_candidateNow 19 = .ok (.iload_n 1, 1) := by decide +kernel
theorem dX12_candidateNow_20 : decode cX12_candidateNow 20 = .ok (.invokevirtual 137, 3) := by decide +kernel
theorem dX12_candidateNow_23 : decode cX12_candidateNow 23 = .ok (.ifCond .eq 7, 3) := by decide +kernel
theorem dX12_candidateNow_26 : decode cX12_candidateNow 26 = .ok (.iconst 1, 1) := by decide +kernel
theorem dX12_candidateNow_27 : decode cX12_candidateNow 27 = .ok (.goto 12, 3) := by decide +kernel
theorem dX12_candidateNow_30 : decode cX12_candidateNow 30 = .ok (.iconst 0, 1) := by decide +kernel
theorem dX12_candidateNow_31 : decode cX12_candidateNow 31 = .ok (.goto 8, 3) := by decide +kernel
theorem dX12_candidateNow_34 : decode cX12_candidateNow 34 = .ok (.aload_n 0, 1) := by decide +kernel
theorem dX12_candidateNow_35 : decode cX12_candidateNow 35 = .ok (.iload_n 1, 1) := by decide +kernel
theorem dX12_candidateNow_36 : decode cX12_candidateNow 36 = .ok (.invokevirtual 134, 3) := by decide +kernel
theorem dX12_candidateNow_39 : decode cX12_candidateNow 39 = .ok (.ireturn, 1) := by decide +kernel
theorem dX12_friend_0 : decode cX12_friend 0 = .ok (.aload_n 0, 1) := by decide +kernel
theorem dX12_friend_1 : decode cX12_friend 1 = .ok (.iload_n 1, 1) := by decide +kernel
theorem dX12_friend_2 : decode cX12_friend 2 = .ok (.invokevirtual 131, 3) := by decide +kernel
theorem dX12_friend_5 : decode cX12_friend 5 = .ok (.ifCond .ne 8, 3) := by decide +kernel
theorem dX12_friend_8 : decode cX12_friend 8 = .ok (.bipush (-101), 2) := by decide +kernel
theorem dX12_friend_10 : decode cX12_friend 10 = .ok (.goto 23, 3) := by decide +kernel
theorem dX12_friend_13 : decode cX12_friend 13 = .ok (.iload_n 2, 1) := by decide +kernel
theorem dX12_friend_14 : decode cX12_friend 14 = .ok (.iconst 0, 1) := by decide +kernel
theorem dX12_friend_15 : decode cX12_friend 15 = .ok (.iconst 2, 1) := by decide +kernel
theorem dX12_friend_16 : decode cX12_friend 16 = .ok (.invokestatic 61, 3) := by decide +kernel
theorem dX12_friend_19 : decode cX12_friend 19 = .ok (.ifCond .eq 12, 3) := by decide +kernel
theorem dX12_friend_22 : decode cX12_friend 22 = .ok (.aload_n 0, 1) := by decide +kernel
theorem dX12_friend_23 : decode cX12_friend 23 = .ok (.iload_n 1, 1) := by decide +kernel
theorem dX12_friend_24 : decode cX12_friend 24 = .ok (.iload_n 2, 1) := by decide +kernel
theorem dX12_friend_25 : decode cX12_friend 25 = .ok (.invokevirtual 140, 3) := by decide +kernel
theorem dX12_friend_28 : decode cX12_friend 28 = .ok (.goto 5, 3) := by decide +kernel
theorem dX12_friend_31 : decode cX12_friend 31 = .ok (.bipush (-102), 2) := by decide +kernel
theorem dX12_friend_33 : decode cX12_friend 33 = .ok (.ireturn, 1) := by decide +kernel
theorem dX12_areComers_0 : decode cX12_areComers 0 = .ok (.iload_n 1, 1) := by decide +kernel
theorem dX12_areComers_1 : decode cX12_areComers 1 = .ok (.iconst 1, 1) := by decide +kernel
theorem dX12_areComers_2 : decode cX12_areComers 2 = .ok (.iconst 1, 1) := by decide +kernel
theorem dX12_areComers_3 : decode cX12_areComers 3 = .ok (.aload_n 0, 1) := by decide +kernel
theorem dX12_areComers_4 : decode cX12_areComers 4 = .ok (.getfield 119, 3) := by decide +kernel
theorem dX12_areComers_7 : decode cX12_areComers 7 = .ok (.ishl, 1) := by decide +kernel
theorem dX12_areComers_8 : decode cX12_areComers 8 = .ok (.iconst 1, 1) := by decide +kernel
theorem dX12_areComers_9 : decode cX12_areComers 9 = .ok (.isub, 1) := by decide +kernel
theorem dX12_areComers_10 : decode cX12_areComers 10 = .ok (.invokestatic 61, 3) := by decide +kernel
theorem dX12_areComers_13 : decode cX12_areComers 13 = .ok (.ireturn, 1) := by decide +kernel
theorem dX12_blackBy_0 : decode cX12_blackBy 0 = .ok (.aload_n 0, 1) := by decide +kernel
theorem dX12_blackBy_1 : decode cX12_blackBy 1 = .ok (.getfield 22, 3) := by decide +kernel
theorem dX12_blackBy_4 : decode cX12_blackBy 4 = .ok (.bipush 6, 2) := by decide +kernel
theorem dX12_blackBy_6 : decode cX12_blackBy 6 = .ok (.iload 4, 2) := by decide +kernel
theorem dX12_blackBy_8 : decode cX12_blackBy 8 = .ok (.imul, 1) := by decide +kernel
theorem dX12_blackBy_9 : decode cX12_blackBy 9 = .ok (.iload_n 2, 1) := by decide +kernel
theorem dX12_blackBy_10 : decode cX12_blackBy 10 = .ok (.iadd, 1) := by decide +kernel
theorem dX12_blackBy_11 : decode cX12_blackBy 11 = .ok (.iaload, 1) := by decide +kernel
theorem dX12_blackBy_12 : decode cX12_blackBy 12 = .ok (.istore 5, 2) := by decide +kernel
theorem dX12_blackBy_14 : decode cX12_blackBy 14 = .ok (.aload_n 0, 1) := by decide +kernel
theorem dX12_blackBy_15 : decode cX12_blackBy 15 = .ok (.getfield 19, 3) := by decide +kernel
theorem dX12_blackBy_18 : decode cX12_blackBy 18 = .ok (.iload_n 2, 1) := by decide +kernel
theorem dX12_blackBy_19 : decode cX12_blackBy 19 = .ok (.iaload, 1) := by decide +kernel
theorem dX12_blackBy_20 : decode cX12_blackBy 20 = .ok (.iload 4, 2) := by decide +kernel
theorem dX12_blackBy_22 : decode cX12_blackBy 22 = .ok (.if_icmp .ne 5, 3) := by decide +kernel
theorem dX12_blackBy_25 : decode cX12_blackBy 25 = .ok (.iconst 0, 1) := by decide +kernel
theorem dX12_blackBy_26 : decode cX12_blackBy 26 = .ok (.ireturn, 1) := by decide +kernel
theorem dX12_blackBy_27 : decode cX12_blackBy 27 = .ok (.aload_n 0, 1) := by decide +kernel
theorem dX12_blackBy_28 : decode cX12_blackBy 28 = .ok (.getfield 7, 3) := by decide +kernel
theorem dX12_blackBy_31 : decode cX12_blackBy 31 = .ok (.iload 4, 2) := by decide +kernel
theorem dX12_blackBy_33 : decode cX12_blackBy 33 = .ok (.iaload, 1) := by decide +kernel
theorem dX12_blackBy_34 : decode cX12_blackBy 34 = .ok (.tableswitch 132 1 4 #[30, 54, 85, 109], 30) := by decide +kernel
theorem dX12_blackBy_64 : decode cX12_blackBy 64 = .ok (.aload_n 0, 1) := by decide +kernel
theorem dX12_blackBy_65 : decode cX12_blackBy 65 = .ok (.getfield 38, 3) := by decide +kernel
theorem dX12_blackBy_68 : decode cX12_blackBy 68 = .ok (.iload_n 1, 1) := by decide +kernel
theorem dX12_blackBy_69 : decode cX12_blackBy 69 = .ok (.baload, 1) := by decide +kernel
theorem dX12_blackBy_70 : decode cX12_blackBy 70 = .ok (.ifCond .ne 8, 3) := by decide +kernel
theorem dX12_blackBy_73 : decode cX12_blackBy 73 = .ok (.iload_n 3, 1) := by decide +kernel
theorem dX12_blackBy_74 : decode cX12_blackBy 74 = .ok (.iconst 4, 1) := by decide +kernel
theorem dX12_blackBy_75 : decode cX12_blackBy 75 = .ok (.if_icmp .ge 10, 3) := by decide +kernel
theorem dX12_blackBy_78 : decode cX12_blackBy 78 = .ok (.iload 5, 2) := by decide +kernel
theorem dX12_blackBy_80 : decode cX12_blackBy 80 = .ok (.iconst 2, 1) := by decide +kernel
theorem dX12_blackBy_81 : decode cX12_blackBy 81 = .ok (.idiv, 1) := by decide +kernel
theorem dX12_blackBy_82 : decode cX12_blackBy 82 = .ok (.goto 5, 3) := by decide +kernel
theorem dX12_blackBy_85 : decode cX12_blackBy 85 = .ok (.iload 5, 2) := by decide +kernel
theorem dX12_blackBy_87 : decode cX12_blackBy 87 = .ok (.ireturn, 1) := by decide +kernel
theorem dX12_blackBy_88 : decode cX12_blackBy 88 = .ok (.iload 5, 2) := by decide +kernel
theorem dX12_blackBy_90 : decode cX12_blackBy 90 = .ok (.bipush 10, 2) := by decide +kernel
theorem dX12_blackBy_92 : decode cX12_blackBy 92 = .ok (.aload_n 0, 1) := by decide +kernel
theorem dX12_blackBy_93 : decode cX12_blackBy 93 = .ok (.getfield 13, 3) := by decide +kernel
theorem dX12_blackBy_96 : decode cX12_blackBy 96 = .ok (.iload 4, 2) := by decide +kernel
theorem dX12_blackBy_98 : decode cX12_blackBy 98 = .ok (.iaload, 1) := by decide +kernel
theorem dX12_blackBy_99 : decode cX12_blackBy 99 = .ok (.isub, 1) := by decide +kernel
theorem dX12_blackBy_100 : decode cX12_blackBy 100 = .ok (.imul, 1) := by decide +kernel
theorem dX12_blackBy_101 : decode cX12_blackBy 101 = .ok (.aload_n 0, 1) := by decide +kernel
theorem dX12_blackBy_102 : decode cX12_blackBy 102 = .ok (.getfield 13, 3) := by decide +kernel
theorem dX12_blackBy_105 : decode cX12_blackBy 105 = .ok (.iload 4, 2) := by decide +kernel
theorem dX12_blackBy_107 : decode cX12_blackBy 107 = .ok (.iaload, 1) := by decide +kernel
theorem dX12_blackBy_108 : decode cX12_blackBy 108 = .ok (.bipush 10, 2) := by decide +kernel
theorem dX12_blackBy_110 : decode cX12_blackBy 110 = .ok (.iload 5, 2) := by decide +kernel
theorem dX12_blackBy_112 : decode cX12_blackBy 112 = .ok (.isub, 1) := by decide +kernel
theorem dX12_blackBy_113 : decode cX12_blackBy 113 = .ok (.imul, 1) := by decide +kernel
theorem dX12_blackBy_114 : decode cX12_blackBy 114 = .ok (.iadd, 1) := by decide +kernel
theorem dX12_blackBy_115 : decode cX12_blackBy 115 = .ok (.bipush 10, 2) := by decide +kernel
theorem dX12_blackBy_117 : decode cX12_blackBy 117 = .ok (.idiv, 1) := by decide +kernel
theorem dX12_blackBy_118 : decode cX12_blackBy 118 = .ok (.ireturn, 1) := by decide +kernel
theorem dX12_blackBy_119 : decode cX12_blackBy 119 = .ok (.aload_n 0, 1) := by decide +kernel
theorem dX12_blackBy_120 : decode cX12_blackBy 120 = .ok (.getfield 19, 3) := by decide +kernel
theorem dX12_blackBy_123 : decode cX12_blackBy 123 = .ok (.iload_n 2, 1) := by decide +kernel
theorem dX12_blackBy_124 : decode cX12_blackBy 124 = .ok (.iaload, 1) := by decide +kernel
theorem dX12_blackBy_125 : decode cX12_blackBy 125 = .ok (.aload_n 0, 1) := by decide +kernel
theorem dX12_blackBy_126 : decode cX12_blackBy 126 = .ok (.getfield 13, 3) := by decide +kernel
theorem dX12_blackBy_129 : decode cX12_blackBy 129 = .ok (.iload 4, 2) := by decide +kernel
theorem dX12_blackBy_131 : decode cX12_blackBy 131 = .ok (.iaload, 1) := by decide +kernel
theorem dX12_blackBy_132 : decode cX12_blackBy 132 = .ok (.if_icmp .ne 8, 3) := by decide +kernel
theorem dX12_blackBy_135 : decode cX12_blackBy 135 = .ok (.bipush 10, 2) := by decide +kernel
theorem dX12_blackBy_137 : decode cX12_blackBy 137 = .ok (.goto 5, 3) := by decide +kernel
theorem dX12_blackBy_140 : decode cX12_blackBy 140 = .ok (.iload 5, 2) := by decide +kernel
theorem dX12_blackBy_142 : decode cX12_blackBy 142 = .ok (.ireturn, 1) := by decide +kernel
theorem dX12_blackBy_143 : decode cX12_blackBy 143 = .ok (.aload_n 0, 1) := by decide +kernel
theorem dX12_blackBy_144 : decode cX12_blackBy 144 = .ok (.getfield 19, 3) := by decide +kernel
theorem dX12_blackBy_147 : decode cX12_blackBy 147 = .ok (.iload_n 2, 1) := by decide +kernel
theorem dX12_blackBy_148 : decode cX12_blackBy 148 = .ok (.iaload, 1) := by decide +kernel
theorem dX12_blackBy_149 : decode cX12_blackBy 149 = .ok (.aload_n 0, 1) := by decide +kernel
theorem dX12_blackBy_150 : decode cX12_blackBy 150 = .ok (.getfield 13, 3) := by decide +kernel
theorem dX12_blackBy_153 : decode cX12_blackBy 153 = .ok (.iload 4, 2) := by decide +kernel
theorem dX12_blackBy_155 : decode cX12_blackBy 155 = .ok (.iaload, 1) := by decide +kernel
theorem dX12_blackBy_156 : decode cX12_blackBy 156 = .ok (.if_icmp .ne 7, 3) := by decide +kernel
theorem dX12_blackBy_159 : decode cX12_blackBy 159 = .ok (.iconst 0, 1) := by decide +kernel
theorem dX12_blackBy_160 : decode cX12_blackBy 160 = .ok (.goto 5, 3) := by decide +kernel
theorem dX12_blackBy_163 : decode cX12_blackBy 163 = .ok (.iload 5, 2) := by decide +kernel
theorem dX12_blackBy_165 : decode cX12_blackBy 165 = .ok (.ireturn, 1) := by decide +kernel
theorem dX12_blackBy_166 : decode cX12_blackBy 166 = .ok (.iload 5, 2) := by decide +kernel
theorem dX12_blackBy_168 : decode cX12_blackBy 168 = .ok (.ireturn, 1) := by decide +kernel
theorem dX12_black_0 : decode cX12_black 0 = .ok (.aload_n 0, 1) := by decide +kernel
theorem dX12_black_1 : decode cX12_black 1 = .ok (.iload_n 1, 1) := by decide +kernel
theorem dX12_black_2 : decode cX12_black 2 = .ok (.invokevirtual 113, 3) := by decide +kernel
theorem dX12_black_5 : decode cX12_black 5 = .ok (.ifCond .eq 20, 3) := by decide +kernel
theorem dX12_black_8 : decode cX12_black 8 = .ok (.aload_n 0, 1) := by decide +kernel
theorem dX12_black_9 : decode cX12_black 9 = .ok (.iload_n 2, 1) := by decide +kernel
theorem dX12_black_10 : decode cX12_black 10 = .ok (.invokevirtual 131, 3) := by decide +kernel
theorem dX12_black_13 : decode cX12_black 13 = .ok (.ifCond .eq 12, 3) := by decide +kernel
theorem dX12_black_16 : decode cX12_black 16 = .ok (.aload_n 0, 1) := by decide +kernel
theorem dX12_black_17 : decode cX12_black 17 = .ok (.iload 4, 2) := by decide +kernel
theorem dX12_black_19 : decode cX12_black 19 = .ok (.invokevirtual 125, 3) := by decide +kernel
theorem dX12_black_22 : decode cX12_black 22 = .ok (.ifCond .ne 6, 3) := by decide +kernel
theorem dX12_black_25 : decode cX12_black 25 = .ok (.bipush (-101), 2) := by decide +kernel
theorem dX12_black_27 : decode cX12_black 27 = .ok (.ireturn, 1) := by decide +kernel
theorem dX12_black_28 : decode cX12_black 28 = .ok (.aload_n 0, 1) := by decide +kernel
theorem dX12_black_29 : decode cX12_black 29 = .ok (.iload_n 3, 1) := by decide +kernel
theorem dX12_black_30 : decode cX12_black 30 = .ok (.invokevirtual 143, 3) := by decide +kernel
theorem dX12_black_33 : decode cX12_black 33 = .ok (.ifCond .eq 27, 3) := by decide +kernel
theorem dX12_black_36 : decode cX12_black 36 = .ok (.iload_n 3, 1) := by decide +kernel
theorem dX12_black_37 : decode cX12_black 37 = .ok (.iload 4, 2) := by decide +kernel
theorem dX12_black_39 : decode cX12_black 39 = .ok (.invokestatic 146, 3) := by decide +kernel
theorem dX12_black_42 : decode cX12_black 42 = .ok (.ifCond .eq 18, 3) := by decide +kernel
theorem dX12_black_45 : decode cX12_black 45 = .ok (.aload_n 0, 1) := by decide +kernel
theorem dX12_black_46 : decode cX12_black 46 = .ok (.iload_n 1, 1) := by decide +kernel
theorem dX12_black_47 : decode cX12_black 47 = .ok (.iload_n 2, 1) := by decide +kernel
theorem dX12_black_48 : decode cX12_black 48 = .ok (.iload_n 3, 1) := by decide +kernel
theorem dX12_black_49 : decode cX12_black 49 = .ok (.invokestatic 150, 3) := by decide +kernel
theorem dX12_black_52 : decode cX12_black 52 = .ok (.iload 4, 2) := by decide +kernel
theorem dX12_black_54 : decode cX12_black 54 = .ok (.invokevirtual 153, 3) := by decide +kernel
theorem dX12_black_57 : decode cX12_black 57 = .ok (.goto 5, 3) := by decide +kernel
theorem dX12_black_60 : decode cX12_black 60 = .ok (.bipush (-102), 2) := by decide +kernel
theorem dX12_black_62 : decode cX12_black 62 = .ok (.ireturn, 1) := by decide +kernel
theorem dX12_layWays_0 : decode cX12_layWays 0 = .ok (.iconst 0, 1) := by decide +kernel
theorem dX12_layWays_1 : decode cX12_layWays 1 = .ok (.istore 6, 2) := by decide +kernel
theorem dX12_layWays_3 : decode cX12_layWays 3 = .ok (.iload 6, 2) := by decide +kernel
theorem dX12_layWays_5 : decode cX12_layWays 5 = .ok (.bipush 9, 2) := by decide +kernel
theorem dX12_layWays_7 : decode cX12_layWays 7 = .ok (.if_icmp .ge 26, 3) := by decide +kernel
theorem dX12_layWays_10 : decode cX12_layWays 10 = .ok (.aload_n 0, 1) := by decide +kernel
theorem dX12_layWays_11 : decode cX12_layWays 11 = .ok (.getfield 51, 3) := by decide +kernel
theorem dX12_layWays_14 : decode cX12_layWays 14 = .ok (.iload 6, 2) := by decide +kernel
theorem dX12_layWays_16 : decode cX12_layWays 16 = .ok (.iload 6, 2) := by decide +kernel
theorem dX12_layWays_18 : decode cX12_layWays 18 = .ok (.ifCond .ne 7, 3) := by decide +kernel
theorem dX12_layWays_21 : decode cX12_layWays 21 = .ok (.lconst 1, 1) := by decide +kernel
theorem dX12_layWays_22 : decode cX12_layWays 22 = .ok (.goto 4, 3) := by decide +kernel
theorem dX12_layWays_25 : decode cX12_layWays 25 = .ok (.lconst 0, 1) := by decide +kernel
theorem dX12_layWays_26 : decode cX12_layWays 26 = .ok (.lastore, 1) := by decide +kernel
theorem dX12_layWays_27 : decode cX12_layWays 27 = .ok (.iinc 6 1, 3) := by decide +kernel
theorem dX12_layWays_30 : decode cX12_layWays 30 = .ok (.goto (-27), 3) := by decide +kernel
theorem dX12_layWays_33 : decode cX12_layWays 33 = .ok (.iconst 0, 1) := by decide +kernel
theorem dX12_layWays_34 : decode cX12_layWays 34 = .ok (.istore 6, 2) := by decide +kernel
theorem dX12_layWays_36 : decode cX12_layWays 36 = .ok (.iload 6, 2) := by decide +kernel
theorem dX12_layWays_38 : decode cX12_layWays 38 = .ok (.aload_n 0, 1) := by decide +kernel
theorem dX12_layWays_39 : decode cX12_layWays 39 = .ok (.getfield 119, 3) := by decide +kernel
theorem dX12_layWays_42 : decode cX12_layWays 42 = .ok (.if_icmp .ge 96, 3) := by decide +kernel
theorem dX12_layWays_45 : decode cX12_layWays 45 = .ok (.iload_n 3, 1) := by decide +kernel
theorem dX12_layWays_46 : decode cX12_layWays 46 = .ok (.iload 6, 2) := by decide +kernel
theorem dX12_layWays_48 : decode cX12_layWays 48 = .ok (.invokestatic 146, 3) := by decide +kernel
theorem dX12_layWays_51 : decode cX12_layWays 51 = .ok (.ifCond .eq 81, 3) := by decide +kernel
theorem dX12_layWays_54 : decode cX12_layWays 54 = .ok (.iload 6, 2) := by decide +kernel
theorem dX12_layWays_56 : decode cX12_layWays 56 = .ok (.iload 5, 2) := by decide +kernel
theorem dX12_layWays_58 : decode cX12_layWays 58 = .ok (.if_icmp .eq 74, 3) := by decide +kernel
theorem dX12_layWays_61 : decode cX12_layWays 61 = .ok (.aload_n 0, 1) := by decide +kernel
theorem dX12_layWays_62 : decode cX12_layWays 62 = .ok (.iload_n 1, 1) := by decide +kernel
theorem dX12_layWays_63 : decode cX12_layWays 63 = .ok (.iload_n 2, 1) := by decide +kernel
theorem dX12_layWays_64 : decode cX12_layWays 64 = .ok (.iload 4, 2) := by decide +kernel
theorem dX12_layWays_66 : decode cX12_layWays 66 = .ok (.iload 6, 2) := by decide +kernel
theorem dX12_layWays_68 : decode cX12_layWays 68 = .ok (.invokevirtual 153, 3) := by decide +kernel
theorem dX12_layWays_71 : decode cX12_layWays 71 = .ok (.istore 7, 2) := by decide +kernel
theorem dX12_layWays_73 : decode cX12_layWays 73 = .ok (.bipush 8, 2) := by decide +kernel
theorem dX12_layWays_75 : decode cX12_layWays 75 = .ok (.istore 8, 2) := by decide +kernel
theorem dX12_layWays_77 : decode cX12_layWays 77 = .ok (.iload 8, 2) := by decide +kernel
theorem dX12_layWays_79 : decode cX12_layWays 79 = .ok (.ifCond .lt 53, 3) := by decide +kernel
theorem dX12_layWays_82 : decode cX12_layWays 82 = .ok (.aload_n 0, 1) := by decide +kernel
theorem dX12_layWays_83 : decode cX12_layWays 83 = .ok (.getfield 51, 3) := by decide +kernel
theorem dX12_layWays_86 : decode cX12_layWays 86 = .ok (.iload 8, 2) := by decide +kernel
theorem dX12_layWays_88 : decode cX12_layWays 88 = .ok (.aload_n 0, 1) := by decide +kernel
theorem dX12_layWays_89 : decode cX12_layWays 89 = .ok (.getfield 51, 3) := by decide +kernel
theorem dX12_layWays_92 : decode cX12_layWays 92 = .ok (.iload 8, 2) := by decide +kernel
theorem dX12_layWays_94 : decode cX12_layWays 94 = .ok (.laload, 1) := by decide +kernel
theorem dX12_layWays_95 : decode cX12_layWays 95 = .ok (.bipush 10, 2) := by decide +kernel
theorem dX12_layWays_97 : decode cX12_layWays 97 = .ok (.iload 7, 2) := by decide +kernel
theorem dX12_layWays_99 : decode cX12_layWays 99 = .ok (.isub, 1) := by decide +kernel
theorem dX12_layWays_100 : decode cX12_layWays 100 = .ok (.i2l, 1) := by decide +kernel
theorem dX12_layWays_101 : decode cX12_layWays 101 = .ok (.lmul, 1) := by decide +kernel
theorem dX12_layWays_102 : decode cX12_layWays 102 = .ok (.iload 8, 2) := by decide +kernel
theorem dX12_layWays_104 : decode cX12_layWays 104 = .ok (.ifCond .ne 7, 3) := by decide +kernel
theorem dX12_layWays_107 : decode cX12_layWays 107 = .ok (.lconst 0, 1) := by decide +kernel
theorem dX12_layWays_108 : decode cX12_layWays 108 = .ok (.goto 16, 3) := by decide +kernel
theorem dX12_layWays_111 : decode cX12_layWays 111 = .ok (.aload_n 0, 1) := by decide +kernel
theorem dX12_layWays_112 : decode cX12_layWays 112 = .ok (.getfield 51, 3) := by decide +kernel
theorem dX12_layWays_115 : decode cX12_layWays 115 = .ok (.iload 8, 2) := by decide +kernel
theorem dX12_layWays_117 : decode cX12_layWays 117 = .ok (.iconst 1, 1) := by decide +kernel
theorem dX12_layWays_118 : decode cX12_layWays 118 = .ok (.isub, 1) := by decide +kernel
theorem dX12_layWays_119 : decode cX12_layWays 119 = .ok (.laload, 1) := by decide +kernel
theorem dX12_layWays_120 : decode cX12_layWays 120 = .ok (.iload 7, 2) := by decide +kernel
theorem dX12_layWays_122 : decode cX12_layWays 122 = .ok (.i2l, 1) := by decide +kernel
theorem dX12_layWays_123 : decode cX12_layWays 123 = .ok (.lmul, 1) := by decide +kernel
theorem dX12_layWays_124 : decode cX12_layWays 124 = .ok (.ladd, 1) := by decide +kernel
theorem dX12_layWays_125 : decode cX12_layWays 125 = .ok (.lastore, 1) := by decide +kernel
theorem dX12_layWays_126 : decode cX12_layWays 126 = .ok (.iinc 8 (-1), 3) := by decide +kernel
theorem dX12_layWays_129 : decode cX12_layWays 129 = .ok (.goto (-52), 3) := by decide +kernel
theorem dX12_layWays_132 : decode cX12_layWays 132 = .ok (.iinc 6 1, 3) := by decide +kernel
theorem dX12_layWays_135 : decode cX12_layWays 135 = .ok (.goto (-99), 3) := by decide +kernel
theorem dX12_layWays_138 : decode cX12_layWays 138 = .ok (.return_, 1) := by decide +kernel
theorem dX12_shuts_0 : decode cX12_shuts 0 = .ok (.aload_n 0, 1) := by decide +kernel
theorem dX12_shuts_1 : decode cX12_shuts 1 = .ok (.getfield 25, 3) := by decide +kernel
theorem dX12_shuts_4 : decode cX12_shuts 4 = .ok (.iload_n 1, 1) := by decide +kernel
theorem dX12_shuts_5 : decode cX12_shuts 5 = .ok (.iaload, 1) := by decide +kernel
theorem dX12_shuts_6 : decode cX12_shuts 6 = .ok (.ifCond .le 21, 3) := by decide +kernel
theorem dX12_shuts_9 : decode cX12_shuts 9 = .ok (.iload_n 2, 1) := by decide +kernel
theorem dX12_shuts_10 : decode cX12_shuts 10 = .ok (.aload_n 0, 1) := by decide +kernel
theorem dX12_shuts_11 : decode cX12_shuts 11 = .ok (.getfield 25, 3) := by decide +kernel
theorem dX12_shuts_14 : decode cX12_shuts 14 = .ok (.iload_n 1, 1) := by decide +kernel
theorem dX12_shuts_15 : decode cX12_shuts 15 = .ok (.iaload, 1) := by decide +kernel
theorem dX12_shuts_16 : decode cX12_shuts 16 = .ok (.if_icmp .lt 7, 3) := by decide +kernel
theorem dX12_shuts_19 : decode cX12_shuts 19 = .ok (.iconst 1, 1) := by decide +kernel
theorem dX12_shuts_20 : decode cX12_shuts 20 = .ok (.goto 24, 3) := by decide +kernel
theorem dX12_shuts_23 : decode cX12_shuts 23 = .ok (.iconst 0, 1) := by decide +kernel
theorem dX12_shuts_24 : decode cX12_shuts 24 = .ok (.goto 20, 3) := by decide +kernel
theorem dX12_shuts_27 : decode cX12_shuts 27 = .ok (.aload_n 0, 1) := by decide +kernel
theorem dX12_shuts_28 : decode cX12_shuts 28 = .ok (.getfield 28, 3) := by decide +kernel
theorem dX12_shuts_31 : decode cX12_shuts 31 = .ok (.iload_n 1, 1) := by decide +kernel
theorem dX12_shuts_32 : decode cX12_shuts 32 = .ok (.iaload, 1) := by decide +kernel
theorem dX12_shuts_33 : decode cX12_shuts 33 = .ok (.iload_n 2, 1) := by decide +kernel
theorem dX12_shuts_34 : decode cX12_shuts 34 = .ok (.imul, 1) := by decide +kernel
theorem dX12_shuts_35 : decode cX12_shuts 35 = .ok (.iload_n 3, 1) := by decide +kernel
theorem dX12_shuts_36 : decode cX12_shuts 36 = .ok (.if_icmp .lt 7, 3) := by decide +kernel
theorem dX12_shuts_39 : decode cX12_shuts 39 = .ok (.iconst 1, 1) := by decide +kernel
theorem dX12_shuts_40 : decode cX12_shuts 40 = .ok (.goto 4, 3) := by decide +kernel
theorem dX12_shuts_43 : decode cX12_shuts 43 = .ok (.iconst 0, 1) := by decide +kernel
theorem dX12_shuts_44 : decode cX12_shuts 44 = .ok (.ireturn, 1) := by decide +kernel
theorem dX12_shutBy_0 : decode cX12_shutBy 0 = .ok (.aload_n 0, 1) := by decide +kernel
theorem dX12_shutBy_1 : decode cX12_shutBy 1 = .ok (.iload_n 1, 1) := by decide +kernel
theorem dX12_shutBy_2 : decode cX12_shutBy 2 = .ok (.iload_n 2, 1) := by decide +kernel
theorem dX12_shutBy_3 : decode cX12_shutBy 3 = .ok (.iload_n 3, 1) := by decide +kernel
theorem dX12_shutBy_4 : decode cX12_shutBy 4 = .ok (.iload 4, 2) := by decide +kernel
theorem dX12_shutBy_6 : decode cX12_shutBy 6 = .ok (.iconst (-1), 1) := by decide +kernel
theorem dX12_shutBy_7 : decode cX12_shutBy 7 = .ok (.invokevirtual 157, 3) := by decide +kernel
theorem dX12_shutBy_10 : decode cX12_shutBy 10 = .ok (.lconst 0, 1) := by decide +kernel
theorem dX12_shutBy_11 : decode cX12_shutBy 11 = .ok (.lstore 5, 2) := by decide +kernel
theorem dX12_shutBy_13 : decode cX12_shutBy 13 = .ok (.iconst 0, 1) := by decide +kernel
theorem dX12_shutBy_14 : decode cX12_shutBy 14 = .ok (.istore 7, 2) := by decide +kernel
theorem dX12_shutBy_16 : decode cX12_shutBy 16 = .ok (.iload 7, 2) := by decide +kernel
theorem dX12_shutBy_18 : decode cX12_shutBy 18 = .ok (.bipush 9, 2) := by decide +kernel
theorem dX12_shutBy_20 : decode cX12_shutBy 20 = .ok (.if_icmp .ge 39, 3) := by decide +kernel
theorem dX12_shutBy_23 : decode cX12_shutBy 23 = .ok (.lload 5, 2) := by decide +kernel
theorem dX12_shutBy_25 : decode cX12_shutBy 25 = .ok (.aload_n 0, 1) := by decide +kernel
theorem dX12_shutBy_26 : decode cX12_shutBy 26 = .ok (.iload_n 1, 1) := by decide +kernel
theorem dX12_shutBy_27 : decode cX12_shutBy 27 = .ok (.iload 7, 2) := by decide +kernel
theorem dX12_shutBy_29 : decode cX12_shutBy 29 = .ok (.iload_n 3, 1) := by decide +kernel
theorem dX12_shutBy_30 : decode cX12_shutBy 30 = .ok (.invokestatic 150, 3) := by decide +kernel
theorem dX12_shutBy_33 : decode cX12_shutBy 33 = .ok (.invokevirtual 161, 3) := by decide +kernel
theorem dX12_shutBy_36 : decode cX12_shutBy 36 = .ok (.ifCond .eq 13, 3) := by decide +kernel
theorem dX12_shutBy_39 : decode cX12_shutBy 39 = .ok (.aload_n 0, 1) := by decide +kernel
theorem dX12_shutBy_40 : decode cX12_shutBy 40 = .ok (.getfield 51, 3) := by decide +kernel
theorem dX12_shutBy_43 : decode cX12_shutBy 43 = .ok (.iload 7, 2) := by decide +kernel
theorem dX12_shutBy_45 : decode cX12_shutBy 45 = .ok (.laload, 1) := by decide +kernel
theorem dX12_shutBy_46 : decode cX12_shutBy 46 = .ok (.goto 4, 3) := by decide +kernel
theorem dX12_shutBy_49 : decode cX12_shutBy 49 = .ok (.lconst 0, 1) := by decide +kernel
theorem dX12_shutBy_50 : decode cX12_shutBy 50 = .ok (.ladd, 1) := by decide +kernel
theorem dX12_shutBy_51 : decode cX12_shutBy 51 = .ok (.lstore 5, 2) := by decide +kernel
theorem dX12_shutBy_53 : decode cX12_shutBy 53 = .ok (.iinc 7 1, 3) := by decide +kernel
theorem dX12_shutBy_56 : decode cX12_shutBy 56 = .ok (.goto (-40), 3) := by decide +kernel
theorem dX12_shutBy_59 : decode cX12_shutBy 59 = .ok (.lload 5, 2) := by decide +kernel
theorem dX12_shutBy_61 : decode cX12_shutBy 61 = .ok (.lreturn, 1) := by decide +kernel
theorem dX12_inBy_0 : decode cX12_inBy 0 = .ok (.iload_n 3, 1) := by decide +kernel
theorem dX12_inBy_1 : decode cX12_inBy 1 = .ok (.invokestatic 150, 3) := by decide +kernel
theorem dX12_inBy_4 : decode cX12_inBy 4 = .ok (.istore 4, 2) := by decide +kernel
theorem dX12_inBy_6 : decode cX12_inBy 6 = .ok (.iload 4, 2) := by decide +kernel
theorem dX12_inBy_8 : decode cX12_inBy 8 = .ok (.ifCond .eq 14, 3) := by decide +kernel
theorem dX12_inBy_11 : decode cX12_inBy 11 = .ok (.iload 4, 2) := by decide +kernel
theorem dX12_inBy_13 : decode cX12_inBy 13 = .ok (.aload_n 0, 1) := by decide +kernel
theorem dX12_inBy_14 : decode cX12_inBy 14 = .ok (.getfield 31, 3) := by decide +kernel
theorem dX12_inBy_17 : decode cX12_inBy 17 = .ok (.iload_n 1, 1) := by decide +kernel
theorem dX12_inBy_18 : decode cX12_inBy 18 = .ok (.iaload, 1) := by decide +kernel
theorem dX12_inBy_19 : decode cX12_inBy 19 = .ok (.if_icmp .ge 5, 3) := by decide +kernel
theorem dX12_inBy_22 : decode cX12_inBy 22 = .ok (.lconst 0, 1) := by decide +kernel
theorem dX12_inBy_23 : decode cX12_inBy 23 = .ok (.lreturn, 1) := by decide +kernel
theorem dX12_inBy_24 : decode cX12_inBy 24 = .ok (.aload_n 0, 1) := by decide +kernel
theorem dX12_inBy_25 : decode cX12_inBy 25 = .ok (.iload_n 1, 1) := by decide +kernel
theorem dX12_inBy_26 : decode cX12_inBy 26 = .ok (.iload_n 2, 1) := by decide +kernel
theorem dX12_inBy_27 : decode cX12_inBy 27 = .ok (.iload_n 3, 1) := by decide +kernel
theorem dX12_inBy_28 : decode cX12_inBy 28 = .ok (.iload 4, 2) := by decide +kernel
theorem dX12_inBy_30 : decode cX12_inBy 30 = .ok (.invokevirtual 164, 3) := by decide +kernel
theorem dX12_inBy_33 : decode cX12_inBy 33 = .ok (.lstore 5, 2) := by decide +kernel
theorem dX12_inBy_35 : decode cX12_inBy 35 = .ok (.aload_n 0, 1) := by decide +kernel
theorem dX12_inBy_36 : decode cX12_inBy 36 = .ok (.getfield 34, 3) := by decide +kernel
theorem dX12_inBy_39 : decode cX12_inBy 39 = .ok (.iload_n 1, 1) := by decide +kernel
theorem dX12_inBy_40 : decode cX12_inBy 40 = .ok (.baload, 1) := by decide +kernel
theorem dX12_inBy_41 : decode cX12_inBy 41 = .ok (.ifCond .eq 19, 3) := by decide +kernel
theorem dX12_inBy_44 : decode cX12_inBy 44 = .ok (.iconst 2, 1) := by decide +kernel
theorem dX12_inBy_45 : decode cX12_inBy 45 = .ok (.iload 4, 2) := by decide +kernel
theorem dX12_inBy_47 : decode cX12_inBy 47 = .ok (.imul, 1) := by decide +kernel
theorem dX12_inBy_48 : decode cX12_inBy 48 = .ok (.invokestatic 168, 3) := by decide +kernel
theorem dX12_inBy_51 : decode cX12_inBy 51 = .ok (.lload 5, 2) := by decide +kernel
theorem dX12_inBy_53 : decode cX12_inBy 53 = .ok (.lload 5, 2) := by decide +kernel
theorem dX12_inBy_55 : decode cX12_inBy 55 = .ok (.lmul, 1) := by decide +kernel
theorem dX12_inBy_56 : decode cX12_inBy 56 = .ok (.lsub, 1) := by decide +kernel
theorem dX12_inBy_57 : decode cX12_inBy 57 = .ok (.goto 17, 3) := by decide +kernel
theorem dX12_inBy_60 : decode cX12_inBy 60 = .ok (.iload 4, 2) := by decide +kernel
theorem dX12_inBy_62 : decode cX12_inBy 62 = .ok (.invokestatic 168, 3) := by decide +kernel
theorem dX12_inBy_65 : decode cX12_inBy 65 = .ok (.lload 5, 2) := by decide +kernel
theorem dX12_inBy_67 : decode cX12_inBy 67 = .ok (.lsub, 1) := by decide +kernel
theorem dX12_inBy_68 : decode cX12_inBy 68 = .ok (.iload 4, 2) := by decide +kernel
theorem dX12_inBy_70 : decode cX12_inBy 70 = .ok (.invokestatic 168, 3) := by decide +kernel
theorem dX12_inBy_73 : decode cX12_inBy 73 = .ok (.lmul, 1) := by decide +kernel
theorem dX12_inBy_74 : decode cX12_inBy 74 = .ok (.lreturn, 1) := by decide +kernel
theorem dX12_areThere_0 : decode cX12_areThere 0 = .ok (.aload_n 0, 1) := by decide +kernel
