theorem dX10_of_101 : decode cX10_of 101 = .ok (.ireturn, 1) := by decide +kernel
theorem dX10_of_102 : decode cX10_of 102 = .ok (.aload_n 0, 1) := by decide +kernel
theorem dX10_of_103 : decode cX10_of 103 = .ok (.iload_n 1, 1) := by decide +kernel
theorem dX10_of_104 : decode cX10_of 104 = .ok (.invokevirtual 189, 3) := by decide +kernel
theorem dX10_of_107 : decode cX10_of 107 = .ok (.ireturn, 1) := by decide +kernel
theorem dX10_of_108 : decode cX10_of 108 = .ok (.iconst (-1), 1) := by decide +kernel
theorem dX10_of_109 : decode cX10_of 109 = .ok (.ireturn, 1) := by decide +kernel
theorem dX10_rows_0 : decode cX10_rows 0 = .ok (.aload_n 0, 1) := by decide +kernel
theorem dX10_rows_1 : decode cX10_rows 1 = .ok (.iload_n 1, 1) := by decide +kernel
theorem dX10_rows_2 : decode cX10_rows 2 = .ok (.iload_n 2, 1) := by decide +kernel
theorem dX10_rows_3 : decode cX10_rows 3 = .ok (.iload_n 3, 1) := by decide +kernel
theorem dX10_rows_4 : decode cX10_rows 4 = .ok (.iload 4, 2) := by decide +kernel
theorem dX10_rows_6 : decode cX10_rows 6 = .ok (.invokevirtual 192, 3) := by decide +kernel
theorem dX10_rows_9 : decode cX10_rows 9 = .ok (.ifCond .ne 7, 3) := by decide +kernel
theorem dX10_rows_12 : decode cX10_rows 12 = .ok (.ldc2_w 196, 3) := by decide +kernel
theorem dX10_rows_15 : decode cX10_rows 15 = .ok (.lreturn, 1) := by decide +kernel
theorem dX10_rows_16 : decode cX10_rows 16 = .ok (.aload_n 0, 1) := by decide +kernel
theorem dX10_rows_17 : decode cX10_rows 17 = .ok (.invokevirtual 198, 3) := by decide +kernel
theorem dX10_rows_20 : decode cX10_rows 20 = .ok (.iload_n 1, 1) := by decide +kernel
theorem dX10_rows_21 : decode cX10_rows 21 = .ok (.iload_n 2, 1) := by decide +kernel
theorem dX10_rows_22 : decode cX10_rows 22 = .ok (.aload_n 0, 1) := by decide +kernel
theorem dX10_rows_23 : decode cX10_rows 23 = .ok (.getfield 10, 3) := by decide +kernel
theorem dX10_rows_26 : decode cX10_rows 26 = .ok (.getfield 87, 3) := by decide +kernel
theorem dX10_rows_29 : decode cX10_rows 29 = .ok (.iload_n 3, 1) := by decide +kernel
theorem dX10_rows_30 : decode cX10_rows 30 = .ok (.iload 4, 2) := by decide +kernel
theorem dX10_rows_32 : decode cX10_rows 32 = .ok (.invokevirtual 202, 3) := by decide +kernel
theorem dX10_rows_35 : decode cX10_rows 35 = .ok (.lreturn, 1) := by decide +kernel
theorem dX10_row_0 : decode cX10_row 0 = .ok (.aload_n 0, 1) := by decide +kernel
theorem dX10_row_1 : decode cX10_row 1 = .ok (.iload_n 1, 1) := by decide +kernel
theorem dX10_row_2 : decode cX10_row 2 = .ok (.iload_n 2, 1) := by decide +kernel
theorem dX10_row_3 : decode cX10_row 3 = .ok (.iload_n 3, 1) := by decide +kernel
theorem dX10_row_4 : decode cX10_row 4 = .ok (.iload 4, 2) := by decide +kernel
theorem dX10_row_6 : decode cX10_row 6 = .ok (.invokevirtual 192, 3) := by decide +kernel
theorem dX10_row_9 : decode cX10_row 9 = .ok (.ifCond .ne 5, 3) := by decide +kernel
theorem dX10_row_12 : decode cX10_row 12 = .ok (.iconst (-1), 1) := by decide +kernel
theorem dX10_row_13 : decode cX10_row 13 = .ok (.ireturn, 1) := by decide +kernel
theorem dX10_row_14 : decode cX10_row 14 = .ok (.aload_n 0, 1) := by decide +kernel
theorem dX10_row_15 : decode cX10_row 15 = .ok (.invokevirtual 198, 3) := by decide +kernel
theorem dX10_row_18 : decode cX10_row 18 = .ok (.astore 6, 2) := by decide +kernel
theorem dX10_row_20 : decode cX10_row 20 = .ok (.aload 6, 2) := by decide +kernel
theorem dX10_row_22 : decode cX10_row 22 = .ok (.iload_n 1, 1) := by decide +kernel
theorem dX10_row_23 : decode cX10_row 23 = .ok (.iload_n 2, 1) := by decide +kernel
theorem dX10_row_24 : decode cX10_row 24 = .ok (.aload_n 0, 1) := by decide +kernel
theorem dX10_row_25 : decode cX10_row 25 = .ok (.getfield 10, 3) := by decide +kernel
theorem dX10_row_28 : decode cX10_row 28 = .ok (.getfield 87, 3) := by decide +kernel
theorem dX10_row_31 : decode cX10_row 31 = .ok (.iload_n 3, 1) := by decide +kernel
theorem dX10_row_32 : decode cX10_row 32 = .ok (.iload 4, 2) := by decide +kernel
theorem dX10_row_34 : decode cX10_row 34 = .ok (.invokevirtual 208, 3) := by decide +kernel
theorem dX10_row_37 : decode cX10_row 37 = .ok (.istore 7, 2) := by decide +kernel
theorem dX10_row_39 : decode cX10_row 39 = .ok (.iload 5, 2) := by decide +kernel
theorem dX10_row_41 : decode cX10_row 41 = .ok (.iconst (-1), 1) := by decide +kernel
theorem dX10_row_42 : decode cX10_row 42 = .ok (.if_icmp .eq 9, 3) := by decide +kernel
theorem dX10_row_45 : decode cX10_row 45 = .ok (.iload 7, 2) := by decide +kernel
theorem dX10_row_47 : decode cX10_row 47 = .ok (.iconst (-1), 1) := by decide +kernel
theorem dX10_row_48 : decode cX10_row 48 = .ok (.if_icmp .ne 6, 3) := by decide +kernel
theorem dX10_row_51 : decode cX10_row 51 = .ok (.iload 7, 2) := by decide +kernel
theorem dX10_row_53 : decode cX10_row 53 = .ok (.ireturn, 1) := by decide +kernel
theorem dX10_row_54 : decode cX10_row 54 = .ok (.iload 5, 2) := by decide +kernel
theorem dX10_row_56 : decode cX10_row 56 = .ok (.iconst 0, 1) := by decide +kernel
theorem dX10_row_57 : decode cX10_row 57 = .ok (.iload 7, 2) := by decide +kernel
theorem dX10_row_59 : decode cX10_row 59 = .ok (.iconst 1, 1) := by decide +kernel
theorem dX10_row_60 : decode cX10_row 60 = .ok (.isub, 1) := by decide +kernel
theorem dX10_row_61 : decode cX10_row 61 = .ok (.invokestatic 61, 3) := by decide +kernel
theorem dX10_row_64 : decode cX10_row 64 = .ok (.ifCond .eq 24, 3) := by decide +kernel
theorem dX10_row_67 : decode cX10_row 67 = .ok (.aload 6, 2) := by decide +kernel
theorem dX10_row_69 : decode cX10_row 69 = .ok (.iload_n 1, 1) := by decide +kernel
theorem dX10_row_70 : decode cX10_row 70 = .ok (.iload_n 2, 1) := by decide +kernel
theorem dX10_row_71 : decode cX10_row 71 = .ok (.aload_n 0, 1) := by decide +kernel
theorem dX10_row_72 : decode cX10_row 72 = .ok (.getfield 10, 3) := by decide +kernel
theorem dX10_row_75 : decode cX10_row 75 = .ok (.getfield 87, 3) := by decide +kernel
theorem dX10_row_78 : decode cX10_row 78 = .ok (.iload 7, 2) := by decide +kernel
theorem dX10_row_80 : decode cX10_row 80 = .ok (.iload 5, 2) := by decide +kernel
theorem dX10_row_82 : decode cX10_row 82 = .ok (.invokevirtual 212, 3) := by decide +kernel
theorem dX10_row_85 : decode cX10_row 85 = .ok (.goto 4, 3) := by decide +kernel
theorem dX10_row_88 : decode cX10_row 88 = .ok (.iconst (-1), 1) := by decide +kernel
theorem dX10_row_89 : decode cX10_row 89 = .ok (.ireturn, 1) := by decide +kernel
theorem dX10_among_0 : decode cX10_among 0 = .ok (.aload_n 0, 1) := by decide +kernel
theorem dX10_among_1 : decode cX10_among 1 = .ok (.iload_n 1, 1) := by decide +kernel
theorem dX10_among_2 : decode cX10_among 2 = .ok (.iload_n 2, 1) := by decide +kernel
theorem dX10_among_3 : decode cX10_among 3 = .ok (.iload_n 3, 1) := by decide +kernel
theorem dX10_among_4 : decode cX10_among 4 = .ok (.iload 4, 2) := by decide +kernel
theorem dX10_among_6 : decode cX10_among 6 = .ok (.invokevirtual 192, 3) := by decide +kernel
theorem dX10_among_9 : decode cX10_among 9 = .ok (.ifCond .ne 5, 3) := by decide +kernel
theorem dX10_among_12 : decode cX10_among 12 = .ok (.iconst (-1), 1) := by decide +kernel
theorem dX10_among_13 : decode cX10_among 13 = .ok (.ireturn, 1) := by decide +kernel
theorem dX10_among_14 : decode cX10_among 14 = .ok (.aload_n 0, 1) := by decide +kernel
theorem dX10_among_15 : decode cX10_among 15 = .ok (.invokevirtual 198, 3) := by decide +kernel
theorem dX10_among_18 : decode cX10_among 18 = .ok (.astore 6, 2) := by decide +kernel
theorem dX10_among_20 : decode cX10_among 20 = .ok (.iload 5, 2) := by decide +kernel
theorem dX10_among_22 : decode cX10_among 22 = .ok (.ifCond .eq 23, 3) := by decide +kernel
theorem dX10_among_25 : decode cX10_among 25 = .ok (.aload 6, 2) := by decide +kernel
theorem dX10_among_27 : decode cX10_among 27 = .ok (.iload_n 1, 1) := by decide +kernel
theorem dX10_among_28 : decode cX10_among 28 = .ok (.iload_n 2, 1) := by decide +kernel
theorem dX10_among_29 : decode cX10_among 29 = .ok (.aload_n 0, 1) := by decide +kernel
theorem dX10_among_30 : decode cX10_among 30 = .ok (.getfield 10, 3) := by decide +kernel
theorem dX10_among_33 : decode cX10_among 33 = .ok (.getfield 87, 3) := by decide +kernel
theorem dX10_among_36 : decode cX10_among 36 = .ok (.iload_n 3, 1) := by decide +kernel
theorem dX10_among_37 : decode cX10_among 37 = .ok (.iload 4, 2) := by decide +kernel
theorem dX10_among_39 : decode cX10_among 39 = .ok (.invokevirtual 215, 3) := by decide +kernel
theorem dX10_among_42 : decode cX10_among 42 = .ok (.goto 20, 3) := by decide +kernel
theorem dX10_among_45 : decode cX10_among 45 = .ok (.aload 6, 2) := by decide +kernel
theorem dX10_among_47 : decode cX10_among 47 = .ok (.iload_n 1, 1) := by decide +kernel
theorem dX10_among_48 : decode cX10_among 48 = .ok (.iload_n 2, 1) := by decide +kernel
theorem dX10_among_49 : decode cX10_among 49 = .ok (.aload_n 0, 1) := by decide +kernel
theorem dX10_among_50 : decode cX10_among 50 = .ok (.getfield 10, 3) := by decide +kernel
theorem dX10_among_53 : decode cX10_among 53 = .ok (.getfield 87, 3) := by decide +kernel
theorem dX10_among_56 : decode cX10_among 56 = .ok (.iload_n 3, 1) := by decide +kernel
theorem dX10_among_57 : decode cX10_among 57 = .ok (.iload 4, 2) := by decide +kernel
theorem dX10_among_59 : decode cX10_among 59 = .ok (.invokevirtual 218, 3) := by decide +kernel
theorem dX10_among_62 : decode cX10_among 62 = .ok (.ireturn, 1) := by decide +kernel
theorem dX10_purse_0 : decode cX10_purse 0 = .ok (.iload_n 1, 1) := by decide +kernel
theorem dX10_purse_1 : decode cX10_purse 1 = .ok (.iconst (-1), 1) := by decide +kernel
theorem dX10_purse_2 : decode cX10_purse 2 = .ok (.if_icmp .ne 13, 3) := by decide +kernel
theorem dX10_purse_5 : decode cX10_purse 5 = .ok (.aload_n 0, 1) := by decide +kernel
theorem dX10_purse_6 : decode cX10_purse 6 = .ok (.getfield 10, 3) := by decide +kernel
theorem dX10_purse_9 : decode cX10_purse 9 = .ok (.iconst 0, 1) := by decide +kernel
theorem dX10_purse_10 : decode cX10_purse 10 = .ok (.putfield 221, 3) := by decide +kernel
theorem dX10_purse_13 : decode cX10_purse 13 = .ok (.iconst 0, 1) := by decide +kernel
theorem dX10_purse_14 : decode cX10_purse 14 = .ok (.ireturn, 1) := by decide +kernel
theorem dX10_purse_15 : decode cX10_purse 15 = .ok (.aload_n 0, 1) := by decide +kernel
theorem dX10_purse_16 : decode cX10_purse 16 = .ok (.getfield 10, 3) := by decide +kernel
theorem dX10_purse_19 : decode cX10_purse 19 = .ok (.iload_n 1, 1) := by decide +kernel
theorem dX10_purse_20 : decode cX10_purse 20 = .ok (.invokevirtual 73, 3) := by decide +kernel
theorem dX10_purse_23 : decode cX10_purse 23 = .ok (.ifCond .eq 25, 3) := by decide +kernel
theorem dX10_purse_26 : decode cX10_purse 26 = .ok (.iload_n 2, 1) := by decide +kernel
theorem dX10_purse_27 : decode cX10_purse 27 = .ok (.iconst 0, 1) := by decide +kernel
theorem dX10_purse_28 : decode cX10_purse 28 = .ok (.sipush 999, 3) := by decide +kernel
theorem dX10_purse_31 : decode cX10_purse 31 = .ok (.invokestatic 61, 3) := by decide +kernel
theorem dX10_purse_34 : decode cX10_purse 34 = .ok (.ifCond .eq 14, 3) := by decide +kernel
theorem dX10_purse_37 : decode cX10_purse 37 = .ok (.aload_n 0, 1) := by decide +kernel
theorem dX10_purse_38 : decode cX10_purse 38 = .ok (.getfield 10, 3) := by decide +kernel
theorem dX10_purse_41 : decode cX10_purse 41 = .ok (.getfield 221, 3) := by decide +kernel
theorem dX10_purse_44 : decode cX10_purse 44 = .ok (.iconst 4, 1) := by decide +kernel
theorem dX10_purse_45 : decode cX10_purse 45 = .ok (.if_icmp .lt 5, 3) := by decide +kernel
theorem dX10_purse_48 : decode cX10_purse 48 = .ok (.iconst (-1), 1) := by decide +kernel
theorem dX10_purse_49 : decode cX10_purse 49 = .ok (.ireturn, 1) := by decide +kernel
theorem dX10_purse_50 : decode cX10_purse 50 = .ok (.aload_n 0, 1) := by decide +kernel
theorem dX10_purse_51 : decode cX10_purse 51 = .ok (.getfield 10, 3) := by decide +kernel
theorem dX10_purse_54 : decode cX10_purse 54 = .ok (.iload_n 1, 1) := by decide +kernel
theorem dX10_purse_55 : decode cX10_purse 55 = .ok (.iload_n 2, 1) := by decide +kernel
theorem dX10_purse_56 : decode cX10_purse 56 = .ok (.invokevirtual 224, 3) := by decide +kernel
theorem dX10_purse_59 : decode cX10_purse 59 = .ok (.ireturn, 1) := by decide +kernel
theorem dX10_odds_0 : decode cX10_odds 0 = .ok (.aload_n 0, 1) := by decide +kernel
theorem dX10_odds_1 : decode cX10_odds 1 = .ok (.getfield 10, 3) := by decide +kernel
theorem dX10_odds_4 : decode cX10_odds 4 = .ok (.iload_n 1, 1) := by decide +kernel
theorem dX10_odds_5 : decode cX10_odds 5 = .ok (.invokevirtual 73, 3) := by decide +kernel
theorem dX10_odds_8 : decode cX10_odds 8 = .ok (.ifCond .eq 22, 3) := by decide +kernel
theorem dX10_odds_11 : decode cX10_odds 11 = .ok (.iload_n 2, 1) := by decide +kernel
theorem dX10_odds_12 : decode cX10_odds 12 = .ok (.iload_n 3, 1) := by decide +kernel
theorem dX10_odds_13 : decode cX10_odds 13 = .ok (.iconst 4, 1) := by decide +kernel
theorem dX10_odds_14 : decode cX10_odds 14 = .ok (.invokestatic 227, 3) := by decide +kernel
theorem dX10_odds_17 : decode cX10_odds 17 = .ok (.ifCond .eq 13, 3) := by decide +kernel
theorem dX10_odds_20 : decode cX10_odds 20 = .ok (.iload 4, 2) := by decide +kernel
theorem dX10_odds_22 : decode cX10_odds 22 = .ok (.iconst 0, 1) := by decide +kernel
theorem dX10_odds_23 : decode cX10_odds 23 = .ok (.iconst 1, 1) := by decide +kernel
theorem dX10_odds_24 : decode cX10_odds 24 = .ok (.invokestatic 61, 3) := by decide +kernel
theorem dX10_odds_27 : decode cX10_odds 27 = .ok (.ifCond .ne 7, 3) := by decide +kernel
theorem dX10_odds_30 : decode cX10_odds 30 = .ok (.ldc2_w 196, 3) := by decide +kernel
theorem dX10_odds_33 : decode cX10_odds 33 = .ok (.lreturn, 1) := by decide +kernel
theorem dX10_odds_34 : decode cX10_odds 34 = .ok (.aload_n 0, 1) := by decide +kernel
theorem dX10_odds_35 : decode cX10_odds 35 = .ok (.invokevirtual 198, 3) := by decide +kernel
theorem dX10_odds_38 : decode cX10_odds 38 = .ok (.astore 5, 2) := by decide +kernel
theorem dX10_odds_40 : decode cX10_odds 40 = .ok (.aload_n 0, 1) := by decide +kernel
theorem dX10_odds_41 : decode cX10_odds 41 = .ok (.iload_n 1, 1) := by decide +kernel
theorem dX10_odds_42 : decode cX10_odds 42 = .ok (.invokevirtual 230, 3) := by decide +kernel
theorem dX10_odds_45 : decode cX10_odds 45 = .ok (.astore 6, 2) := by decide +kernel
theorem dX10_odds_47 : decode cX10_odds 47 = .ok (.lconst 1, 1) := by decide +kernel
theorem dX10_odds_48 : decode cX10_odds 48 = .ok (.lstore 7, 2) := by decide +kernel
theorem dX10_odds_50 : decode cX10_odds 50 = .ok (.lconst 1, 1) := by decide +kernel
theorem dX10_odds_51 : decode cX10_odds 51 = .ok (.lstore 9, 2) := by decide +kernel
theorem dX10_odds_53 : decode cX10_odds 53 = .ok (.iconst 0, 1) := by decide +kernel
theorem dX10_odds_54 : decode cX10_odds 54 = .ok (.istore 11, 2) := by decide +kernel
theorem dX10_odds_56 : decode cX10_odds 56 = .ok (.iload 11, 2) := by decide +kernel
theorem dX10_odds_58 : decode cX10_odds 58 = .ok (.aload_n 0, 1) := by decide +kernel
theorem dX10_odds_59 : decode cX10_odds 59 = .ok (.getfield 10, 3) := by decide +kernel
theorem dX10_odds_62 : decode cX10_odds 62 = .ok (.getfield 221, 3) := by decide +kernel
theorem dX10_odds_65 : decode cX10_odds 65 = .ok (.if_icmp .ge 92, 3) := by decide +kernel
theorem dX10_odds_68 : decode cX10_odds 68 = .ok (.iload 11, 2) := by decide +kernel
theorem dX10_odds_70 : decode cX10_odds 70 = .ok (.iconst 4, 1) := by decide +kernel
theorem dX10_odds_71 : decode cX10_odds 71 = .ok (.if_icmp .ge 86, 3) := by decide +kernel
theorem dX10_odds_74 : decode cX10_odds 74 = .ok (.aload_n 0, 1) := by decide +kernel
theorem dX10_odds_75 : decode cX10_odds 75 = .ok (.getfield 10, 3) := by decide +kernel
theorem dX10_odds_78 : decode cX10_odds 78 = .ok (.getfield 234, 3) := by decide +kernel
theorem dX10_odds_81 : decode cX10_odds 81 = .ok (.iload 11, 2) := by decide +kernel
theorem dX10_odds_83 : decode cX10_odds 83 = .ok (.iaload, 1) := by decide +kernel
theorem dX10_odds_84 : decode cX10_odds 84 = .ok (.istore 12, 2) := by decide +kernel
theorem dX10_odds_86 : decode cX10_odds 86 = .ok (.aload_n 0, 1) := by decide +kernel
theorem dX10_odds_87 : decode cX10_odds 87 = .ok (.getfield 10, 3) := by decide +kernel
theorem dX10_odds_90 : decode cX10_odds 90 = .ok (.getfield 237, 3) := by decide +kernel
theorem dX10_odds_93 : decode cX10_odds 93 = .ok (.iload 11, 2) := by decide +kernel
theorem dX10_odds_95 : decode cX10_odds 95 = .ok (.iaload, 1) := by decide +kernel
theorem dX10_odds_96 : decode cX10_odds 96 = .ok (.istore 13, 2) := by decide +kernel
theorem dX10_odds_98 : decode cX10_odds 98 = .ok (.aload 5, 2) := by decide +kernel
theorem dX10_odds_100 : decode cX10_odds 100 = .ok (.iload 12, 2) := by decide +kernel
theorem dX10_odds_102 : decode cX10_odds 102 = .ok (.iload 13, 2) := by decide +kernel
theorem dX10_odds_104 : decode cX10_odds 104 = .ok (.aload_n 0, 1) := by decide +kernel
theorem dX10_odds_105 : decode cX10_odds 105 = .ok (.getfield 10, 3) := by decide +kernel
theorem dX10_odds_108 : decode cX10_odds 108 = .ok (.getfield 87, 3) := by decide +kernel
theorem dX10_odds_111 : decode cX10_odds 111 = .ok (.iload_n 2, 1) := by decide +kernel
theorem dX10_odds_112 : decode cX10_odds 112 = .ok (.iload_n 3, 1) := by decide +kernel
theorem dX10_odds_113 : decode cX10_odds 113 = .ok (.invokevirtual 202, 3) := by decide +kernel
theorem dX10_odds_116 : decode cX10_odds 116 = .ok (.lstore 14, 2) := by decide +kernel
theorem dX10_odds_118 : decode cX10_odds 118 = .ok (.lload 7, 2) := by decide +kernel
theorem dX10_odds_120 : decode cX10_odds 120 = .ok (.lload 14, 2) := by decide +kernel
theorem dX10_odds_122 : decode cX10_odds 122 = .ok (.aload 6, 2) := by decide +kernel
theorem dX10_odds_124 : decode cX10_odds 124 = .ok (.iload 12, 2) := by decide +kernel
theorem dX10_odds_126 : decode cX10_odds 126 = .ok (.iload 13, 2) := by decide +kernel
theorem dX10_odds_128 : decode cX10_odds 128 = .ok (.aload_n 0, 1) := by decide +kernel
theorem dX10_odds_129 : decode cX10_odds 129 = .ok (.getfield 10, 3) := by decide +kernel
theorem dX10_odds_132 : decode cX10_odds 132 = .ok (.getfield 87, 3) := by decide +kernel
theorem dX10_odds_135 : decode cX10_odds 135 = .ok (.iload_n 2, 1) := by decide +kernel
theorem dX10_odds_136 : decode cX10_odds 136 = .ok (.iload_n 3, 1) := by decide +kernel
theorem dX10_odds_137 : decode cX10_odds 137 = .ok (.invokevirtual 202, 3) := by decide +kernel
theorem dX10_odds_140 : decode cX10_odds 140 = .ok (.lsub, 1) := by decide +kernel
theorem dX10_odds_141 : decode cX10_odds 141 = .ok (.lmul, 1) := by decide +kernel
theorem dX10_odds_142 : decode cX10_odds 142 = .ok (.lstore 7, 2) := by decide +kernel
theorem dX10_odds_144 : decode cX10_odds 144 = .ok (.lload 9, 2) := by decide +kernel
theorem dX10_odds_146 : decode cX10_odds 146 = .ok (.lload 14, 2) := by decide +kernel
theorem dX10_odds_148 : decode cX10_odds 148 = .ok (.lmul, 1) := by decide +kernel
theorem dX10_odds_149 : decode cX10_odds 149 = .ok (.lstore 9, 2) := by decide +kernel
theorem dX10_odds_151 : decode cX10_odds 151 = .ok (.iinc 11 1, 3) := by decide +kernel
theorem dX10_odds_154 : decode cX10_odds 154 = .ok (.goto (-98), 3) := by decide +kernel
theorem dX10_odds_157 : decode cX10_odds 157 = .ok (.lload 9, 2) := by decide +kernel
theorem dX10_odds_159 : decode cX10_odds 159 = .ok (.lconst 1, 1) := by decide +kernel
theorem dX10_odds_160 : decode cX10_odds 160 = .ok (.lcmp, 1) := by decide +kernel
theorem dX10_odds_161 : decode cX10_odds 161 = .ok (.ifCond .ge 7, 3) := by decide +kernel
theorem dX10_odds_164 : decode cX10_odds 164 = .ok (.ldc2_w 196, 3) := by decide +kernel
theorem dX10_odds_167 : decode cX10_odds 167 = .ok (.lreturn, 1) := by decide +kernel
theorem dX10_odds_168 : decode cX10_odds 168 = .ok (.lload 7, 2) := by decide +kernel
theorem dX10_odds_170 : decode cX10_odds 170 = .ok (.lload 9, 2) := by decide +kernel
theorem dX10_odds_172 : decode cX10_odds 172 = .ok (.invokestatic 240, 3) := by decide +kernel
theorem dX10_odds_175 : decode cX10_odds 175 = .ok (.lstore 11, 2) := by decide +kernel
theorem dX10_odds_177 : decode cX10_odds 177 = .ok (.lload 11, 2) := by decide +kernel
theorem dX10_odds_179 : decode cX10_odds 179 = .ok (.lconst 1, 1) := by decide +kernel
theorem dX10_odds_180 : decode cX10_odds 180 = .ok (.lcmp, 1) := by decide +kernel
theorem dX10_odds_181 : decode cX10_odds 181 = .ok (.ifCond .ge 7, 3) := by decide +kernel
theorem dX10_odds_184 : decode cX10_odds 184 = .ok (.ldc2_w 196, 3) := by decide +kernel
theorem dX10_odds_187 : decode cX10_odds 187 = .ok (.lreturn, 1) := by decide +kernel
theorem dX10_odds_188 : decode cX10_odds 188 = .ok (.iload 4, 2) := by decide +kernel
theorem dX10_odds_190 : decode cX10_odds 190 = .ok (.ifCond .ne 8, 3) := by decide +kernel
theorem dX10_odds_193 : decode cX10_odds 193 = .ok (.lload 7, 2) := by decide +kernel
theorem dX10_odds_195 : decode cX10_odds 195 = .ok (.goto 5, 3) := by decide +kernel
theorem dX10_odds_198 : decode cX10_odds 198 = .ok (.lload 9, 2) := by decide +kernel
theorem dX10_odds_200 : decode cX10_odds 200 = .ok (.lload 11, 2) := by decide +kernel
theorem dX10_odds_202 : decode cX10_odds 202 = .ok (.ldiv, 1) := by decide +kernel
theorem dX10_odds_203 : decode cX10_odds 203 = .ok (.lreturn, 1) := by decide +kernel
theorem dX10_told_0 : decode cX10_told 0 = .ok (.iload_n 1, 1) := by decide +kernel
theorem dX10_told_1 : decode cX10_told 1 = .ok (.iload_n 2, 1) := by decide +kernel
theorem dX10_told_2 : decode cX10_told 2 = .ok (.iconst 4, 1) := by decide +kernel
theorem dX10_told_3 : decode cX10_told 3 = .ok (.invokestatic 227, 3) := by decide +kernel
theorem dX10_told_6 : decode cX10_told 6 = .ok (.ifCond .ne 5, 3) := by decide +kernel
theorem dX10_told_9 : decode cX10_told 9 = .ok (.iconst (-1), 1) := by decide +kernel
theorem dX10_told_10 : decode cX10_told 10 = .ok (.ireturn, 1) := by decide +kernel
theorem dX10_told_11 : decode cX10_told 11 = .ok (.aload_n 0, 1) := by decide +kernel
theorem dX10_told_12 : decode cX10_told 12 = .ok (.invokevirtual 198, 3) := by decide +kernel
theorem dX10_told_15 : decode cX10_told 15 = .ok (.astore_n 3, 1) := by decide +kernel
theorem dX10_told_16 : decode cX10_told 16 = .ok (.iconst 1, 1) := by decide +kernel
theorem dX10_told_17 : decode cX10_told 17 = .ok (.aload_n 0, 1) := by decide +kernel
theorem dX10_told_18 : decode cX10_told 18 = .ok (.getfield 10, 3) := by decide +kernel
theorem dX10_told_21 : decode cX10_told 21 = .ok (.getfield 65, 3) := by decide +kernel
theorem dX10_told_24 : decode cX10_told 24 = .ok (.ishl, 1) := by decide +kernel
theorem dX10_told_25 : decode cX10_told 25 = .ok (.iconst 1, 1) := by decide +kernel
theorem dX10_told_26 : decode cX10_told 26 = .ok (.isub, 1) := by decide +kernel
theorem dX10_told_27 : decode cX10_told 27 = .ok (.istore 4, 2) := by decide +kernel
theorem dX10_told_29 : decode cX10_told 29 = .ok (.iconst 0, 1) := by decide +kernel
theorem dX10_told_30 : decode cX10_told 30 = .ok (.istore 5, 2) := by decide +kernel
theorem dX10_told_32 : decode cX10_told 32 = .ok (.iload 5, 2) := by decide +kernel
theorem dX10_told_34 : decode cX10_told 34 = .ok (.aload_n 0, 1) := by decide +kernel
theorem dX10_told_35 : decode cX10_told 35 = .ok (.getfield 10, 3) := by decide +kernel
theorem dX10_told_38 : decode cX10_told 38 = .ok (.getfield 221, 3) := by decide +kernel
theorem dX10_told_41 : decode cX10_told 41 = .ok (.if_icmp .ge 53, 3) := by decide +kernel
theorem dX10_told_44 : decode cX10_told 44 = .ok (.iload 5, 2) := by decide +kernel
theorem dX10_told_46 : decode cX10_told 46 = .ok (.iconst 4, 1) := by decide +kernel
theorem dX10_told_47 : decode cX10_told 47 = .ok (.if_icmp .ge 47, 3) := by decide +kernel
theorem dX10_told_50 : decode cX10_told 50 = .ok (.iload 4, 2) := by decide +kernel
theorem dX10_told_52 : decode cX10_told 52 = .ok (.aload_n 3, 1) := by decide +kernel
theorem dX10_told_53 : decode cX10_told 53 = .ok (.aload_n 0, 1) := by decide +kernel
theorem dX10_told_54 : decode cX10_told 54 = .ok (.getfield 10, 3) := by decide +kernel
theorem dX10_told_57 : decode cX10_told 57 = .ok (.getfield 234, 3) := by decide +kernel
theorem dX10_told_60 : decode cX10_told 60 = .ok (.iload 5, 2) := by decide +kernel
theorem dX10_told_62 : decode cX10_told 62 = .ok (.iaload, 1) := by decide +kernel
theorem dX10_told_63 : decode cX10_told 63 = .ok (.aload_n 0, 1) := by decide +kernel
theorem dX10_told_64 : decode cX10_told 64 = .ok (.getfield 10, 3) := by decide +kernel
theorem dX10_told_67 : decode cX10_told 67 = .ok (.getfield 237, 3) := by decide +kernel
theorem dX10_told_70 : decode cX10_told 70 = .ok (.iload 5, 2) := by decide +kernel
theorem dX10_told_72 : decode cX10_told 72 = .ok (.iaload, 1) := by decide +kernel
theorem dX10_told_73 : decode cX10_told 73 = .ok (.aload_n 0, 1) := by decide +kernel
theorem dX10_told_74 : decode cX10_told 74 = .ok (.getfield 10, 3) := by decide +kernel
theorem dX10_told_77 : decode cX10_told 77 = .ok (.getfield 87, 3) := by decide +kernel
theorem dX10_told_80 : decode cX10_told 80 = .ok (.iload_n 1, 1) := by decide +kernel
theorem dX10_told_81 : decode cX10_told 81 = .ok (.iload_n 2, 1) := by decide +kernel
theorem dX10_told_82 : decode cX10_told 82 = .ok (.invokevirtual 218, 3) := by decide +kernel
theorem dX10_told_85 : decode cX10_told 85 = .ok (.iand, 1) := by decide +kernel
theorem dX10_told_86 : decode cX10_told 86 = .ok (.istore 4, 2) := by decide +kernel
theorem dX10_told_88 : decode cX10_told 88 = .ok (.iinc 5 1, 3) := by decide +kernel
theorem dX10_told_91 : decode cX10_told 91 = .ok (.goto (-59), 3) := by decide +kernel
theorem dX10_told_94 : decode cX10_told 94 = .ok (.iload 4, 2) := by decide +kernel
theorem dX10_told_96 : decode cX10_told 96 = .ok (.invokestatic 244, 3) := by decide +kernel
theorem dX10_told_99 : decode cX10_told 99 = .ok (.ireturn, 1) := by decide +kernel
theorem dX10_chosen_0 : decode cX10_chosen 0 = .ok (.iload_n 1, 1) := by decide +kernel
theorem dX10_chosen_1 : decode cX10_chosen 1 = .ok (.iconst 2, 1) := by decide +kernel
theorem dX10_chosen_2 : decode cX10_chosen 2 = .ok (.iconst 5, 1) := by decide +kernel
theorem dX10_chosen_3 : decode cX10_chosen 3 = .ok (.invokestatic 61, 3) := by decide +kernel
theorem dX10_chosen_6 : decode cX10_chosen 6 = .ok (.ifCond .eq 23, 3) := by decide +kernel
theorem dX10_chosen_9 : decode cX10_chosen 9 = .ok (.iload_n 2, 1) := by decide +kernel
theorem dX10_chosen_10 : decode cX10_chosen 10 = .ok (.iconst 1, 1) := by decide +kernel
theorem dX10_chosen_11 : decode cX10_chosen 11 = .ok (.iconst 3, 1) := by decide +kernel
theorem dX10_chosen_12 : decode cX10_chosen 12 = .ok (.invokestatic 61, 3) := by decide +kernel
theorem dX10_chosen_15 : decode cX10_chosen 15 = .ok (.ifCond .eq 14, 3) := by decide +kernel
theorem dX10_chosen_18 : decode cX10_chosen 18 = .ok (.iload_n 3, 1) := by decide +kernel
theorem dX10_chosen_19 : decode cX10_chosen 19 = .ok (.iconst 0, 1) := by decide +kernel
theorem dX10_chosen_20 : decode cX10_chosen 20 = .ok (.iload_n 1, 1) := by decide +kernel
theorem dX10_chosen_21 : decode cX10_chosen 21 = .ok (.iconst 1, 1) := by decide +kernel
theorem dX10_chosen_22 : decode cX10_chosen 22 = .ok (.isub, 1) := by decide +kernel
theorem dX10_chosen_23 : decode cX10_chosen 23 = .ok (.invokestatic 61, 3) := by decide +kernel
theorem dX10_chosen_26 : decode cX10_chosen 26 = .ok (.ifCond .ne 5, 3) := by decide +kernel
theorem dX10_chosen_29 : decode cX10_chosen 29 = .ok (.iconst (-1), 1) := by decide +kernel
theorem dX10_chosen_30 : decode cX10_chosen 30 = .ok (.ireturn, 1) := by decide +kernel
theorem dX10_chosen_31 : decode cX10_chosen 31 = .ok (.iload_n 1, 1) := by decide +kernel
theorem dX10_chosen_32 : decode cX10_chosen 32 = .ok (.iconst 2, 1) := by decide +kernel
theorem dX10_chosen_33 : decode cX10_chosen 33 = .ok (.isub, 1) := by decide +kernel
theorem dX10_chosen_34 : decode cX10_chosen 34 = .ok (.iconst 3, 1) := by decide +kernel
theorem dX10_chosen_35 : decode cX10_chosen 35 = .ok (.imul, 1) := by decide +kernel
theorem dX10_chosen_36 : decode cX10_chosen 36 = .ok (.iload_n 2, 1) := by decide +kernel
theorem dX10_chosen_37 : decode cX10_chosen 37 = .ok (.iadd, 1) := by decide +kernel
theorem dX10_chosen_38 : decode cX10_chosen 38 = .ok (.iconst 1, 1) := by decide +kernel
theorem dX10_chosen_39 : decode cX10_chosen 39 = .ok (.isub, 1) := by decide +kernel
theorem dX10_chosen_40 : decode cX10_chosen 40 = .ok (.iconst 5, 1) := by decide +kernel
theorem dX10_chosen_41 : decode cX10_chosen 41 = .ok (.imul, 1) := by decide +kernel
theorem dX10_chosen_42 : decode cX10_chosen 42 = .ok (.iload_n 3, 1) := by decide +kernel
theorem dX10_chosen_43 : decode cX10_chosen 43 = .ok (.iadd, 1) := by decide +kernel
theorem dX10_chosen_44 : decode cX10_chosen 44 = .ok (.istore 4, 2) := by decide +kernel
theorem dX10_chosen_46 : decode cX10_chosen 46 = .ok (.iload 4, 2) := by decide +kernel
theorem dX10_chosen_48 : decode cX10_chosen 48 = .ok (.ifCond .lt 12, 3) := by decide +kernel
theorem dX10_chosen_51 : decode cX10_chosen 51 = .ok (.iload 4, 2) := by decide +kernel
theorem dX10_chosen_53 : decode cX10_chosen 53 = .ok (.getstatic 247, 3) := by decide +kernel
theorem dX10_chosen_56 : decode cX10_chosen 56 = .ok (.arraylength, 1) := by decide +kernel
theorem dX10_chosen_57 : decode cX10_chosen 57 = .ok (.if_icmp .lt 5, 3) := by decide +kernel
theorem dX10_chosen_60 : decode cX10_chosen 60 = .ok (.iconst (-1), 1) := by decide +kernel
theorem dX10_chosen_61 : decode cX10_chosen 61 = .ok (.ireturn, 1) := by decide +kernel
theorem dX10_chosen_62 : decode cX10_chosen 62 = .ok (.getstatic 247, 3) := by decide +kernel
theorem dX10_chosen_65 : decode cX10_chosen 65 = .ok (.iload 4, 2) := by decide +kernel
theorem dX10_chosen_67 : decode cX10_chosen 67 = .ok (.iaload, 1) := by decide +kernel
theorem dX10_chosen_68 : decode cX10_chosen 68 = .ok (.ireturn, 1) := by decide +kernel
theorem dX10_tray_0 : decode cX10_tray 0 = .ok (.aload_n 0, 1) := by decide +kernel
theorem dX10_tray_1 : decode cX10_tray 1 = .ok (.getfield 10, 3) := by decide +kernel
theorem dX10_tray_4 : decode cX10_tray 4 = .ok (.iload_n 1, 1) := by decide +kernel
theorem dX10_tray_5 : decode cX10_tray 5 = .ok (.invokevirtual 148, 3) := by decide +kernel
theorem dX10_tray_8 : decode cX10_tray 8 = .ok (.ifCond .eq 12, 3) := by decide +kernel
theorem dX10_tray_11 : decode cX10_tray 11 = .ok (.iload_n 2, 1) := by decide +kernel
theorem dX10_tray_12 : decode cX10_tray 12 = .ok (.iconst (-1), 1) := by decide +kernel
theorem dX10_tray_13 : decode cX10_tray 13 = .ok (.iconst 5, 1) := by decide +kernel
theorem dX10_tray_14 : decode cX10_tray 14 = .ok (.invokestatic 61, 3) := by decide +kernel
theorem dX10_tray_17 : decode cX10_tray 17 = .ok (.ifCond .ne 5, 3) := by decide +kernel
theorem dX10_tray_20 : decode cX10_tray 20 = .ok (.iconst 0, 1) := by decide +kernel
theorem dX10_tray_21 : decode cX10_tray 21 = .ok (.ireturn, 1) := by decide +kernel
theorem dX10_tray_22 : decode cX10_tray 22 = .ok (.aload_n 0, 1) := by decide +kernel
theorem dX10_tray_23 : decode cX10_tray 23 = .ok (.getfield 10, 3) := by decide +kernel
theorem dX10_tray_26 : decode cX10_tray 26 = .ok (.getfield 186, 3) := by decide +kernel
theorem dX10_tray_29 : decode cX10_tray 29 = .ok (.iload_n 1, 1) := by decide +kernel
theorem dX10_tray_30 : decode cX10_tray 30 = .ok (.iload_n 2, 1) := by decide +kernel
theorem dX10_tray_31 : decode cX10_tray 31 = .ok (.iastore, 1) := by decide +kernel
theorem dX10_tray_32 : decode cX10_tray 32 = .ok (.iconst 1, 1) := by decide +kernel
theorem dX10_tray_33 : decode cX10_tray 33 = .ok (.ireturn, 1) := by decide +kernel
theorem dX10_sorted_0 : decode cX10_sorted 0 = .ok (.iload_n 1, 1) := by decide +kernel
theorem dX10_sorted_1 : decode cX10_sorted 1 = .ok (.iconst 2, 1) := by decide +kernel
theorem dX10_sorted_2 : decode cX10_sorted 2 = .ok (.bipush 6, 2) := by decide +kernel
theorem dX10_sorted_4 : decode cX10_sorted 4 = .ok (.invokestatic 61, 3) := by decide +kernel
theorem dX10_sorted_7 : decode cX10_sorted 7 = .ok (.ifCond .eq 14, 3) := by decide +kernel
theorem dX10_sorted_10 : decode cX10_sorted 10 = .ok (.iload_n 2, 1) := by decide +kernel
theorem dX10_sorted_11 : decode cX10_sorted 11 = .ok (.iconst 0, 1) := by decide +kernel
theorem dX10_sorted_12 : decode cX10_sorted 12 = .ok (.iload_n 1, 1) := by decide +kernel
theorem dX10_sorted_13 : decode cX10_sorted 13 = .ok (.iconst 1, 1) := by decide +kernel
theorem dX10_sorted_14 : decode cX10_sorted 14 = .ok (.isub, 1) := by decide +kernel
theorem dX10_sorted_15 : decode cX10_sorted 15 = .ok (.invokestatic 61, 3) := by decide +kernel
theorem dX10_sorted_18 : decode cX10_sorted 18 = .ok (.ifCond .ne 5, 3) := by decide +kernel
theorem dX10_sorted_21 : decode cX10_sorted 21 = .ok (.iconst (-1), 1) := by decide +kernel
theorem dX10_sorted_22 : decode cX10_sorted 22 = .ok (.ireturn, 1) := by decide +kernel
theorem dX10_sorted_23 : decode cX10_sorted 23 = .ok (.aload_n 0, 1) := by decide +kernel
theorem dX10_sorted_24 : decode cX10_sorted 24 = .ok (.getfield 50, 3) := by decide +kernel
theorem dX10_sorted_27 : decode cX10_sorted 27 = .ok (.aload_n 0, 1) := by decide +kernel
theorem dX10_sorted_28 : decode cX10_sorted 28 = .ok (.getfield 10, 3) := by decide +kernel
theorem dX10_sorted_31 : decode cX10_sorted 31 = .ok (.iload_n 1, 1) := by decide +kernel
theorem dX10_sorted_32 : decode cX10_sorted 32 = .ok (.invokevirtual 250, 3) := by decide +kernel
theorem dX10_sorted_35 : decode cX10_sorted 35 = .ok (.istore_n 3, 1) := by decide +kernel
theorem dX10_sorted_36 : decode cX10_sorted 36 = .ok (.iload_n 2, 1) := by decide +kernel
theorem dX10_sorted_37 : decode cX10_sorted 37 = .ok (.ifCond .ne 7, 3) := by decide +kernel
theorem dX10_sorted_40 : decode cX10_sorted 40 = .ok (.iload_n 3, 1) := by decide +kernel
theorem dX10_sorted_41 : decode cX10_sorted 41 = .ok (.goto 12, 3) := by decide +kernel
theorem dX10_sorted_44 : decode cX10_sorted 44 = .ok (.aload_n 0, 1) := by decide +kernel
theorem dX10_sorted_45 : decode cX10_sorted 45 = .ok (.getfield 50, 3) := by decide +kernel
theorem dX10_sorted_48 : decode cX10_sorted 48 = .ok (.getfield 254, 3) := by decide +kernel
theorem dX10_sorted_51 : decode cX10_sorted 51 = .ok (.iload_n 2, 1) := by decide +kernel
theorem dX10_sorted_52 : decode cX10_sorted 52 = .ok (.iaload, 1) := by decide +kernel
theorem dX10_sorted_53 : decode cX10_sorted 53 = .ok (.ireturn, 1) := by decide +kernel
theorem dX10_read_0 : decode cX10_read 0 = .ok (.aload_n 0, 1) := by decide +kernel
theorem dX10_read_1 : decode cX10_read 1 = .ok (.getfield 10, 3) := by decide +kernel
theorem dX10_read_4 : decode cX10_read 4 = .ok (.iload_n 1, 1) := by decide +kernel
theorem dX10_read_5 : decode cX10_read 5 = .ok (.invokevirtual 148, 3) := by decide +kernel
theorem dX10_read_8 : decode cX10_read 8 = .ok (.ifCond .eq 14, 3) := by decide +kernel
theorem dX10_read_11 : decode cX10_read 11 = .ok (.iload_n 2, 1) := by decide +kernel
theorem dX10_read_12 : decode cX10_read 12 = .ok (.iconst 0, 1) := by decide +kernel
theorem dX10_read_13 : decode cX10_read 13 = .ok (.sipush 9999, 3) := by decide +kernel
theorem dX10_read_16 : decode cX10_read 16 = .ok (.invokestatic 61, 3) := by decide +kernel
theorem dX10_read_19 : decode cX10_read 19 = .ok (.ifCond .ne 6, 3) := by decide +kernel
theorem dX10_read_22 : decode cX10_read 22 = .ok (.bipush (-100), 2) := by decide +kernel
theorem dX10_read_24 : decode cX10_read 24 = .ok (.ireturn, 1) := by decide +kernel
theorem dX10_read_25 : decode cX10_read 25 = .ok (.aload_n 0, 1) := by decide +kernel
theorem dX10_read_26 : decode cX10_read 26 = .ok (.getfield 57, 3) := by decide +kernel
theorem dX10_read_29 : decode cX10_read 29 = .ok (.iload_n 2, 1) := by decide +kernel
theorem dX10_read_30 : decode cX10_read 30 = .ok (.invokevirtual 257, 3) := by decide +kernel
theorem dX10_read_33 : decode cX10_read 33 = .ok (.aload_n 0, 1) := by decide +kernel
theorem dX10_read_34 : decode cX10_read 34 = .ok (.getfield 10, 3) := by decide +kernel
theorem dX10_read_37 : decode cX10_read 37 = .ok (.getfield 174, 3) := by decide +kernel
theorem dX10_read_40 : decode cX10_read 40 = .ok (.iload_n 1, 1) := by decide +kernel
theorem dX10_read_41 : decode cX10_read 41 = .ok (.iaload, 1) := by decide +kernel
theorem dX10_read_42 : decode cX10_read 42 = .ok (.aload_n 0, 1) := by decide +kernel
theorem dX10_read_43 : decode cX10_read 43 = .ok (.getfield 10, 3) := by decide +kernel
theorem dX10_read_46 : decode cX10_read 46 = .ok (.getfield 87, 3) := by decide +kernel
theorem dX10_read_49 : decode cX10_read 49 = .ok (.isub, 1) := by decide +kernel
theorem dX10_read_50 : decode cX10_read 50 = .ok (.aload_n 0, 1) := by decide +kernel
theorem dX10_read_51 : decode cX10_read 51 = .ok (.getfield 57, 3) := by decide +kernel
theorem dX10_read_54 : decode cX10_read 54 = .ok (.iconst 2, 1) := by decide +kernel
theorem dX10_read_55 : decode cX10_read 55 = .ok (.aload_n 0, 1) := by decide +kernel
theorem dX10_read_56 : decode cX10_read 56 = .ok (.getfield 10, 3) := by decide +kernel
theorem dX10_read_59 : decode cX10_read 59 = .ok (.getfield 87, 3) := by decide +kernel
theorem dX10_read_62 : decode cX10_read 62 = .ok (.imul, 1) := by decide +kernel
theorem dX10_read_63 : decode cX10_read 63 = .ok (.iconst 1, 1) := by decide +kernel
theorem dX10_read_64 : decode cX10_read 64 = .ok (.iadd, 1) := by decide +kernel
theorem dX10_read_65 : decode cX10_read 65 = .ok (.invokevirtual 260, 3) := by decide +kernel
theorem dX10_read_68 : decode cX10_read 68 = .ok (.iadd, 1) := by decide +kernel
theorem dX10_read_69 : decode cX10_read 69 = .ok (.ireturn, 1) := by decide +kernel
theorem dX10_market_0 : decode cX10_market 0 = .ok (.iload_n 1, 1) := by decide +kernel
theorem dX10_market_1 : decode cX10_market 1 = .ok (.iconst 0, 1) := by decide +kernel
theorem dX10_market_2 : decode cX10_market 2 = .ok (.sipush 9999, 3) := by decide +kernel
theorem dX10_market_5 : decode cX10_market 5 = .ok (.invokestatic 61, 3) := by decide +kernel
theorem dX10_market_8 : decode cX10_market 8 = .ok (.ifCond .eq 24, 3) := by decide +kernel
theorem dX10_market_11 : decode cX10_market 11 = .ok (.iload_n 2, 1) := by decide +kernel
theorem dX10_market_12 : decode cX10_market 12 = .ok (.iconst 1, 1) := by decide +kernel
theorem dX10_market_13 : decode cX10_market 13 = .ok (.bipush 99, 2) := by decide +kernel
theorem dX10_market_15 : decode cX10_market 15 = .ok (.invokestatic 61, 3) := by decide +kernel
theorem dX10_market_18 : decode cX10_market 18 = .ok (.ifCond .eq 14, 3) := by decide +kernel
theorem dX10_market_21 : decode cX10_market 21 = .ok (.aload_n 0, 1) := by decide +kernel
theorem dX10_market_22 : decode cX10_market 22 = .ok (.getfield 10, 3) := by decide +kernel
theorem dX10_market_25 : decode cX10_market 25 = .ok (.getfield 65, 3) := by decide +kernel
theorem dX10_market_28 : decode cX10_market 28 = .ok (.iconst 1, 1) := by decide +kernel
theorem dX10_market_29 : decode cX10_market 29 = .ok (.if_icmp .ge 5, 3) := by decide +kernel
theorem dX10_market_32 : decode cX10_market 32 = .ok (.iconst (-1), 1) := by decide +kernel
theorem dX10_market_33 : decode cX10_market 33 = .ok (.ireturn, 1) := by decide +kernel
theorem dX10_market_34 : decode cX10_market 34 = .ok (.aload_n 0, 1) := by decide +kernel
theorem dX10_market_35 : decode cX10_market 35 = .ok (.getfield 57, 3) := by decide +kernel
theorem dX10_market_38 : decode cX10_market 38 = .ok (.iload_n 1, 1) := by decide +kernel
theorem dX10_market_39 : decode cX10_market 39 = .ok (.invokevirtual 257, 3) := by decide +kernel
theorem dX10_market_42 : decode cX10_market 42 = .ok (.iconst 0, 1) := by decide +kernel
theorem dX10_market_43 : decode cX10_market 43 = .ok (.istore_n 3, 1) := by decide +kernel
theorem dX10_market_44 : decode cX10_market 44 = .ok (.iconst 0, 1) := by decide +kernel
theorem dX10_market_45 : decode cX10_market 45 = .ok (.istore 4, 2) := by decide +kernel
theorem dX10_market_47 : decode cX10_market 47 = .ok (.iload 4, 2) := by decide +kernel
theorem dX10_market_49 : decode cX10_market 49 = .ok (.iload_n 2, 1) := by decide +kernel
theorem dX10_market_50 : decode cX10_market 50 = .ok (.if_icmp .ge 122, 3) := by decide +kernel
theorem dX10_market_53 : decode cX10_market 53 = .ok (.aload_n 0, 1) := by decide +kernel
theorem dX10_market_54 : decode cX10_market 54 = .ok (.getfield 57, 3) := by decide +kernel
theorem dX10_market_57 : decode cX10_market 57 = .ok (.aload_n 0, 1) := by decide +kernel
theorem dX10_market_58 : decode cX10_market 58 = .ok (.getfield 10, 3) := by decide +kernel
theorem dX10_market_61 : decode cX10_market 61 = .ok (.getfield 65, 3) := by decide +kernel
theorem dX10_market_64 : decode cX10_market 64 = .ok (.invokevirtual 260, 3) := by decide +kernel
theorem dX10_market_67 : decode cX10_market 67 = .ok (.istore 5, 2) := by decide +kernel
theorem dX10_market_69 : decode cX10_market 69 = .ok (.aload_n 0, 1) := by decide +kernel
theorem dX10_market_70 : decode cX10_market 70 = .ok (.getfield 57, 3) := by decide +kernel
theorem dX10_market_73 : decode cX10_market 73 = .ok (.aload_n 0, 1) := by decide +kernel
theorem dX10_market_74 : decode cX10_market 74 = .ok (.getfield 10, 3) := by decide +kernel
theorem dX10_market_77 : decode cX10_market 77 = .ok (.getfield 65, 3) := by decide +kernel
theorem dX10_market_80 : decode cX10_market 80 = .ok (.invokevirtual 260, 3) := by decide +kernel
theorem dX10_market_83 : decode cX10_market 83 = .ok (.istore 6, 2) := by decide +kernel
theorem dX10_market_85 : decode cX10_market 85 = .ok (.aload_n 0, 1) := by decide +kernel
theorem dX10_market_86 : decode cX10_market 86 = .ok (.getfield 10, 3) := by decide +kernel
theorem dX10_market_89 : decode cX10_market 89 = .ok (.iload 5, 2) := by decide +kernel
theorem dX10_market_91 : decode cX10_market 91 = .ok (.invokevirtual 263, 3) := by decide +kernel
theorem dX10_market_94 : decode cX10_market 94 = .ok (.istore 7, 2) := by decide +kernel
theorem dX10_market_96 : decode cX10_market 96 = .ok (.aload_n 0, 1) := by decide +kernel
theorem dX10_market_97 : decode cX10_market 97 = .ok (.getfield 10, 3) := by decide +kernel
theorem dX10_market_100 : decode cX10_market 100 = .ok (.iload 7, 2) := by decide +kernel
theorem dX10_market_102 : decode cX10_market 102 = .ok (.iload 6, 2) := by decide +kernel
theorem dX10_market_104 : decode cX10_market 104 = .ok (.invokevirtual 133, 3) := by decide +kernel
theorem dX10_market_107 : decode cX10_market 107 = .ok (.ifCond .eq 37, 3) := by decide +kernel
theorem dX10_market_110 : decode cX10_market 110 = .ok (.aload_n 0, 1) := by decide +kernel
theorem dX10_market_111 : decode cX10_market 111 = .ok (.getfield 10, 3) := by decide +kernel
theorem dX10_market_114 : decode cX10_market 114 = .ok (.iload 7, 2) := by decide +kernel
theorem dX10_market_116 : decode cX10_market 116 = .ok (.iload 6, 2) := by decide +kernel
theorem dX10_market_118 : decode cX10_market 118 = .ok (.aload_n 0, 1) := by decide +kernel
theorem dX10_market_119 : decode cX10_market 119 = .ok (.getfield 43, 3) := by decide +kernel
theorem dX10_market_122 : decode cX10_market 122 = .ok (.aload_n 0, 1) := by decide +kernel
theorem dX10_market_123 : decode cX10_market 123 = .ok (.getfield 10, 3) := by decide +kernel
theorem dX10_market_126 : decode cX10_market 126 = .ok (.aload_n 0, 1) := by decide +kernel
theorem dX10_market_127 : decode cX10_market 127 = .ok (.invokevirtual 137, 3) := by decide +kernel
theorem dX10_market_130 : decode cX10_market 130 = .ok (.iload 6, 2) := by decide +kernel
theorem dX10_market_132 : decode cX10_market 132 = .ok (.iload 7, 2) := by decide +kernel
theorem dX10_market_134 : decode cX10_market 134 = .ok (.invokevirtual 140, 3) := by decide +kernel
theorem dX10_market_137 : decode cX10_market 137 = .ok (.invokevirtual 144, 3) := by decide +kernel
theorem dX10_market_140 : decode cX10_market 140 = .ok (.pop, 1) := by decide +kernel
theorem dX10_market_141 : decode cX10_market 141 = .ok (.iinc 3 1, 3) := by decide +kernel
theorem dX10_market_144 : decode cX10_market 144 = .ok (.aload_n 0, 1) := by decide +kernel
theorem dX10_market_145 : decode cX10_market 145 = .ok (.getfield 10, 3) := by decide +kernel
theorem dX10_market_148 : decode cX10_market 148 = .ok (.aload_n 0, 1) := by decide +kernel
theorem dX10_market_149 : decode cX10_market 149 = .ok (.getfield 10, 3) := by decide +kernel
theorem dX10_market_152 : decode cX10_market 152 = .ok (.getfield 93, 3) := by decide +kernel
theorem dX10_market_155 : decode cX10_market 155 = .ok (.iconst 1, 1) := by decide +kernel
theorem dX10_market_156 : decode cX10_market 156 = .ok (.iadd, 1) := by decide +kernel
theorem dX10_market_157 : decode cX10_market 157 = .ok (.sipush 999, 3) := by decide +kernel
theorem dX10_market_160 : decode cX10_market 160 = .ok (.invokestatic 266, 3) := by decide +kernel
theorem dX10_market_163 : decode cX10_market 163 = .ok (.putfield 93, 3) := by decide +kernel
theorem dX10_market_166 : decode cX10_market 166 = .ok (.iinc 4 1, 3) := by decide +kernel
theorem dX10_market_169 : decode cX10_market 169 = .ok (.goto (-122), 3) := by decide +kernel
theorem dX10_market_172 : decode cX10_market 172 = .ok (.iload_n 3, 1) := by decide +kernel
theorem dX10_market_173 : decode cX10_market 173 = .ok (.ireturn, 1) := by decide +kernel
theorem dX10_image_0 : decode cX10_image 0 = .ok (.aload_n 0, 1) := by decide +kernel
theorem dX10_image_1 : decode cX10_image 1 = .ok (.getfield 16, 3) := by decide +kernel
theorem dX10_image_4 : decode cX10_image 4 = .ok (.aload_n 0, 1) := by decide +kernel
theorem dX10_image_5 : decode cX10_image 5 = .ok (.getfield 10, 3) := by decide +kernel
theorem dX10_image_8 : decode cX10_image 8 = .ok (.invokevirtual 271, 3) := by decide +kernel
theorem dX10_image_11 : decode cX10_image 11 = .ok (.aload_n 0, 1) := by decide +kernel
theorem dX10_image_12 : decode cX10_image 12 = .ok (.getfield 10, 3) := by decide +kernel
theorem dX10_image_15 : decode cX10_image 15 = .ok (.getfield 77, 3) := by decide +kernel
theorem dX10_image_18 : decode cX10_image 18 = .ok (.ireturn, 1) := by decide +kernel
theorem dX10_back_0 : decode cX10_back 0 = .ok (.aload_n 0, 1) := by decide +kernel
theorem dX10_back_1 : decode cX10_back 1 = .ok (.getfield 10, 3) := by decide +kernel
theorem dX10_back_4 : decode cX10_back 4 = .ok (.aload_n 0, 1) := by decide +kernel
theorem dX10_back_5 : decode cX10_back 5 = .ok (.getfield 16, 3) := by decide +kernel
theorem dX10_back_8 : decode cX10_back 8 = .ok (.invokevirtual 271, 3) := by decide +kernel
theorem dX10_back_11 : decode cX10_back 11 = .ok (.aload_n 0, 1) := by decide +kernel
theorem dX10_back_12 : decode cX10_back 12 = .ok (.getfield 10, 3) := by decide +kernel
theorem dX10_back_15 : decode cX10_back 15 = .ok (.getfield 77, 3) := by decide +kernel
theorem dX10_back_18 : decode cX10_back 18 = .ok (.ireturn, 1) := by decide +kernel
theorem dX10_about_0 : decode cX10_about 0 = .ok (.iload_n 1, 1) := by decide +kernel
theorem dX10_about_1 : decode cX10_about 1 = .ok (.bipush 10, 2) := by decide +kernel
theorem dX10_about_3 : decode cX10_about 3 = .ok (.bipush 19, 2) := by decide +kernel
theorem dX10_about_5 : decode cX10_about 5 = .ok (.invokestatic 61, 3) := by decide +kernel
theorem dX10_about_8 : decode cX10_about 8 = .ok (.ifCond .eq 35, 3) := by decide +kernel
theorem dX10_about_11 : decode cX10_about 11 = .ok (.aload_n 0, 1) := by decide +kernel
theorem dX10_about_12 : decode cX10_about 12 = .ok (.getfield 10, 3) := by decide +kernel
theorem dX10_about_15 : decode cX10_about 15 = .ok (.iload_n 1, 1) := by decide +kernel
theorem dX10_about_16 : decode cX10_about 16 = .ok (.bipush 10, 2) := by decide +kernel
theorem dX10_about_18 : decode cX10_about 18 = .ok (.isub, 1) := by decide +kernel
theorem dX10_about_19 : decode cX10_about 19 = .ok (.invokevirtual 73, 3) := by decide +kernel
theorem dX10_about_22 : decode cX10_about 22 = .ok (.ifCond .eq 18, 3) := by decide +kernel
theorem dX10_about_25 : decode cX10_about 25 = .ok (.aload_n 0, 1) := by decide +kernel
theorem dX10_about_26 : decode cX10_about 26 = .ok (.getfield 10, 3) := by decide +kernel
theorem dX10_about_29 : decode cX10_about 29 = .ok (.getfield 274, 3) := by decide +kernel
theorem dX10_about_32 : decode cX10_about 32 = .ok (.iload_n 1, 1) := by decide +kernel
theorem dX10_about_33 : decode cX10_about 33 = .ok (.bipush 10, 2) := by decide +kernel
theorem dX10_about_35 : decode cX10_about 35 = .ok (.isub, 1) := by decide +kernel
theorem dX10_about_36 : decode cX10_about 36 = .ok (.iaload, 1) := by decide +kernel
theorem dX10_about_37 : decode cX10_about 37 = .ok (.goto 5, 3) := by decide +kernel
theorem dX10_about_40 : decode cX10_about 40 = .ok (.bipush (-2), 2) := by decide +kernel
theorem dX10_about_42 : decode cX10_about 42 = .ok (.ireturn, 1) := by decide +kernel
theorem dX10_about_43 : decode cX10_about 43 = .ok (.iload_n 1, 1) := by decide +kernel
theorem dX10_about_44 : decode cX10_about 44 = .ok (.bipush 20, 2) := by decide +kernel
theorem dX10_about_46 : decode cX10_about 46 = .ok (.bipush 29, 2) := by decide +kernel
theorem dX10_about_48 : decode cX10_about 48 = .ok (.invokestatic 61, 3) := by decide +kernel
theorem dX10_about_51 : decode cX10_about 51 = .ok (.ifCond .eq 34, 3) := by decide +kernel
theorem dX10_about_54 : decode cX10_about 54 = .ok (.aload_n 0, 1) := by decide +kernel
theorem dX10_about_55 : decode cX10_about 55 = .ok (.getfield 10, 3) := by decide +kernel
theorem dX10_about_58 : decode cX10_about 58 = .ok (.iload_n 1, 1) := by decide +kernel
theorem dX10_about_59 : decode cX10_about 59 = .ok (.bipush 20, 2) := by decide +kernel
theorem dX10_about_61 : decode cX10_about 61 = .ok (.isub, 1) := by decide +kernel
theorem dX10_about_62 : decode cX10_about 62 = .ok (.invokevirtual 73, 3) := by decide +kernel
theorem dX10_about_65 : decode cX10_about 65 = .ok (.ifCond .eq 17, 3) := by decide +kernel
theorem dX10_about_68 : decode cX10_about 68 = .ok (.aload_n 0, 1) := by decide +kernel
theorem dX10_about_69 : decode cX10_about 69 = .ok (.getfield 10, 3) := by decide +kernel
theorem dX10_about_72 : decode cX10_about 72 = .ok (.iload_n 1, 1) := by decide +kernel
theorem dX10_about_73 : decode cX10_about 73 = .ok (.bipush 20, 2) := by decide +kernel
theorem dX10_about_75 : decode cX10_about 75 = .ok (.isub, 1) := by decide +kernel
theorem dX10_about_76 : decode cX10_about 76 = .ok (.invokevirtual 277, 3) := by decide +kernel
theorem dX10_about_79 : decode cX10_about 79 = .ok (.goto 5, 3) := by decide +kernel
theorem dX10_about_82 : decode cX10_about 82 = .ok (.bipush (-2), 2) := by decide +kernel
theorem dX10_about_84 : decode cX10_about 84 = .ok (.ireturn, 1) := by decide +kernel
theorem dX10_about_85 : decode cX10_about 85 = .ok (.iload_n 1, 1) := by decide +kernel
theorem dX10_about_86 : decode cX10_about 86 = .ok (.tableswitch 137 0 9 #[54, 62, 70, 78, 86, 94, 102, 110, 121, 129], 54) := by decide +kernel
theorem dX10_about_140 : decode cX10_about 140 = .ok (.aload_n 0, 1) := by decide +kernel
theorem dX10_about_141 : decode cX10_about 141 = .ok (.getfield 10, 3) := by decide +kernel
theorem dX10_about_144 : decode cX10_about 144 = .ok (.getfield 65, 3) := by decide +kernel
theorem dX10_about_147 : decode cX10_about 147 = .ok (.ireturn, 1) := by decide +kernel
theorem dX10_about_148 : decode cX10_about 148 = .ok (.aload_n 0, 1) := by decide +kernel
theorem dX10_about_149 : decode cX10_about 149 = .ok (.getfield 10, 3) := by decide +kernel
theorem dX10_about_152 : decode cX10_about 152 = .ok (.getfield 77, 3) := by decide +kernel
theorem dX10_about_155 : decode cX10_about 155 = .ok (.ireturn, 1) := by decide +kernel
theorem dX10_about_156 : decode cX10_about 156 = .ok (.aload_n 0, 1) := by decide +kernel
theorem dX10_about_157 : decode cX10_about 157 = .ok (.getfield 10, 3) := by decide +kernel
theorem dX10_about_160 : decode cX10_about 160 = .ok (.getfield 93, 3) := by decide +kernel
theorem dX10_about_163 : decode cX10_about 163 = .ok (.ireturn, 1) := by decide +kernel
theorem dX10_about_164 : decode cX10_about 164 = .ok (.aload_n 0, 1) := by decide +kernel
theorem dX10_about_165 : decode cX10_about 165 = .ok (.getfield 10, 3) := by decide +kernel
theorem dX10_about_168 : decode cX10_about 168 = .ok (.getfield 84, 3) := by decide +kernel
theorem dX10_about_171 : decode cX10_about 171 = .ok (.ireturn, 1) := by decide +kernel
theorem dX10_about_172 : decode cX10_about 172 = .ok (.aload_n 0, 1) := by decide +kernel
theorem dX10_about_173 : decode cX10_about 173 = .ok (.getfield 10, 3) := by decide +kernel
theorem dX10_about_176 : decode cX10_about 176 = .ok (.getfield 87, 3) := by decide +kernel
theorem dX10_about_179 : decode cX10_about 179 = .ok (.ireturn, 1) := by decide +kernel
theorem dX10_about_180 : decode cX10_about 180 = .ok (.aload_n 0, 1) := by decide +kernel
theorem dX10_about_181 : decode cX10_about 181 = .ok (.getfield 10, 3) := by decide +kernel
theorem dX10_about_184 : decode cX10_about 184 = .ok (.getfield 103, 3) := by decide +kernel
theorem dX10_about_187 : decode cX10_about 187 = .ok (.ireturn, 1) := by decide +kernel
theorem dX10_about_188 : decode cX10_about 188 = .ok (.aload_n 0, 1) := by decide +kernel
theorem dX10_about_189 : decode cX10_about 189 = .ok (.getfield 10, 3) := by decide +kernel
theorem dX10_about_192 : decode cX10_about 192 = .ok (.getfield 130, 3) := by decide +kernel
theorem dX10_about_195 : decode cX10_about 195 = .ok (.ireturn, 1) := by decide +kernel
theorem dX10_about_196 : decode cX10_about 196 = .ok (.aload_n 0, 1) := by decide +kernel
theorem dX10_about_197 : decode cX10_about 197 = .ok (.getfield 10, 3) := by decide +kernel
theorem dX10_about_200 : decode cX10_about 200 = .ok (.getfield 280, 3) := by decide +kernel
theorem dX10_about_203 : decode cX10_about 203 = .ok (.getfield 284, 3) := by decide +kernel
theorem dX10_about_206 : decode cX10_about 206 = .ok (.ireturn, 1) := by decide +kernel
theorem dX10_about_207 : decode cX10_about 207 = .ok (.aload_n 0, 1) := by decide +kernel
theorem dX10_about_208 : decode cX10_about 208 = .ok (.getfield 10, 3) := by decide +kernel
theorem dX10_about_211 : decode cX10_about 211 = .ok (.getfield 221, 3) := by decide +kernel
theorem dX10_about_214 : decode cX10_about 214 = .ok (.ireturn, 1) := by decide +kernel
theorem dX10_about_215 : decode cX10_about 215 = .ok (.aload_n 0, 1) := by decide +kernel
theorem dX10_about_216 : decode cX10_about 216 = .ok (.getfield 22, 3) := by decide +kernel
theorem dX10_about_219 : decode cX10_about 219 = .ok (.getfield 96, 3) := by decide +kernel
theorem dX10_about_222 : decode cX10_about 222 = .ok (.ireturn, 1) := by decide +kernel
theorem dX10_about_223 : decode cX10_about 223 = .ok (.bipush (-2), 2) := by decide +kernel
theorem dX10_about_225 : decode cX10_about 225 = .ok (.ireturn, 1) := by decide +kernel
theorem dX10_isWithin_0 : decode cX10_isWithin 0 = .ok (.iload_n 0, 1) := by decide +kernel
theorem dX10_isWithin_1 : decode cX10_isWithin 1 = .ok (.iload_n 1, 1) := by decide +kernel
theorem dX10_isWithin_2 : decode cX10_isWithin 2 = .ok (.if_icmp .lt 12, 3) := by decide +kernel
theorem dX10_isWithin_5 : decode cX10_isWithin 5 = .ok (.iload_n 0, 1) := by decide +kernel
theorem dX10_isWithin_6 : decode cX10_isWithin 6 = .ok (.iload_n 2, 1) := by decide +kernel
theorem dX10_isWithin_7 : decode cX10_isWithin 7 = .ok (.if_icmp .gt 7, 3) := by decide +kernel
theorem dX10_isWithin_10 : decode cX10_isWithin 10 = .ok (.iconst 1, 1) := by decide +kernel
theorem dX10_isWithin_11 : decode cX10_isWithin 11 = .ok (.goto 4, 3) := by decide +kernel
theorem dX10_isWithin_14 : decode cX10_isWithin 14 = .ok (.iconst 0, 1) := by decide +kernel
theorem dX10_isWithin_15 : decode cX10_isWithin 15 = .ok (.ireturn, 1) := by decide +kernel
theorem dX10_areLengths_0 : decode cX10_areLengths 0 = .ok (.iload_n 0, 1) := by decide +kernel
theorem dX10_areLengths_1 : decode cX10_areLengths 1 = .ok (.ifCond .lt 17, 3) := by decide +kernel
theorem dX10_areLengths_4 : decode cX10_areLengths 4 = .ok (.iload_n 0, 1) := by decide +kernel
theorem dX10_areLengths_5 : decode cX10_areLengths 5 = .ok (.iload_n 1, 1) := by decide +kernel
theorem dX10_areLengths_6 : decode cX10_areLengths 6 = .ok (.if_icmp .gt 12, 3) := by decide +kernel
theorem dX10_areLengths_9 : decode cX10_areLengths 9 = .ok (.iload_n 1, 1) := by decide +kernel
theorem dX10_areLengths_10 : decode cX10_areLengths 10 = .ok (.iload_n 2, 1) := by decide +kernel
theorem dX10_areLengths_11 : decode cX10_areLengths 11 = .ok (.if_icmp .gt 7, 3) := by decide +kernel
theorem dX10_areLengths_14 : decode cX10_areLengths 14 = .ok (.iconst 1, 1) := by decide +kernel
theorem dX10_areLengths_15 : decode cX10_areLengths 15 = .ok (.goto 4, 3) := by decide +kernel
theorem dX10_areLengths_18 : decode cX10_areLengths 18 = .ok (.iconst 0, 1) := by decide +kernel
theorem dX10_areLengths_19 : decode cX10_areLengths 19 = .ok (.ireturn, 1) := by decide +kernel
theorem dX10_isRowQuestion_0 : decode cX10_isRowQuestion 0 = .ok (.aload_n 0, 1) := by decide +kernel
theorem dX10_isRowQuestion_1 : decode cX10_isRowQuestion 1 = .ok (.getfield 10, 3) := by decide +kernel
theorem dX10_isRowQuestion_4 : decode cX10_isRowQuestion 4 = .ok (.iload_n 1, 1) := by decide +kernel
theorem dX10_isRowQuestion_5 : decode cX10_isRowQuestion 5 = .ok (.invokevirtual 73, 3) := by decide +kernel
theorem dX10_isRowQuestion_8 : decode cX10_isRowQuestion 8 = .ok (.ifCond .eq 29, 3) := by decide +kernel
theorem dX10_isRowQuestion_11 : decode cX10_isRowQuestion 11 = .ok (.iload_n 2, 1) := by decide +kernel
theorem dX10_isRowQuestion_12 : decode cX10_isRowQuestion 12 = .ok (.iconst 0, 1) := by decide +kernel
theorem dX10_isRowQuestion_13 : decode cX10_isRowQuestion 13 = .ok (.sipush 999, 3) := by decide +kernel
theorem dX10_isRowQuestion_16 : decode cX10_isRowQuestion 16 = .ok (.invokestatic 61, 3) := by decide +kernel
theorem dX10_isRowQuestion_19 : decode cX10_isRowQuestion 19 = .ok (.ifCond .eq 18, 3) := by decide +kernel
theorem dX10_isRowQuestion_22 : decode cX10_isRowQuestion 22 = .ok (.iload_n 3, 1) := by decide +kernel
theorem dX10_isRowQuestion_23 : decode cX10_isRowQuestion 23 = .ok (.iload 4, 2) := by decide +kernel
theorem dX10_isRowQuestion_25 : decode cX10_isRowQuestion 25 = .ok (.bipush 12, 2) := by decide +kernel
theorem dX10_isRowQuestion_27 : decode cX10_isRowQuestion 27 = .ok (.invokestatic 227, 3) := by decide +kernel
theorem dX10_isRowQuestion_30 : decode cX10_isRowQuestion 30 = .ok (.ifCond .eq 7, 3) := by decide +kernel
theorem dX10_isRowQuestion_33 : decode cX10_isRowQuestion 33 = .ok (.iconst 1, 1) := by decide +kernel
theorem dX10_isRowQuestion_34 : decode cX10_isRowQuestion 34 = .ok (.goto 4, 3) := by decide +kernel
theorem dX10_isRowQuestion_37 : decode cX10_isRowQuestion 37 = .ok (.iconst 0, 1) := by decide +kernel
theorem dX10_isRowQuestion_38 : decode cX10_isRowQuestion 38 = .ok (.ireturn, 1) := by decide +kernel
theorem dX10_ruling_0 : decode cX10_ruling 0 = .ok (.aload_n 0, 1) := by decide +kernel
theorem dX10_ruling_1 : decode cX10_ruling 1 = .ok (.getfield 10, 3) := by decide +kernel
theorem dX10_ruling_4 : decode cX10_ruling 4 = .ok (.aload_n 0, 1) := by decide +kernel
theorem dX10_ruling_5 : decode cX10_ruling 5 = .ok (.getfield 10, 3) := by decide +kernel
theorem dX10_ruling_8 : decode cX10_ruling 8 = .ok (.getfield 130, 3) := by decide +kernel
theorem dX10_ruling_11 : decode cX10_ruling 11 = .ok (.invokevirtual 127, 3) := by decide +kernel
theorem dX10_ruling_14 : decode cX10_ruling 14 = .ok (.ifCond .eq 18, 3) := by decide +kernel
theorem dX10_ruling_17 : decode cX10_ruling 17 = .ok (.aload_n 0, 1) := by decide +kernel
theorem dX10_ruling_18 : decode cX10_ruling 18 = .ok (.getfield 35, 3) := by decide +kernel
theorem dX10_ruling_21 : decode cX10_ruling 21 = .ok (.aload_n 0, 1) := by decide +kernel
theorem dX10_ruling_22 : decode cX10_ruling 22 = .ok (.getfield 10, 3) := by decide +kernel
theorem dX10_ruling_25 : decode cX10_ruling 25 = .ok (.getfield 130, 3) := by decide +kernel
theorem dX10_ruling_28 : decode cX10_ruling 28 = .ok (.aaload, 1) := by decide +kernel
theorem dX10_ruling_29 : decode cX10_ruling 29 = .ok (.goto 4, 3) := by decide +kernel
theorem dX10_ruling_32 : decode cX10_ruling 32 = .ok (.aconst_null, 1) := by decide +kernel
theorem dX10_ruling_33 : decode cX10_ruling 33 = .ok (.areturn, 1) := by decide +kernel
theorem dX10_isDone_0 : decode cX10_isDone 0 = .ok (.iload_n 1, 1) := by decide +kernel
theorem dX10_isDone_1 : decode cX10_isDone 1 = .ok (.tableswitch 67 6 8 #[27, 43, 58], 27) := by decide +kernel
theorem dX10_isDone_28 : decode cX10_isDone 28 = .ok (.aload_n 0, 1) := by decide +kernel
theorem dX10_isDone_29 : decode cX10_isDone 29 = .ok (.iload_n 2, 1) := by decide +kernel
theorem dX10_isDone_30 : decode cX10_isDone 30 = .ok (.iload_n 3, 1) := by decide +kernel
theorem dX10_isDone_31 : decode cX10_isDone 31 = .ok (.invokevirtual 289, 3) := by decide +kernel
theorem dX10_isDone_34 : decode cX10_isDone 34 = .ok (.iconst (-1), 1) := by decide +kernel
theorem dX10_isDone_35 : decode cX10_isDone 35 = .ok (.if_icmp .eq 7, 3) := by decide +kernel
theorem dX10_isDone_38 : decode cX10_isDone 38 = .ok (.iconst 1, 1) := by decide +kernel
theorem dX10_isDone_39 : decode cX10_isDone 39 = .ok (.goto 4, 3) := by decide +kernel
theorem dX10_isDone_42 : decode cX10_isDone 42 = .ok (.iconst 0, 1) := by decide +kernel
theorem dX10_isDone_43 : decode cX10_isDone 43 = .ok (.ireturn, 1) := by decide +kernel
theorem dX10_isDone_44 : decode cX10_isDone 44 = .ok (.aload_n 0, 1) := by decide +kernel
theorem dX10_isDone_45 : decode cX10_isDone 45 = .ok (.iload_n 2, 1) := by decide +kernel
theorem dX10_isDone_46 : decode cX10_isDone 46 = .ok (.invokevirtual 292, 3) := by decide +kernel
theorem dX10_isDone_49 : decode cX10_isDone 49 = .ok (.iconst (-1), 1) := by decide +kernel
theorem dX10_isDone_50 : decode cX10_isDone 50 = .ok (.if_icmp .eq 7, 3) := by decide +kernel
theorem dX10_isDone_53 : decode cX10_isDone 53 = .ok (.iconst 1, 1) := by decide +kernel
theorem dX10_isDone_54 : decode cX10_isDone 54 = .ok (.goto 4, 3) := by decide +kernel
theorem dX10_isDone_57 : decode cX10_isDone 57 = .ok (.iconst 0, 1) := by decide +kernel
theorem dX10_isDone_58 : decode cX10_isDone 58 = .ok (.ireturn, 1) := by decide +kernel
theorem dX10_isDone_59 : decode cX10_isDone 59 = .ok (.aload_n 0, 1) := by decide +kernel
theorem dX10_isDone_60 : decode cX10_isDone 60 = .ok (.getfield 10, 3) := by decide +kernel
theorem dX10_isDone_63 : decode cX10_isDone 63 = .ok (.iload_n 2, 1) := by decide +kernel
theorem dX10_isDone_64 : decode cX10_isDone 64 = .ok (.invokevirtual 90, 3) := by decide +kernel
theorem dX10_isDone_67 : decode cX10_isDone 67 = .ok (.ireturn, 1) := by decide +kernel
theorem dX10_isDone_68 : decode cX10_isDone 68 = .ok (.iconst 1, 1) := by decide +kernel
theorem dX10_isDone_69 : decode cX10_isDone 69 = .ok (.ireturn, 1) := by decide +kernel
theorem dX10_mustBeWashed_0 : decode cX10_mustBeWashed 0 = .ok (.aload_n 0, 1) := by decide +kernel
theorem dX10_mustBeWashed_1 : decode cX10_mustBeWashed 1 = .ok (.getfield 10, 3) := by decide +kernel
theorem dX10_mustBeWashed_4 : decode cX10_mustBeWashed 4 = .ok (.getfield 180, 3) := by decide +kernel
theorem dX10_mustBeWashed_7 : decode cX10_mustBeWashed 7 = .ok (.iload_n 1, 1) := by decide +kernel
theorem dX10_mustBeWashed_8 : decode cX10_mustBeWashed 8 = .ok (.iaload, 1) := by decide +kernel
theorem dX10_mustBeWashed_9 : decode cX10_mustBeWashed 9 = .ok (.istore_n 2, 1) := by decide +kernel
theorem dX10_mustBeWashed_10 : decode cX10_mustBeWashed 10 = .ok (.iload_n 2, 1) := by decide +kernel
theorem dX10_mustBeWashed_11 : decode cX10_mustBeWashed 11 = .ok (.bipush 12, 2) := by decide +kernel
theorem dX10_mustBeWashed_13 : decode cX10_mustBeWashed 13 = .ok (.if_icmp .le 5, 3) := by decide +kernel
theorem dX10_mustBeWashed_16 : decode cX10_mustBeWashed 16 = .ok (.iconst (-1), 1) := by decide +kernel
theorem dX10_mustBeWashed_17 : decode cX10_mustBeWashed 17 = .ok (.ireturn, 1) := by decide +kernel
theorem dX10_mustBeWashed_18 : decode cX10_mustBeWashed 18 = .ok (.aload_n 0, 1) := by decide +kernel
theorem dX10_mustBeWashed_19 : decode cX10_mustBeWashed 19 = .ok (.invokevirtual 198, 3) := by decide +kernel
theorem dX10_mustBeWashed_22 : decode cX10_mustBeWashed 22 = .ok (.astore_n 3, 1) := by decide +kernel
theorem dX10_mustBeWashed_23 : decode cX10_mustBeWashed 23 = .ok (.aload_n 0, 1) := by decide +kernel
theorem dX10_mustBeWashed_24 : decode cX10_mustBeWashed 24 = .ok (.getfield 10, 3) := by decide +kernel
theorem dX10_mustBeWashed_27 : decode cX10_mustBeWashed 27 = .ok (.getfield 174, 3) := by decide +kernel
theorem dX10_mustBeWashed_30 : decode cX10_mustBeWashed 30 = .ok (.iload_n 1, 1) := by decide +kernel
theorem dX10_mustBeWashed_31 : decode cX10_mustBeWashed 31 = .ok (.iaload, 1) := by decide +kernel
theorem dX10_mustBeWashed_32 : decode cX10_mustBeWashed 32 = .ok (.aload_n 0, 1) := by decide +kernel
theorem dX10_mustBeWashed_33 : decode cX10_mustBeWashed 33 = .ok (.getfield 10, 3) := by decide +kernel
theorem dX10_mustBeWashed_36 : decode cX10_mustBeWashed 36 = .ok (.getfield 183, 3) := by decide +kernel
theorem dX10_mustBeWashed_39 : decode cX10_mustBeWashed 39 = .ok (.iload_n 1, 1) := by decide +kernel
theorem dX10_mustBeWashed_40 : decode cX10_mustBeWashed 40 = .ok (.iaload, 1) := by decide +kernel
theorem dX10_mustBeWashed_41 : decode cX10_mustBeWashed 41 = .ok (.isub, 1) := by decide +kernel
theorem dX10_mustBeWashed_42 : decode cX10_mustBeWashed 42 = .ok (.istore 4, 2) := by decide +kernel
theorem dX10_mustBeWashed_44 : decode cX10_mustBeWashed 44 = .ok (.iconst 0, 1) := by decide +kernel
theorem dX10_mustBeWashed_45 : decode cX10_mustBeWashed 45 = .ok (.istore 5, 2) := by decide +kernel
theorem dX10_mustBeWashed_47 : decode cX10_mustBeWashed 47 = .ok (.iload 5, 2) := by decide +kernel
theorem dX10_mustBeWashed_49 : decode cX10_mustBeWashed 49 = .ok (.aload_n 0, 1) := by decide +kernel
theorem dX10_mustBeWashed_50 : decode cX10_mustBeWashed 50 = .ok (.getfield 10, 3) := by decide +kernel
theorem dX10_mustBeWashed_53 : decode cX10_mustBeWashed 53 = .ok (.getfield 65, 3) := by decide +kernel
theorem dX10_mustBeWashed_56 : decode cX10_mustBeWashed 56 = .ok (.if_icmp .ge 33, 3) := by decide +kernel
theorem dX10_mustBeWashed_59 : decode cX10_mustBeWashed 59 = .ok (.aload_n 3, 1) := by decide +kernel
theorem dX10_mustBeWashed_60 : decode cX10_mustBeWashed 60 = .ok (.iload 5, 2) := by decide +kernel
theorem dX10_mustBeWashed_62 : decode cX10_mustBeWashed 62 = .ok (.iload 4, 2) := by decide +kernel
theorem dX10_mustBeWashed_64 : decode cX10_mustBeWashed 64 = .ok (.aload_n 0, 1) := by decide +kernel
theorem dX10_mustBeWashed_65 : decode cX10_mustBeWashed 65 = .ok (.getfield 10, 3) := by decide +kernel
theorem dX10_mustBeWashed_68 : decode cX10_mustBeWashed 68 = .ok (.getfield 87, 3) := by decide +kernel
theorem dX10_mustBeWashed_71 : decode cX10_mustBeWashed 71 = .ok (.iload_n 2, 1) := by decide +kernel
theorem dX10_mustBeWashed_72 : decode cX10_mustBeWashed 72 = .ok (.iload_n 2, 1) := by decide +kernel
theorem dX10_mustBeWashed_73 : decode cX10_mustBeWashed 73 = .ok (.invokevirtual 202, 3) := by decide +kernel
theorem dX10_mustBeWashed_76 : decode cX10_mustBeWashed 76 = .ok (.lconst 0, 1) := by decide +kernel
theorem dX10_mustBeWashed_77 : decode cX10_mustBeWashed 77 = .ok (.lcmp, 1) := by decide +kernel
theorem dX10_mustBeWashed_78 : decode cX10_mustBeWashed 78 = .ok (.ifCond .le 5, 3) := by decide +kernel
theorem dX10_mustBeWashed_81 : decode cX10_mustBeWashed 81 = .ok (.iconst 0, 1) := by decide +kernel
theorem dX10_mustBeWashed_82 : decode cX10_mustBeWashed 82 = .ok (.ireturn, 1) := by decide +kernel
theorem dX10_mustBeWashed_83 : decode cX10_mustBeWashed 83 = .ok (.iinc 5 1, 3) := by decide +kernel
theorem dX10_mustBeWashed_86 : decode cX10_mustBeWashed 86 = .ok (.goto (-39), 3) := by decide +kernel
theorem dX10_mustBeWashed_89 : decode cX10_mustBeWashed 89 = .ok (.iconst 1, 1) := by decide +kernel
theorem dX10_mustBeWashed_90 : decode cX10_mustBeWashed 90 = .ok (.ireturn, 1) := by decide +kernel
theorem dX10_onlyOne_0 : decode cX10_onlyOne 0 = .ok (.iconst (-1), 1) := by decide +kernel
theorem dX10_onlyOne_1 : decode cX10_onlyOne 1 = .ok (.istore_n 1, 1) := by decide +kernel
theorem dX10_onlyOne_2 : decode cX10_onlyOne 2 = .ok (.iconst 0, 1) := by decide +kernel
theorem dX10_onlyOne_3 : decode cX10_onlyOne 3 = .ok (.istore_n 2, 1) := by decide +kernel
theorem dX10_onlyOne_4 : decode cX10_onlyOne 4 = .ok (.iload_n 2, 1) := by decide +kernel
theorem dX10_onlyOne_5 : decode cX10_onlyOne 5 = .ok (.bipush 10, 2) := by decide +kernel
theorem dX10_onlyOne_7 : decode cX10_onlyOne 7 = .ok (.if_icmp .ge 27, 3) := by decide +kernel
theorem dX10_onlyOne_10 : decode cX10_onlyOne 10 = .ok (.iload_n 0, 1) := by decide +kernel
theorem dX10_onlyOne_11 : decode cX10_onlyOne 11 = .ok (.iload_n 2, 1) := by decide +kernel
theorem dX10_onlyOne_12 : decode cX10_onlyOne 12 = .ok (.ishr, 1) := by decide +kernel
theorem dX10_onlyOne_13 : decode cX10_onlyOne 13 = .ok (.iconst 1, 1) := by decide +kernel
theorem dX10_onlyOne_14 : decode cX10_onlyOne 14 = .ok (.iand, 1) := by decide +kernel
theorem dX10_onlyOne_15 : decode cX10_onlyOne 15 = .ok (.iconst 1, 1) := by decide +kernel
theorem dX10_onlyOne_16 : decode cX10_onlyOne 16 = .ok (.if_icmp .ne 12, 3) := by decide +kernel
theorem dX10_onlyOne_19 : decode cX10_onlyOne 19 = .ok (.iload_n 1, 1) := by decide +kernel
theorem dX10_onlyOne_20 : decode cX10_onlyOne 20 = .ok (.iconst (-1), 1) := by decide +kernel
theorem dX10_onlyOne_21 : decode cX10_onlyOne 21 = .ok (.if_icmp .eq 5, 3) := by decide +kernel
theorem dX10_onlyOne_24 : decode cX10_onlyOne 24 = .ok (.iconst (-1), 1) := by decide +kernel
theorem dX10_onlyOne_25 : decode cX10_onlyOne 25 = .ok (.ireturn, 1) := by decide +kernel
theorem dX10_onlyOne_26 : decode cX10_onlyOne 26 = .ok (.iload_n 2, 1) := by decide +kernel
theorem dX10_onlyOne_27 : decode cX10_onlyOne 27 = .ok (.istore_n 1, 1) := by decide +kernel
theorem dX10_onlyOne_28 : decode cX10_onlyOne 28 = .ok (.iinc 2 1, 3) := by decide +kernel
theorem dX10_onlyOne_31 : decode cX10_onlyOne 31 = .ok (.goto (-27), 3) := by decide +kernel
theorem dX10_onlyOne_34 : decode cX10_onlyOne 34 = .ok (.iload_n 1, 1) := by decide +kernel
theorem dX10_onlyOne_35 : decode cX10_onlyOne 35 = .ok (.ireturn, 1) := by decide +kernel
theorem dX10_tableOfAll_0 : decode cX10_tableOfAll 0 = .ok (.aload_n 0, 1) := by decide +kernel
theorem dX10_tableOfAll_1 : decode cX10_tableOfAll 1 = .ok (.getfield 295, 3) := by decide +kernel
theorem dX10_tableOfAll_4 : decode cX10_tableOfAll 4 = .ok (.astore_n 1, 1) := by decide +kernel
theorem dX10_tableOfAll_5 : decode cX10_tableOfAll 5 = .ok (.aload_n 1, 1) := by decide +kernel
theorem dX10_tableOfAll_6 : decode cX10_tableOfAll 6 = .ok (.ifnonnull 18, 3) := by decide +kernel
theorem dX10_tableOfAll_9 : decode cX10_tableOfAll 9 = .ok (.new 203, 3) := by decide +kernel
theorem dX10_tableOfAll_12 : decode cX10_tableOfAll 12 = .ok (.dup, 1) := by decide +kernel
theorem dX10_tableOfAll_13 : decode cX10_tableOfAll 13 = .ok (.bipush 12, 2) := by decide +kernel
theorem dX10_tableOfAll_15 : decode cX10_tableOfAll 15 = .ok (.invokespecial 299, 3) := by decide +kernel
theorem dX10_tableOfAll_18 : decode cX10_tableOfAll 18 = .ok (.astore_n 1, 1) := by decide +kernel
theorem dX10_tableOfAll_19 : decode cX10_tableOfAll 19 = .ok (.aload_n 0, 1) := by decide +kernel
theorem dX10_tableOfAll_20 : decode cX10_tableOfAll 20 = .ok (.aload_n 1, 1) := by decide +kernel
theorem dX10_tableOfAll_21 : decode cX10_tableOfAll 21 = .ok (.putfield 295, 3) := by decide +kernel
theorem dX10_tableOfAll_24 : decode cX10_tableOfAll 24 = .ok (.aload_n 1, 1) := by decide +kernel
theorem dX10_tableOfAll_25 : decode cX10_tableOfAll 25 = .ok (.aload_n 0, 1) := by decide +kernel
theorem dX10_tableOfAll_26 : decode cX10_tableOfAll 26 = .ok (.getfield 10, 3) := by decide +kernel
theorem dX10_tableOfAll_29 : decode cX10_tableOfAll 29 = .ok (.iconst (-1), 1) := by decide +kernel
theorem dX10_tableOfAll_30 : decode cX10_tableOfAll 30 = .ok (.invokevirtual 301, 3) := by decide +kernel
theorem dX10_tableOfAll_33 : decode cX10_tableOfAll 33 = .ok (.aload_n 1, 1) := by decide +kernel
theorem dX10_tableOfAll_34 : decode cX10_tableOfAll 34 = .ok (.areturn, 1) := by decide +kernel
theorem dX10_tableWithout_0 : decode cX10_tableWithout 0 = .ok (.aload_n 0, 1) := by decide +kernel
theorem dX10_tableWithout_1 : decode cX10_tableWithout 1 = .ok (.getfield 305, 3) := by decide +kernel
theorem dX10_tableWithout_4 : decode cX10_tableWithout 4 = .ok (.astore_n 2, 1) := by decide +kernel
theorem dX10_tableWithout_5 : decode cX10_tableWithout 5 = .ok (.aload_n 2, 1) := by decide +kernel
theorem dX10_tableWithout_6 : decode cX10_tableWithout 6 = .ok (.ifnonnull 17, 3) := by decide +kernel
theorem dX10_tableWithout_9 : decode cX10_tableWithout 9 = .ok (.new 203, 3) := by decide +kernel
theorem dX10_tableWithout_12 : decode cX10_tableWithout 12 = .ok (.dup, 1) := by decide +kernel
theorem dX10_tableWithout_13 : decode cX10_tableWithout 13 = .ok (.iconst 4, 1) := by decide +kernel
theorem dX10_tableWithout_14 : decode cX10_tableWithout 14 = .ok (.invokespecial 299, 3) := by decide +kernel
theorem dX10_tableWithout_17 : decode cX10_tableWithout 17 = .ok (.astore_n 2, 1) := by decide +kernel
theorem dX10_tableWithout_18 : decode cX10_tableWithout 18 = .ok (.aload_n 0, 1) := by decide +kernel
theorem dX10_tableWithout_19 : decode cX10_tableWithout 19 = .ok (.aload_n 2, 1) := by decide +kernel
theorem dX10_tableWithout_20 : decode cX10_tableWithout 20 = .ok (.putfield 305, 3) := by decide +kernel
theorem dX10_tableWithout_23 : decode cX10_tableWithout 23 = .ok (.aload_n 2, 1) := by decide +kernel
theorem dX10_tableWithout_24 : decode cX10_tableWithout 24 = .ok (.aload_n 0, 1) := by decide +kernel
theorem dX10_tableWithout_25 : decode cX10_tableWithout 25 = .ok (.getfield 10, 3) := by decide +kernel
theorem dX10_tableWithout_28 : decode cX10_tableWithout 28 = .ok (.iload_n 1, 1) := by decide +kernel
theorem dX10_tableWithout_29 : decode cX10_tableWithout 29 = .ok (.invokevirtual 301, 3) := by decide +kernel
theorem dX10_tableWithout_32 : decode cX10_tableWithout 32 = .ok (.aload_n 2, 1) := by decide +kernel
theorem dX10_tableWithout_33 : decode cX10_tableWithout 33 = .ok (.areturn, 1) := by decide +kernel
theorem dX10_commonDivisor_0 : decode cX10_commonDivisor 0 = .ok (.lload_n 0, 1) := by decide +kernel
theorem dX10_commonDivisor_1 : decode cX10_commonDivisor 1 = .ok (.lstore 4, 2) := by decide +kernel
theorem dX10_commonDivisor_3 : decode cX10_commonDivisor 3 = .ok (.lload_n 2, 1) := by decide +kernel
theorem dX10_commonDivisor_4 : decode cX10_commonDivisor 4 = .ok (.lstore 6, 2) := by decide +kernel
theorem dX10_commonDivisor_6 : decode cX10_commonDivisor 6 = .ok (.iconst 0, 1) := by decide +kernel
theorem dX10_commonDivisor_7 : decode cX10_commonDivisor 7 = .ok (.istore 8, 2) := by decide +kernel
theorem dX10_commonDivisor_9 : decode cX10_commonDivisor 9 = .ok (.iload 8, 2) := by decide +kernel
theorem dX10_commonDivisor_11 : decode cX10_commonDivisor 11 = .ok (.sipush 200, 3) := by decide +kernel
theorem dX10_commonDivisor_14 : decode cX10_commonDivisor 14 = .ok (.if_icmp .ge 31, 3) := by decide +kernel
theorem dX10_commonDivisor_17 : decode cX10_commonDivisor 17 = .ok (.lload 6, 2) := by decide +kernel
theorem dX10_commonDivisor_19 : decode cX10_commonDivisor 19 = .ok (.lconst 0, 1) := by decide +kernel
theorem dX10_commonDivisor_20 : decode cX10_commonDivisor 20 = .ok (.lcmp, 1) := by decide +kernel
theorem dX10_commonDivisor_21 : decode cX10_commonDivisor 21 = .ok (.ifCond .eq 24, 3) := by decide +kernel
theorem dX10_commonDivisor_24 : decode cX10_commonDivisor 24 = .ok (.lload 4, 2) := by decide +kernel
theorem dX10_commonDivisor_26 : decode cX10_commonDivisor 26 = .ok (.lload 6, 2) := by decide +kernel
theorem dX10_commonDivisor_28 : decode cX10_commonDivisor 28 = .ok (.lrem, 1) := by decide +kernel
theorem dX10_commonDivisor_29 : decode cX10_commonDivisor 29 = .ok (.lstore 9, 2) := by decide +kernel
theorem dX10_commonDivisor_31 : decode cX10_commonDivisor 31 = .ok (.lload 6, 2) := by decide +kernel
theorem dX10_commonDivisor_33 : decode cX10_commonDivisor 33 = .ok (.lstore 4, 2) := by decide +kernel
theorem dX10_commonDivisor_35 : decode cX10_commonDivisor 35 = .ok (.lload 9, 2) := by decide +kernel
theorem dX10_commonDivisor_37 : decode cX10_commonDivisor 37 = .ok (.lstore 6, 2) := by decide +kernel
theorem dX10_commonDivisor_39 : decode cX10_commonDivisor 39 = .ok (.iinc 8 1, 3) := by decide +kernel
theorem dX10_commonDivisor_42 : decode cX10_commonDivisor 42 = .ok (.goto (-33), 3) := by decide +kernel
theorem dX10_commonDivisor_45 : decode cX10_commonDivisor 45 = .ok (.lload 4, 2) := by decide +kernel
theorem dX10_commonDivisor_47 : decode cX10_commonDivisor 47 = .ok (.lreturn, 1) := by decide +kernel
theorem dX11_init_0 : decode cX11_init 0 = .ok (.aload_n 0, 1) := by decide +kernel
theorem dX11_init_1 : decode cX11_init 1 = .ok (.invokespecial 1, 3) := by decide +kernel
theorem dX11_init_4 : decode cX11_init 4 = .ok (.aload_n 0, 1) := by decide +kernel
theorem dX11_init_5 : decode cX11_init 5 = .ok (.sipush 288, 3) := by decide +kernel
theorem dX11_init_8 : decode cX11_init 8 = .ok (.newarray .int, 2) := by decide +kernel
theorem dX11_init_10 : decode cX11_init 10 = .ok (.putfield 7, 3) := by decide +kernel
theorem dX11_init_13 : decode cX11_init 13 = .ok (.aload_n 0, 1) := by decide +kernel
theorem dX11_init_14 : decode cX11_init 14 = .ok (.sipush 288, 3) := by decide +kernel
theorem dX11_init_17 : decode cX11_init 17 = .ok (.newarray .int, 2) := by decide +kernel
theorem dX11_init_19 : decode cX11_init 19 = .ok (.putfield 13, 3) := by decide +kernel
theorem dX11_init_22 : decode cX11_init 22 = .ok (.aload_n 0, 1) := by decide +kernel
theorem dX11_init_23 : decode cX11_init 23 = .ok (.sipush 300, 3) := by decide +kernel
theorem dX11_init_26 : decode cX11_init 26 = .ok (.newarray .byte, 2) := by decide +kernel
theorem dX11_init_28 : decode cX11_init 28 = .ok (.putfield 16, 3) := by decide +kernel
theorem dX11_init_31 : decode cX11_init 31 = .ok (.aload_n 0, 1) := by decide +kernel
theorem dX11_init_32 : decode cX11_init 32 = .ok (.iconst (-1), 1) := by decide +kernel
theorem dX11_init_33 : decode cX11_init 33 = .ok (.putfield 20, 3) := by decide +kernel
theorem dX11_init_36 : decode cX11_init 36 = .ok (.aload_n 0, 1) := by decide +kernel
theorem dX11_init_37 : decode cX11_init 37 = .ok (.iconst (-1), 1) := by decide +kernel
theorem dX11_init_38 : decode cX11_init 38 = .ok (.putfield 24, 3) := by decide +kernel
theorem dX11_init_41 : decode cX11_init 41 = .ok (.aload_n 0, 1) := by decide +kernel
theorem dX11_init_42 : decode cX11_init 42 = .ok (.iconst 4, 1) := by decide +kernel
theorem dX11_init_43 : decode cX11_init 43 = .ok (.newarray .int, 2) := by decide +kernel
theorem dX11_init_45 : decode cX11_init 45 = .ok (.putfield 27, 3) := by decide +kernel
theorem dX11_init_48 : decode cX11_init 48 = .ok (.aload_n 0, 1) := by decide +kernel
theorem dX11_init_49 : decode cX11_init 49 = .ok (.bipush 80, 2) := by decide +kernel
theorem dX11_init_51 : decode cX11_init 51 = .ok (.newarray .int, 2) := by decide +kernel
theorem dX11_init_53 : decode cX11_init 53 = .ok (.putfield 30, 3) := by decide +kernel
theorem dX11_init_56 : decode cX11_init 56 = .ok (.aload_n 0, 1) := by decide +kernel
theorem dX11_init_57 : decode cX11_init 57 = .ok (.bipush 80, 2) := by decide +kernel
theorem dX11_init_59 : decode cX11_init 59 = .ok (.newarray .int, 2) := by decide +kernel
theorem dX11_init_61 : decode cX11_init 61 = .ok (.putfield 33, 3) := by decide +kernel
theorem dX11_init_64 : decode cX11_init 64 = .ok (.aload_n 0, 1) := by decide +kernel
theorem dX11_init_65 : decode cX11_init 65 = .ok (.bipush 80, 2) := by decide +kernel
theorem dX11_init_67 : decode cX11_init 67 = .ok (.newarray .int, 2) := by decide +kernel
theorem dX11_init_69 : decode cX11_init 69 = .ok (.putfield 36, 3) := by decide +kernel
theorem dX11_init_72 : decode cX11_init 72 = .ok (.aload_n 0, 1) := by decide +kernel
theorem dX11_init_73 : decode cX11_init 73 = .ok (.bipush 80, 2) := by decide +kernel
theorem dX11_init_75 : decode cX11_init 75 = .ok (.newarray .int, 2) := by decide +kernel
theorem dX11_init_77 : decode cX11_init 77 = .ok (.putfield 39, 3) := by decide +kernel
theorem dX11_init_80 : decode cX11_init 80 = .ok (.aload_n 0, 1) := by decide +kernel
theorem dX11_init_81 : decode cX11_init 81 = .ok (.sipush 1600, 3) := by decide +kernel
theorem dX11_init_84 : decode cX11_init 84 = .ok (.newarray .int, 2) := by decide +kernel
theorem dX11_init_86 : decode cX11_init 86 = .ok (.putfield 42, 3) := by decide +kernel
theorem dX11_init_89 : decode cX11_init 89 = .ok (.aload_n 0, 1) := by decide +kernel
theorem dX11_init_90 : decode cX11_init 90 = .ok (.sipush 1600, 3) := by decide +kernel
theorem dX11_init_93 : decode cX11_init 93 = .ok (.newarray .int, 2) := by decide +kernel
theorem dX11_init_95 : decode cX11_init 95 = .ok (.putfield 45, 3) := by decide +kernel
theorem dX11_init_98 : decode cX11_init 98 = .ok (.aload_n 0, 1) := by decide +kernel
theorem dX11_init_99 : decode cX11_init 99 = .ok (.bipush 40, 2) := by decide +kernel
theorem dX11_init_101 : decode cX11_init 101 = .ok (.newarray .int, 2) := by decide +kernel
theorem dX11_init_103 : decode cX11_init 103 = .ok (.putfield 48, 3) := by decide +kernel
theorem dX11_init_106 : decode cX11_init 106 = .ok (.aload_n 0, 1) := by decide +kernel
theorem dX11_init_107 : decode cX11_init 107 = .ok (.bipush 41, 2) := by decide +kernel
theorem dX11_init_109 : decode cX11_init 109 = .ok (.newarray .int, 2) := by decide +kernel
theorem dX11_init_111 : decode cX11_init 111 = .ok (.putfield 51, 3) := by decide +kernel
theorem dX11_init_114 : decode cX11_init 114 = .ok (.aload_n 0, 1) := by decide +kernel
theorem dX11_init_115 : decode cX11_init 115 = .ok (.bipush 80, 2) := by decide +kernel
theorem dX11_init_117 : decode cX11_init 117 = .ok (.newarray .int, 2) := by decide +kernel
theorem dX11_init_119 : decode cX11_init 119 = .ok (.putfield 54, 3) := by decide +kernel
theorem dX11_init_122 : decode cX11_init 122 = .ok (.aload_n 0, 1) := by decide +kernel
theorem dX11_init_123 : decode cX11_init 123 = .ok (.bipush 80, 2) := by decide +kernel
theorem dX11_init_125 : decode cX11_init 125 = .ok (.newarray .int, 2) := by decide +kernel
theorem dX11_init_127 : decode cX11_init 127 = .ok (.putfield 57, 3) := by decide +kernel
theorem dX11_init_130 : decode cX11_init 130 = .ok (.aload_n 0, 1) := by decide +kernel
theorem dX11_init_131 : decode cX11_init 131 = .ok (.bipush 20, 2) := by decide +kernel
theorem dX11_init_133 : decode cX11_init 133 = .ok (.newarray .int, 2) := by decide +kernel
theorem dX11_init_135 : decode cX11_init 135 = .ok (.putfield 60, 3) := by decide +kernel
theorem dX11_init_138 : decode cX11_init 138 = .ok (.aload_n 0, 1) := by decide +kernel
theorem dX11_init_139 : decode cX11_init 139 = .ok (.bipush 20, 2) := by decide +kernel
theorem dX11_init_141 : decode cX11_init 141 = .ok (.newarray .int, 2) := by decide +kernel
theorem dX11_init_143 : decode cX11_init 143 = .ok (.putfield 63, 3) := by decide +kernel
theorem dX11_init_146 : decode cX11_init 146 = .ok (.aload_n 0, 1) := by decide +kernel
theorem dX11_init_147 : decode cX11_init 147 = .ok (.bipush 20, 2) := by decide +kernel
theorem dX11_init_149 : decode cX11_init 149 = .ok (.newarray .int, 2) := by decide +kernel
theorem dX11_init_151 : decode cX11_init 151 = .ok (.putfield 66, 3) := by decide +kernel
theorem dX11_init_154 : decode cX11_init 154 = .ok (.aload_n 0, 1) := by decide +kernel
theorem dX11_init_155 : decode cX11_init 155 = .ok (.bipush 20, 2) := by decide +kernel
theorem dX11_init_157 : decode cX11_init 157 = .ok (.newarray .int, 2) := by decide +kernel
theorem dX11_init_159 : decode cX11_init 159 = .ok (.putfield 69, 3) := by decide +kernel
theorem dX11_init_162 : decode cX11_init 162 = .ok (.aload_n 0, 1) := by decide +kernel
theorem dX11_init_163 : decode cX11_init 163 = .ok (.sipush 400, 3) := by decide +kernel
theorem dX11_init_166 : decode cX11_init 166 = .ok (.newarray .int, 2) := by decide +kernel
theorem dX11_init_168 : decode cX11_init 168 = .ok (.putfield 72, 3) := by decide +kernel
theorem dX11_init_171 : decode cX11_init 171 = .ok (.aload_n 0, 1) := by decide +kernel
theorem dX11_init_172 : decode cX11_init 172 = .ok (.sipush 400, 3) := by decide +kernel
theorem dX11_init_175 : decode cX11_init 175 = .ok (.newarray .int, 2) := by decide +kernel
theorem dX11_init_177 : decode cX11_init 177 = .ok (.putfield 75, 3) := by decide +kernel
theorem dX11_init_180 : decode cX11_init 180 = .ok (.aload_n 0, 1) := by decide +kernel
theorem dX11_init_181 : decode cX11_init 181 = .ok (.bipush 7, 2) := by decide +kernel
theorem dX11_init_183 : decode cX11_init 183 = .ok (.newarray .int, 2) := by decide +kernel
theorem dX11_init_185 : decode cX11_init 185 = .ok (.putfield 78, 3) := by decide +kernel
theorem dX11_init_188 : decode cX11_init 188 = .ok (.aload_n 0, 1) := by decide +kernel
theorem dX11_init_189 : decode cX11_init 189 = .ok (.sipush 200, 3) := by decide +kernel
theorem dX11_init_192 : decode cX11_init 192 = .ok (.newarray .long, 2) := by decide +kernel
theorem dX11_init_194 : decode cX11_init 194 = .ok (.putfield 81, 3) := by decide +kernel
theorem dX11_init_197 : decode cX11_init 197 = .ok (.aload_n 0, 1) := by decide +kernel
theorem dX11_init_198 : decode cX11_init 198 = .ok (.ldc 85, 2) := by decide +kernel
theorem dX11_init_200 : decode cX11_init 200 = .ok (.newarray .long, 2) := by decide +kernel
theorem dX11_init_202 : decode cX11_init 202 = .ok (.putfield 86, 3) := by decide +kernel
theorem dX11_init_205 : decode cX11_init 205 = .ok (.aload_n 0, 1) := by decide +kernel
theorem dX11_init_206 : decode cX11_init 206 = .ok (.iconst 4, 1) := by decide +kernel
theorem dX11_init_207 : decode cX11_init 207 = .ok (.newarray .long, 2) := by decide +kernel
theorem dX11_init_209 : decode cX11_init 209 = .ok (.putfield 89, 3) := by decide +kernel
theorem dX11_init_212 : decode cX11_init 212 = .ok (.aload_n 0, 1) := by decide +kernel
theorem dX11_init_213 : decode cX11_init 213 = .ok (.iconst 4, 1) := by decide +kernel
theorem dX11_init_214 : decode cX11_init 214 = .ok (.newarray .long, 2) := by decide +kernel
theorem dX11_init_216 : decode cX11_init 216 = .ok (.putfield 92, 3) := by decide +kernel
theorem dX11_init_219 : decode cX11_init 219 = .ok (.aload_n 0, 1) := by decide +kernel
theorem dX11_init_220 : decode cX11_init 220 = .ok (.iconst 5, 1) := by decide +kernel
theorem dX11_init_221 : decode cX11_init 221 = .ok (.newarray .int, 2) := by decide +kernel
theorem dX11_init_223 : decode cX11_init 223 = .ok (.putfield 95, 3) := by decide +kernel
theorem dX11_init_226 : decode cX11_init 226 = .ok (.aload_n 0, 1) := by decide +kernel
theorem dX11_init_227 : decode cX11_init 227 = .ok (.bipush 6, 2) := by decide +kernel
theorem dX11_init_229 : decode cX11_init 229 = .ok (.newarray .int, 2) := by decide +kernel
theorem dX11_init_231 : decode cX11_init 231 = .ok (.putfield 98, 3) := by decide +kernel
theorem dX11_init_234 : decode cX11_init 234 = .ok (.aload_n 0, 1) := by decide +kernel
theorem dX11_init_235 : decode cX11_init 235 = .ok (.sipush 181, 3) := by decide +kernel
theorem dX11_init_238 : decode cX11_init 238 = .ok (.newarray .boolean, 2) := by decide +kernel
theorem dX11_init_240 : decode cX11_init 240 = .ok (.putfield 101, 3) := by decide +kernel
theorem dX11_init_243 : decode cX11_init 243 = .ok (.aload_n 0, 1) := by decide +kernel
theorem dX11_init_244 : decode cX11_init 244 = .ok (.sipush 6006, 3) := by decide +kernel
theorem dX11_init_247 : decode cX11_init 247 = .ok (.newarray .int, 2) := by decide +kernel
theorem dX11_init_249 : decode cX11_init 249 = .ok (.putfield 105, 3) := by decide +kernel
theorem dX11_init_252 : decode cX11_init 252 = .ok (.aload_n 0, 1) := by decide +kernel
theorem dX11_init_253 : decode cX11_init 253 = .ok (.sipush 6006, 3) := by decide +kernel
theorem dX11_init_256 : decode cX11_init 256 = .ok (.newarray .int, 2) := by decide +kernel
theorem dX11_init_258 : decode cX11_init 258 = .ok (.putfield 108, 3) := by decide +kernel
theorem dX11_init_261 : decode cX11_init 261 = .ok (.aload_n 0, 1) := by decide +kernel
theorem dX11_init_262 : decode cX11_init 262 = .ok (.getfield 7, 3) := by decide +kernel
theorem dX11_init_265 : decode cX11_init 265 = .ok (.bipush 6, 2) := by decide +kernel
theorem dX11_init_267 : decode cX11_init 267 = .ok (.iconst (-1), 1) := by decide +kernel
theorem dX11_init_268 : decode cX11_init 268 = .ok (.iastore, 1) := by decide +kernel
theorem dX11_init_269 : decode cX11_init 269 = .ok (.aload_n 0, 1) := by decide +kernel
theorem dX11_init_270 : decode cX11_init 270 = .ok (.getfield 7, 3) := by decide +kernel
theorem dX11_init_273 : decode cX11_init 273 = .ok (.iconst 4, 1) := by decide +kernel
theorem dX11_init_274 : decode cX11_init 274 = .ok (.iconst 3, 1) := by decide +kernel
theorem dX11_init_275 : decode cX11_init 275 = .ok (.iastore, 1) := by decide +kernel
theorem dX11_init_276 : decode cX11_init 276 = .ok (.aload_n 0, 1) := by decide +kernel
theorem dX11_init_277 : decode cX11_init 277 = .ok (.iconst 1, 1) := by decide +kernel
theorem dX11_init_278 : decode cX11_init 278 = .ok (.invokevirtual 111, 3) := by decide +kernel
theorem dX11_init_281 : decode cX11_init 281 = .ok (.return_, 1) := by decide +kernel
theorem dX11_in_0 : decode cX11_in 0 = .ok (.iload_n 0, 1) := by decide +kernel
theorem dX11_in_1 : decode cX11_in 1 = .ok (.iload_n 1, 1) := by decide +kernel
theorem dX11_in_2 : decode cX11_in 2 = .ok (.if_icmp .lt 12, 3) := by decide +kernel
theorem dX11_in_5 : decode cX11_in 5 = .ok (.iload_n 0, 1) := by decide +kernel
theorem dX11_in_6 : decode cX11_in 6 = .ok (.iload_n 2, 1) := by decide +kernel
theorem dX11_in_7 : decode cX11_in 7 = .ok (.if_icmp .gt 7, 3) := by decide +kernel
theorem dX11_in_10 : decode cX11_in 10 = .ok (.iconst 1, 1) := by decide +kernel
theorem dX11_in_11 : decode cX11_in 11 = .ok (.goto 4, 3) := by decide +kernel
theorem dX11_in_14 : decode cX11_in 14 = .ok (.iconst 0, 1) := by decide +kernel
theorem dX11_in_15 : decode cX11_in 15 = .ok (.ireturn, 1) := by decide +kernel
theorem dX11_copies_0 : decode cX11_copies 0 = .ok (.iconst 0, 1) := by decide +kernel
theorem dX11_copies_1 : decode cX11_copies 1 = .ok (.istore_n 2, 1) := by decide +kernel
theorem dX11_copies_2 : decode cX11_copies 2 = .ok (.iload_n 2, 1) := by decide +kernel
theorem dX11_copies_3 : decode cX11_copies 3 = .ok (.sipush 288, 3) := by decide +kernel
theorem dX11_copies_6 : decode cX11_copies 6 = .ok (.if_icmp .ge 40, 3) := by decide +kernel
theorem dX11_copies_9 : decode cX11_copies 9 = .ok (.iload_n 1, 1) := by decide +kernel
theorem dX11_copies_10 : decode cX11_copies 10 = .ok (.ifCond .eq 18, 3) := by decide +kernel
theorem dX11_copies_13 : decode cX11_copies 13 = .ok (.aload_n 0, 1) := by decide +kernel
theorem dX11_copies_14 : decode cX11_copies 14 = .ok (.getfield 13, 3) := by decide +kernel
theorem dX11_copies_17 : decode cX11_copies 17 = .ok (.iload_n 2, 1) := by decide +kernel
theorem dX11_copies_18 : decode cX11_copies 18 = .ok (.aload_n 0, 1) := by decide +kernel
theorem dX11_copies_19 : decode cX11_copies 19 = .ok (.getfield 7, 3) := by decide +kernel
theorem dX11_copies_22 : decode cX11_copies 22 = .ok (.iload_n 2, 1) := by decide +kernel
theorem dX11_copies_23 : decode cX11_copies 23 = .ok (.iaload, 1) := by decide +kernel
theorem dX11_copies_24 : decode cX11_copies 24 = .ok (.iastore, 1) := by decide +kernel
theorem dX11_copies_25 : decode cX11_copies 25 = .ok (.goto 15, 3) := by decide +kernel
theorem dX11_copies_28 : decode cX11_copies 28 = .ok (.aload_n 0, 1) := by decide +kernel
theorem dX11_copies_29 : decode cX11_copies 29 = .ok (.getfield 7, 3) := by decide +kernel
theorem dX11_copies_32 : decode cX11_copies 32 = .ok (.iload_n 2, 1) := by decide +kernel
theorem dX11_copies_33 : decode cX11_copies 33 = .ok (.aload_n 0, 1) := by decide +kernel
theorem dX11_copies_34 : decode cX11_copies 34 = .ok (.getfield 13, 3) := by decide +kernel
theorem dX11_copies_37 : decode cX11_copies 37 = .ok (.iload_n 2, 1) := by decide +kernel
theorem dX11_copies_38 : decode cX11_copies 38 = .ok (.iaload, 1) := by decide +kernel
theorem dX11_copies_39 : decode cX11_copies 39 = .ok (.iastore, 1) := by decide +kernel
theorem dX11_copies_40 : decode cX11_copies 40 = .ok (.iinc 2 1, 3) := by decide +kernel
theorem dX11_copies_43 : decode cX11_copies 43 = .ok (.goto (-41), 3) := by decide +kernel
theorem dX11_copies_46 : decode cX11_copies 46 = .ok (.return_, 1) := by decide +kernel
theorem dX11_isHand_0 : decode cX11_isHand 0 = .ok (.iload_n 1, 1) := by decide +kernel
theorem dX11_isHand_1 : decode cX11_isHand 1 = .ok (.iconst 0, 1) := by decide +kernel
theorem dX11_isHand_2 : decode cX11_isHand 2 = .ok (.aload_n 0, 1) := by decide +kernel
theorem dX11_isHand_3 : decode cX11_isHand 3 = .ok (.getfield 7, 3) := by decide +kernel
theorem dX11_isHand_6 : decode cX11_isHand 6 = .ok (.iconst 0, 1) := by decide +kernel
theorem dX11_isHand_7 : decode cX11_isHand 7 = .ok (.iaload, 1) := by decide +kernel
theorem dX11_isHand_8 : decode cX11_isHand 8 = .ok (.iconst 1, 1) := by decide +kernel
theorem dX11_isHand_9 : decode cX11_isHand 9 = .ok (.isub, 1) := by decide +kernel
theorem dX11_isHand_10 : decode cX11_isHand 10 = .ok (.invokestatic 115, 3) := by decide +kernel
theorem dX11_isHand_13 : decode cX11_isHand 13 = .ok (.ireturn, 1) := by decide +kernel
theorem dX11_isCoin_0 : decode cX11_isCoin 0 = .ok (.iload_n 1, 1) := by decide +kernel
theorem dX11_isCoin_1 : decode cX11_isCoin 1 = .ok (.iconst 0, 1) := by decide +kernel
theorem dX11_isCoin_2 : decode cX11_isCoin 2 = .ok (.aload_n 0, 1) := by decide +kernel
theorem dX11_isCoin_3 : decode cX11_isCoin 3 = .ok (.getfield 7, 3) := by decide +kernel
theorem dX11_isCoin_6 : decode cX11_isCoin 6 = .ok (.iconst 1, 1) := by decide +kernel
theorem dX11_isCoin_7 : decode cX11_isCoin 7 = .ok (.iaload, 1) := by decide +kernel
theorem dX11_isCoin_8 : decode cX11_isCoin 8 = .ok (.iconst 1, 1) := by decide +kernel
theorem dX11_isCoin_9 : decode cX11_isCoin 9 = .ok (.isub, 1) := by decide +kernel
theorem dX11_isCoin_10 : decode cX11_isCoin 10 = .ok (.invokestatic 115, 3) := by decide +kernel
theorem dX11_isCoin_13 : decode cX11_isCoin 13 = .ok (.ireturn, 1) := by decide +kernel
theorem dX11_coinOf_0 : decode cX11_coinOf 0 = .ok (.aload_n 0, 1) := by decide +kernel
theorem dX11_coinOf_1 : decode cX11_coinOf 1 = .ok (.getfield 7, 3) := by decide +kernel
theorem dX11_coinOf_4 : decode cX11_coinOf 4 = .ok (.bipush 20, 2) := by decide +kernel
theorem dX11_coinOf_6 : decode cX11_coinOf 6 = .ok (.iconst 5, 1) := by decide +kernel
theorem dX11_coinOf_7 : decode cX11_coinOf 7 = .ok (.iload_n 1, 1) := by decide +kernel
theorem dX11_coinOf_8 : decode cX11_coinOf 8 = .ok (.imul, 1) := by decide +kernel
theorem dX11_coinOf_9 : decode cX11_coinOf 9 = .ok (.iadd, 1) := by decide +kernel
theorem dX11_coinOf_10 : decode cX11_coinOf 10 = .ok (.iload_n 2, 1) := by decide +kernel
theorem dX11_coinOf_11 : decode cX11_coinOf 11 = .ok (.iadd, 1) := by decide +kernel
theorem dX11_coinOf_12 : decode cX11_coinOf 12 = .ok (.iaload, 1) := by decide +kernel
theorem dX11_coinOf_13 : decode cX11_coinOf 13 = .ok (.ireturn, 1) := by decide +kernel
theorem dX11_hand_0 : decode cX11_hand 0 = .ok (.iload_n 1, 1) := by decide +kernel
theorem dX11_hand_1 : decode cX11_hand 1 = .ok (.iconst 1, 1) := by decide +kernel
theorem dX11_hand_2 : decode cX11_hand 2 = .ok (.bipush 30, 2) := by decide +kernel
theorem dX11_hand_4 : decode cX11_hand 4 = .ok (.invokestatic 115, 3) := by decide +kernel
theorem dX11_hand_7 : decode cX11_hand 7 = .ok (.ifCond .eq 14, 3) := by decide +kernel
theorem dX11_hand_10 : decode cX11_hand 10 = .ok (.aload_n 0, 1) := by decide +kernel
theorem dX11_hand_11 : decode cX11_hand 11 = .ok (.getfield 7, 3) := by decide +kernel
theorem dX11_hand_14 : decode cX11_hand 14 = .ok (.iconst 0, 1) := by decide +kernel
theorem dX11_hand_15 : decode cX11_hand 15 = .ok (.iaload, 1) := by decide +kernel
theorem dX11_hand_16 : decode cX11_hand 16 = .ok (.bipush 10, 2) := by decide +kernel
theorem dX11_hand_18 : decode cX11_hand 18 = .ok (.if_icmp .ne 5, 3) := by decide +kernel
theorem dX11_hand_21 : decode cX11_hand 21 = .ok (.iconst (-1), 1) := by decide +kernel
theorem dX11_hand_22 : decode cX11_hand 22 = .ok (.ireturn, 1) := by decide +kernel
theorem dX11_hand_23 : decode cX11_hand 23 = .ok (.aload_n 0, 1) := by decide +kernel
theorem dX11_hand_24 : decode cX11_hand 24 = .ok (.getfield 7, 3) := by decide +kernel
theorem dX11_hand_27 : decode cX11_hand 27 = .ok (.bipush 10, 2) := by decide +kernel
theorem dX11_hand_29 : decode cX11_hand 29 = .ok (.aload_n 0, 1) := by decide +kernel
theorem dX11_hand_30 : decode cX11_hand 30 = .ok (.getfield 7, 3) := by decide +kernel
theorem dX11_hand_33 : decode cX11_hand 33 = .ok (.iconst 0, 1) := by decide +kernel
theorem dX11_hand_34 : decode cX11_hand 34 = .ok (.iaload, 1) := by decide +kernel
theorem dX11_hand_35 : decode cX11_hand 35 = .ok (.iadd, 1) := by decide +kernel
theorem dX11_hand_36 : decode cX11_hand 36 = .ok (.iload_n 1, 1) := by decide +kernel
theorem dX11_hand_37 : decode cX11_hand 37 = .ok (.iastore, 1) := by decide +kernel
theorem dX11_hand_38 : decode cX11_hand 38 = .ok (.aload_n 0, 1) := by decide +kernel
theorem dX11_hand_39 : decode cX11_hand 39 = .ok (.getfield 7, 3) := by decide +kernel
theorem dX11_hand_42 : decode cX11_hand 42 = .ok (.iconst 0, 1) := by decide +kernel
theorem dX11_hand_43 : decode cX11_hand 43 = .ok (.dup2, 1) := by decide +kernel
theorem dX11_hand_44 : decode cX11_hand 44 = .ok (.iaload, 1) := by decide +kernel
theorem dX11_hand_45 : decode cX11_hand 45 = .ok (.iconst 1, 1) := by decide +kernel
theorem dX11_hand_46 : decode cX11_hand 46 = .ok (.iadd, 1) := by decide +kernel
theorem dX11_hand_47 : decode cX11_hand 47 = .ok (.iastore, 1) := by decide +kernel
theorem dX11_hand_48 : decode cX11_hand 48 = .ok (.aload_n 0, 1) := by decide +kernel
theorem dX11_hand_49 : decode cX11_hand 49 = .ok (.getfield 7, 3) := by decide +kernel
theorem dX11_hand_52 : decode cX11_hand 52 = .ok (.iconst 0, 1) := by decide +kernel
theorem dX11_hand_53 : decode cX11_hand 53 = .ok (.iaload, 1) := by decide +kernel
theorem dX11_hand_54 : decode cX11_hand 54 = .ok (.iconst 1, 1) := by decide +kernel
theorem dX11_hand_55 : decode cX11_hand 55 = .ok (.isub, 1) := by decide +kernel
theorem dX11_hand_56 : decode cX11_hand 56 = .ok (.ireturn, 1) := by decide +kernel
theorem dX11_coin_0 : decode cX11_coin 0 = .ok (.iload_n 1, 1) := by decide +kernel
theorem dX11_coin_1 : decode cX11_coin 1 = .ok (.iconst 0, 1) := by decide +kernel
theorem dX11_coin_2 : decode cX11_coin 2 = .ok (.sipush 500, 3) := by decide +kernel
theorem dX11_coin_5 : decode cX11_coin 5 = .ok (.invokestatic 115, 3) := by decide +kernel
theorem dX11_coin_8 : decode cX11_coin 8 = .ok (.ifCond .eq 22, 3) := by decide +kernel
theorem dX11_coin_11 : decode cX11_coin 11 = .ok (.aload_n 0, 1) := by decide +kernel
theorem dX11_coin_12 : decode cX11_coin 12 = .ok (.iload_n 2, 1) := by decide +kernel
theorem dX11_coin_13 : decode cX11_coin 13 = .ok (.invokevirtual 119, 3) := by decide +kernel
theorem dX11_coin_16 : decode cX11_coin 16 = .ok (.ifCond .eq 14, 3) := by decide +kernel
theorem dX11_coin_19 : decode cX11_coin 19 = .ok (.aload_n 0, 1) := by decide +kernel
theorem dX11_coin_20 : decode cX11_coin 20 = .ok (.getfield 7, 3) := by decide +kernel
theorem dX11_coin_23 : decode cX11_coin 23 = .ok (.iconst 1, 1) := by decide +kernel
theorem dX11_coin_24 : decode cX11_coin 24 = .ok (.iaload, 1) := by decide +kernel
theorem dX11_coin_25 : decode cX11_coin 25 = .ok (.bipush 20, 2) := by decide +kernel
theorem dX11_coin_27 : decode cX11_coin 27 = .ok (.if_icmp .ne 5, 3) := by decide +kernel
theorem dX11_coin_30 : decode cX11_coin 30 = .ok (.iconst (-1), 1) := by decide +kernel
theorem dX11_coin_31 : decode cX11_coin 31 = .ok (.ireturn, 1) := by decide +kernel
theorem dX11_coin_32 : decode cX11_coin 32 = .ok (.bipush 20, 2) := by decide +kernel
theorem dX11_coin_34 : decode cX11_coin 34 = .ok (.iconst 5, 1) := by decide +kernel
theorem dX11_coin_35 : decode cX11_coin 35 = .ok (.aload_n 0, 1) := by decide +kernel
theorem dX11_coin_36 : decode cX11_coin 36 = .ok (.getfield 7, 3) := by decide +kernel
theorem dX11_coin_39 : decode cX11_coin 39 = .ok (.iconst 1, 1) := by decide +kernel
theorem dX11_coin_40 : decode cX11_coin 40 = .ok (.iaload, 1) := by decide +kernel
theorem dX11_coin_41 : decode cX11_coin 41 = .ok (.imul, 1) := by decide +kernel
theorem dX11_coin_42 : decode cX11_coin 42 = .ok (.iadd, 1) := by decide +kernel
theorem dX11_coin_43 : decode cX11_coin 43 = .ok (.istore_n 3, 1) := by decide +kernel
theorem dX11_coin_44 : decode cX11_coin 44 = .ok (.aload_n 0, 1) := by decide +kernel
theorem dX11_coin_45 : decode cX11_coin 45 = .ok (.getfield 7, 3) := by decide +kernel
theorem dX11_coin_48 : decode cX11_coin 48 = .ok (.iload_n 3, 1) := by decide +kernel
theorem dX11_coin_49 : decode cX11_coin 49 = .ok (.iconst 0, 1) := by decide +kernel
theorem dX11_coin_50 : decode cX11_coin 50 = .ok (.iadd, 1) := by decide +kernel
theorem dX11_coin_51 : decode cX11_coin 51 = .ok (.iload_n 1, 1) := by decide +kernel
theorem dX11_coin_52 : decode cX11_coin 52 = .ok (.iastore, 1) := by decide +kernel
theorem dX11_coin_53 : decode cX11_coin 53 = .ok (.aload_n 0, 1) := by decide +kernel
theorem dX11_coin_54 : decode cX11_coin 54 = .ok (.getfield 7, 3) := by decide +kernel
theorem dX11_coin_57 : decode cX11_coin 57 = .ok (.iload_n 3, 1) := by decide +kernel
theorem dX11_coin_58 : decode cX11_coin 58 = .ok (.iconst 1, 1) := by decide +kernel
theorem dX11_coin_59 : decode cX11_coin 59 = .ok (.iadd, 1) := by decide +kernel
theorem dX11_coin_60 : decode cX11_coin 60 = .ok (.iload_n 1, 1) := by decide +kernel
theorem dX11_coin_61 : decode cX11_coin 61 = .ok (.iastore, 1) := by decide +kernel
theorem dX11_coin_62 : decode cX11_coin 62 = .ok (.aload_n 0, 1) := by decide +kernel
theorem dX11_coin_63 : decode cX11_coin 63 = .ok (.getfield 7, 3) := by decide +kernel
theorem dX11_coin_66 : decode cX11_coin 66 = .ok (.iload_n 3, 1) := by decide +kernel
theorem dX11_coin_67 : decode cX11_coin 67 = .ok (.iconst 2, 1) := by decide +kernel
theorem dX11_coin_68 : decode cX11_coin 68 = .ok (.iadd, 1) := by decide +kernel
theorem dX11_coin_69 : decode cX11_coin 69 = .ok (.iload_n 2, 1) := by decide +kernel
theorem dX11_coin_70 : decode cX11_coin 70 = .ok (.iastore, 1) := by decide +kernel
theorem dX11_coin_71 : decode cX11_coin 71 = .ok (.aload_n 0, 1) := by decide +kernel
theorem dX11_coin_72 : decode cX11_coin 72 = .ok (.getfield 7, 3) := by decide +kernel
theorem dX11_coin_75 : decode cX11_coin 75 = .ok (.iload_n 3, 1) := by decide +kernel
theorem dX11_coin_76 : decode cX11_coin 76 = .ok (.iconst 3, 1) := by decide +kernel
theorem dX11_coin_77 : decode cX11_coin 77 = .ok (.iadd, 1) := by decide +kernel
theorem dX11_coin_78 : decode cX11_coin 78 = .ok (.iconst 0, 1) := by decide +kernel
theorem dX11_coin_79 : decode cX11_coin 79 = .ok (.iastore, 1) := by decide +kernel
theorem dX11_coin_80 : decode cX11_coin 80 = .ok (.aload_n 0, 1) := by decide +kernel
theorem dX11_coin_81 : decode cX11_coin 81 = .ok (.getfield 7, 3) := by decide +kernel
theorem dX11_coin_84 : decode cX11_coin 84 = .ok (.iload_n 3, 1) := by decide +kernel
theorem dX11_coin_85 : decode cX11_coin 85 = .ok (.iconst 4, 1) := by decide +kernel
theorem dX11_coin_86 : decode cX11_coin 86 = .ok (.iadd, 1) := by decide +kernel
theorem dX11_coin_87 : decode cX11_coin 87 = .ok (.iconst (-1), 1) := by decide +kernel
theorem dX11_coin_88 : decode cX11_coin 88 = .ok (.iastore, 1) := by decide +kernel
theorem dX11_coin_89 : decode cX11_coin 89 = .ok (.aload_n 0, 1) := by decide +kernel
theorem dX11_coin_90 : decode cX11_coin 90 = .ok (.getfield 7, 3) := by decide +kernel
theorem dX11_coin_93 : decode cX11_coin 93 = .ok (.iconst 1, 1) := by decide +kernel
theorem dX11_coin_94 : decode cX11_coin 94 = .ok (.dup2, 1) := by decide +kernel
theorem dX11_coin_95 : decode cX11_coin 95 = .ok (.iaload, 1) := by decide +kernel
theorem dX11_coin_96 : decode cX11_coin 96 = .ok (.iconst 1, 1) := by decide +kernel
theorem dX11_coin_97 : decode cX11_coin 97 = .ok (.iadd, 1) := by decide +kernel
theorem dX11_coin_98 : decode cX11_coin 98 = .ok (.iastore, 1) := by decide +kernel
theorem dX11_coin_99 : decode cX11_coin 99 = .ok (.aload_n 0, 1) := by decide +kernel
theorem dX11_coin_100 : decode cX11_coin 100 = .ok (.getfield 7, 3) := by decide +kernel
theorem dX11_coin_103 : decode cX11_coin 103 = .ok (.iconst 1, 1) := by decide +kernel
theorem dX11_coin_104 : decode cX11_coin 104 = .ok (.iaload, 1) := by decide +kernel
theorem dX11_coin_105 : decode cX11_coin 105 = .ok (.iconst 1, 1) := by decide +kernel
theorem dX11_coin_106 : decode cX11_coin 106 = .ok (.isub, 1) := by decide +kernel
theorem dX11_coin_107 : decode cX11_coin 107 = .ok (.ireturn, 1) := by decide +kernel
theorem dX11_rules_0 : decode cX11_rules 0 = .ok (.iload_n 1, 1) := by decide +kernel
theorem dX11_rules_1 : decode cX11_rules 1 = .ok (.iconst 0, 1) := by decide +kernel
theorem dX11_rules_2 : decode cX11_rules 2 = .ok (.bipush 6, 2) := by decide +kernel
theorem dX11_rules_4 : decode cX11_rules 4 = .ok (.invokestatic 115, 3) := by decide +kernel
theorem dX11_rules_7 : decode cX11_rules 7 = .ok (.ifCond .eq 13, 3) := by decide +kernel
theorem dX11_rules_10 : decode cX11_rules 10 = .ok (.iload_n 2, 1) := by decide +kernel
theorem dX11_rules_11 : decode cX11_rules 11 = .ok (.iconst 0, 1) := by decide +kernel
theorem dX11_rules_12 : decode cX11_rules 12 = .ok (.bipush 9, 2) := by decide +kernel
theorem dX11_rules_14 : decode cX11_rules 14 = .ok (.invokestatic 115, 3) := by decide +kernel
theorem dX11_rules_17 : decode cX11_rules 17 = .ok (.ifCond .ne 5, 3) := by decide +kernel
theorem dX11_rules_20 : decode cX11_rules 20 = .ok (.iconst 0, 1) := by decide +kernel
theorem dX11_rules_21 : decode cX11_rules 21 = .ok (.ireturn, 1) := by decide +kernel
theorem dX11_rules_22 : decode cX11_rules 22 = .ok (.aload_n 0, 1) := by decide +kernel
theorem dX11_rules_23 : decode cX11_rules 23 = .ok (.getfield 7, 3) := by decide +kernel
theorem dX11_rules_26 : decode cX11_rules 26 = .ok (.iconst 3, 1) := by decide +kernel
theorem dX11_rules_27 : decode cX11_rules 27 = .ok (.iload_n 1, 1) := by decide +kernel
theorem dX11_rules_28 : decode cX11_rules 28 = .ok (.iastore, 1) := by decide +kernel
theorem dX11_rules_29 : decode cX11_rules 29 = .ok (.aload_n 0, 1) := by decide +kernel
theorem dX11_rules_30 : decode cX11_rules 30 = .ok (.getfield 7, 3) := by decide +kernel
theorem dX11_rules_33 : decode cX11_rules 33 = .ok (.iconst 4, 1) := by decide +kernel
theorem dX11_rules_34 : decode cX11_rules 34 = .ok (.iload_n 2, 1) := by decide +kernel
theorem dX11_rules_35 : decode cX11_rules 35 = .ok (.iastore, 1) := by decide +kernel
theorem dX11_rules_36 : decode cX11_rules 36 = .ok (.iconst 1, 1) := by decide +kernel
theorem dX11_rules_37 : decode cX11_rules 37 = .ok (.ireturn, 1) := by decide +kernel
theorem dX11_later_0 : decode cX11_later 0 = .ok (.iload_n 1, 1) := by decide +kernel
theorem dX11_later_1 : decode cX11_later 1 = .ok (.iconst 0, 1) := by decide +kernel
theorem dX11_later_2 : decode cX11_later 2 = .ok (.bipush 99, 2) := by decide +kernel
theorem dX11_later_4 : decode cX11_later 4 = .ok (.invokestatic 115, 3) := by decide +kernel
theorem dX11_later_7 : decode cX11_later 7 = .ok (.ifCond .eq 17, 3) := by decide +kernel
theorem dX11_later_10 : decode cX11_later 10 = .ok (.aload_n 0, 1) := by decide +kernel
theorem dX11_later_11 : decode cX11_later 11 = .ok (.getfield 7, 3) := by decide +kernel
theorem dX11_later_14 : decode cX11_later 14 = .ok (.iconst 2, 1) := by decide +kernel
theorem dX11_later_15 : decode cX11_later 15 = .ok (.iaload, 1) := by decide +kernel
theorem dX11_later_16 : decode cX11_later 16 = .ok (.iload_n 1, 1) := by decide +kernel
theorem dX11_later_17 : decode cX11_later 17 = .ok (.iadd, 1) := by decide +kernel
theorem dX11_later_18 : decode cX11_later 18 = .ok (.sipush 999, 3) := by decide +kernel
theorem dX11_later_21 : decode cX11_later 21 = .ok (.if_icmp .le 5, 3) := by decide +kernel
theorem dX11_later_24 : decode cX11_later 24 = .ok (.iconst (-1), 1) := by decide +kernel
theorem dX11_later_25 : decode cX11_later 25 = .ok (.ireturn, 1) := by decide +kernel
theorem dX11_later_26 : decode cX11_later 26 = .ok (.aload_n 0, 1) := by decide +kernel
theorem dX11_later_27 : decode cX11_later 27 = .ok (.getfield 7, 3) := by decide +kernel
theorem dX11_later_30 : decode cX11_later 30 = .ok (.iconst 2, 1) := by decide +kernel
theorem dX11_later_31 : decode cX11_later 31 = .ok (.dup2, 1) := by decide +kernel
theorem dX11_later_32 : decode cX11_later 32 = .ok (.iaload, 1) := by decide +kernel
theorem dX11_later_33 : decode cX11_later 33 = .ok (.iload_n 1, 1) := by decide +kernel
theorem dX11_later_34 : decode cX11_later 34 = .ok (.iadd, 1) := by decide +kernel
theorem dX11_later_35 : decode cX11_later 35 = .ok (.iastore, 1) := by decide +kernel
theorem dX11_later_36 : decode cX11_later 36 = .ok (.aload_n 0, 1) := by decide +kernel
theorem dX11_later_37 : decode cX11_later 37 = .ok (.getfield 7, 3) := by decide +kernel
theorem dX11_later_40 : decode cX11_later 40 = .ok (.iconst 2, 1) := by decide +kernel
theorem dX11_later_41 : decode cX11_later 41 = .ok (.iaload, 1) := by decide +kernel
theorem dX11_later_42 : decode cX11_later 42 = .ok (.ireturn, 1) := by decide +kernel
theorem dX11_put_0 : decode cX11_put 0 = .ok (.bipush 24, 2) := by decide +kernel
theorem dX11_put_2 : decode cX11_put 2 = .ok (.istore_n 2, 1) := by decide +kernel
theorem dX11_put_3 : decode cX11_put 3 = .ok (.iload_n 2, 1) := by decide +kernel
theorem dX11_put_4 : decode cX11_put 4 = .ok (.ifCond .lt 34, 3) := by decide +kernel
theorem dX11_put_7 : decode cX11_put 7 = .ok (.aload_n 0, 1) := by decide +kernel
theorem dX11_put_8 : decode cX11_put 8 = .ok (.getfield 16, 3) := by decide +kernel
theorem dX11_put_11 : decode cX11_put 11 = .ok (.aload_n 0, 1) := by decide +kernel
theorem dX11_put_12 : decode cX11_put 12 = .ok (.getfield 123, 3) := by decide +kernel
theorem dX11_put_15 : decode cX11_put 15 = .ok (.iload_n 1, 1) := by decide +kernel
theorem dX11_put_16 : decode cX11_put 16 = .ok (.iload_n 2, 1) := by decide +kernel
theorem dX11_put_17 : decode cX11_put 17 = .ok (.ishr, 1) := by decide +kernel
theorem dX11_put_18 : decode cX11_put 18 = .ok (.i2b, 1) := by decide +kernel
theorem dX11_put_19 : decode cX11_put 19 = .ok (.bastore, 1) := by decide +kernel
theorem dX11_put_20 : decode cX11_put 20 = .ok (.aload_n 0, 1) := by decide +kernel
theorem dX11_put_21 : decode cX11_put 21 = .ok (.dup, 1) := by decide +kernel
theorem dX11_put_22 : decode cX11_put 22 = .ok (.getfield 123, 3) := by decide +kernel
theorem dX11_put_25 : decode cX11_put 25 = .ok (.iconst 1, 1) := by decide +kernel
theorem dX11_put_26 : decode cX11_put 26 = .ok (.iadd, 1) := by decide +kernel
theorem dX11_put_27 : decode cX11_put 27 = .ok (.putfield 123, 3) := by decide +kernel
theorem dX11_put_30 : decode cX11_put 30 = .ok (.iload_n 2, 1) := by decide +kernel
theorem dX11_put_31 : decode cX11_put 31 = .ok (.bipush 8, 2) := by decide +kernel
theorem dX11_put_33 : decode cX11_put 33 = .ok (.isub, 1) := by decide +kernel
theorem dX11_put_34 : decode cX11_put 34 = .ok (.istore_n 2, 1) := by decide +kernel
theorem dX11_put_35 : decode cX11_put 35 = .ok (.goto (-32), 3) := by decide +kernel
theorem dX11_put_38 : decode cX11_put 38 = .ok (.return_, 1) := by decide +kernel
theorem dX11_feed_0 : decode cX11_feed 0 = .ok (.aload_n 0, 1) := by decide +kernel
theorem dX11_feed_1 : decode cX11_feed 1 = .ok (.getfield 123, 3) := by decide +kernel
theorem dX11_feed_4 : decode cX11_feed 4 = .ok (.bipush 20, 2) := by decide +kernel
theorem dX11_feed_6 : decode cX11_feed 6 = .ok (.iadd, 1) := by decide +kernel
theorem dX11_feed_7 : decode cX11_feed 7 = .ok (.sipush 300, 3) := by decide +kernel
theorem dX11_feed_10 : decode cX11_feed 10 = .ok (.if_icmp .le 5, 3) := by decide +kernel
theorem dX11_feed_13 : decode cX11_feed 13 = .ok (.iconst (-1), 1) := by decide +kernel
theorem dX11_feed_14 : decode cX11_feed 14 = .ok (.ireturn, 1) := by decide +kernel
theorem dX11_feed_15 : decode cX11_feed 15 = .ok (.aload_n 0, 1) := by decide +kernel
theorem dX11_feed_16 : decode cX11_feed 16 = .ok (.iload_n 1, 1) := by decide +kernel
theorem dX11_feed_17 : decode cX11_feed 17 = .ok (.invokevirtual 126, 3) := by decide +kernel
theorem dX11_feed_20 : decode cX11_feed 20 = .ok (.aload_n 0, 1) := by decide +kernel
theorem dX11_feed_21 : decode cX11_feed 21 = .ok (.iload_n 2, 1) := by decide +kernel
theorem dX11_feed_22 : decode cX11_feed 22 = .ok (.invokevirtual 126, 3) := by decide +kernel
theorem dX11_feed_25 : decode cX11_feed 25 = .ok (.aload_n 0, 1) := by decide +kernel
theorem dX11_feed_26 : decode cX11_feed 26 = .ok (.iload_n 3, 1) := by decide +kernel
theorem dX11_feed_27 : decode cX11_feed 27 = .ok (.invokevirtual 126, 3) := by decide +kernel
theorem dX11_feed_30 : decode cX11_feed 30 = .ok (.aload_n 0, 1) := by decide +kernel
theorem dX11_feed_31 : decode cX11_feed 31 = .ok (.iload 4, 2) := by decide +kernel
theorem dX11_feed_33 : decode cX11_feed 33 = .ok (.invokevirtual 126, 3) := by decide +kernel
theorem dX11_feed_36 : decode cX11_feed 36 = .ok (.aload_n 0, 1) := by decide +kernel
theorem dX11_feed_37 : decode cX11_feed 37 = .ok (.iload 5, 2) := by decide +kernel
theorem dX11_feed_39 : decode cX11_feed 39 = .ok (.invokevirtual 126, 3) := by decide +kernel
theorem dX11_feed_42 : decode cX11_feed 42 = .ok (.aload_n 0, 1) := by decide +kernel
theorem dX11_feed_43 : decode cX11_feed 43 = .ok (.getfield 123, 3) := by decide +kernel
theorem dX11_feed_46 : decode cX11_feed 46 = .ok (.ireturn, 1) := by decide +kernel
theorem dX11_end_0 : decode cX11_end 0 = .ok (.iload_n 1, 1) := by decide +kernel
theorem dX11_end_1 : decode cX11_end 1 = .ok (.iconst 0, 1) := by decide +kernel
theorem dX11_end_2 : decode cX11_end 2 = .ok (.aload_n 0, 1) := by decide +kernel
theorem dX11_end_3 : decode cX11_end 3 = .ok (.getfield 123, 3) := by decide +kernel
theorem dX11_end_6 : decode cX11_end 6 = .ok (.invokestatic 115, 3) := by decide +kernel
theorem dX11_end_9 : decode cX11_end 9 = .ok (.ifCond .ne 5, 3) := by decide +kernel
theorem dX11_end_12 : decode cX11_end 12 = .ok (.iconst (-1), 1) := by decide +kernel
theorem dX11_end_13 : decode cX11_end 13 = .ok (.ireturn, 1) := by decide +kernel
theorem dX11_end_14 : decode cX11_end 14 = .ok (.aload_n 0, 1) := by decide +kernel
theorem dX11_end_15 : decode cX11_end 15 = .ok (.iload_n 1, 1) := by decide +kernel
theorem dX11_end_16 : decode cX11_end 16 = .ok (.putfield 123, 3) := by decide +kernel
theorem dX11_end_19 : decode cX11_end 19 = .ok (.iload_n 1, 1) := by decide +kernel
theorem dX11_end_20 : decode cX11_end 20 = .ok (.ireturn, 1) := by decide +kernel
theorem dX11_isLetter_0 : decode cX11_isLetter 0 = .ok (.iload_n 0, 1) := by decide +kernel
theorem dX11_isLetter_1 : decode cX11_isLetter 1 = .ok (.bipush 97, 2) := by decide +kernel
theorem dX11_isLetter_3 : decode cX11_isLetter 3 = .ok (.bipush 122, 2) := by decide +kernel
theorem dX11_isLetter_5 : decode cX11_isLetter 5 = .ok (.invokestatic 115, 3) := by decide +kernel
theorem dX11_isLetter_8 : decode cX11_isLetter 8 = .ok (.ifCond .ne 14, 3) := by decide +kernel
theorem dX11_isLetter_11 : decode cX11_isLetter 11 = .ok (.iload_n 0, 1) := by decide +kernel
theorem dX11_isLetter_12 : decode cX11_isLetter 12 = .ok (.bipush 65, 2) := by decide +kernel
theorem dX11_isLetter_14 : decode cX11_isLetter 14 = .ok (.bipush 90, 2) := by decide +kernel
theorem dX11_isLetter_16 : decode cX11_isLetter 16 = .ok (.invokestatic 115, 3) := by decide +kernel
theorem dX11_isLetter_19 : decode cX11_isLetter 19 = .ok (.ifCond .eq 7, 3) := by decide +kernel
theorem dX11_isLetter_22 : decode cX11_isLetter 22 = .ok (.iconst 1, 1) := by decide +kernel
theorem dX11_isLetter_23 : decode cX11_isLetter 23 = .ok (.goto 4, 3) := by decide +kernel
theorem dX11_isLetter_26 : decode cX11_isLetter 26 = .ok (.iconst 0, 1) := by decide +kernel
