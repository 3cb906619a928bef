theorem dX11_laysWhole_71 : decode cX11_laysWhole 71 = .ok (.laload, 1) := by decide +kernel
theorem dX11_laysWhole_72 : decode cX11_laysWhole 72 = .ok (.lmul, 1) := by decide +kernel
theorem dX11_laysWhole_73 : decode cX11_laysWhole 73 = .ok (.lstore_n 3, 1) := by decide +kernel
theorem dX11_laysWhole_74 : decode cX11_laysWhole 74 = .ok (.iinc 5 1, 3) := by decide +kernel
theorem dX11_laysWhole_77 : decode cX11_laysWhole 77 = .ok (.goto (-66), 3) := by decide +kernel
theorem dX11_laysWhole_80 : decode cX11_laysWhole 80 = .ok (.lload_n 3, 1) := by decide +kernel
theorem dX11_laysWhole_81 : decode cX11_laysWhole 81 = .ok (.lreturn, 1) := by decide +kernel
theorem dX11_laysPart_0 : decode cX11_laysPart 0 = .ok (.aload_n 0, 1) := by decide +kernel
theorem dX11_laysPart_1 : decode cX11_laysPart 1 = .ok (.iload_n 3, 1) := by decide +kernel
theorem dX11_laysPart_2 : decode cX11_laysPart 2 = .ok (.iload_n 1, 1) := by decide +kernel
theorem dX11_laysPart_3 : decode cX11_laysPart 3 = .ok (.invokevirtual 345, 3) := by decide +kernel
theorem dX11_laysPart_6 : decode cX11_laysPart 6 = .ok (.lconst 1, 1) := by decide +kernel
theorem dX11_laysPart_7 : decode cX11_laysPart 7 = .ok (.lstore 4, 2) := by decide +kernel
theorem dX11_laysPart_9 : decode cX11_laysPart 9 = .ok (.iconst 0, 1) := by decide +kernel
theorem dX11_laysPart_10 : decode cX11_laysPart 10 = .ok (.istore 6, 2) := by decide +kernel
theorem dX11_laysPart_12 : decode cX11_laysPart 12 = .ok (.iload 6, 2) := by decide +kernel
theorem dX11_laysPart_14 : decode cX11_laysPart 14 = .ok (.aload_n 0, 1) := by decide +kernel
theorem dX11_laysPart_15 : decode cX11_laysPart 15 = .ok (.getfield 7, 3) := by decide +kernel
theorem dX11_laysPart_18 : decode cX11_laysPart 18 = .ok (.bipush 8, 2) := by decide +kernel
theorem dX11_laysPart_20 : decode cX11_laysPart 20 = .ok (.iaload, 1) := by decide +kernel
theorem dX11_laysPart_21 : decode cX11_laysPart 21 = .ok (.if_icmp .ge 70, 3) := by decide +kernel
theorem dX11_laysPart_24 : decode cX11_laysPart 24 = .ok (.aload_n 0, 1) := by decide +kernel
theorem dX11_laysPart_25 : decode cX11_laysPart 25 = .ok (.getfield 92, 3) := by decide +kernel
theorem dX11_laysPart_28 : decode cX11_laysPart 28 = .ok (.iload 6, 2) := by decide +kernel
theorem dX11_laysPart_30 : decode cX11_laysPart 30 = .ok (.aload_n 0, 1) := by decide +kernel
theorem dX11_laysPart_31 : decode cX11_laysPart 31 = .ok (.getfield 89, 3) := by decide +kernel
theorem dX11_laysPart_34 : decode cX11_laysPart 34 = .ok (.iload 6, 2) := by decide +kernel
theorem dX11_laysPart_36 : decode cX11_laysPart 36 = .ok (.laload, 1) := by decide +kernel
theorem dX11_laysPart_37 : decode cX11_laysPart 37 = .ok (.aload_n 0, 1) := by decide +kernel
theorem dX11_laysPart_38 : decode cX11_laysPart 38 = .ok (.aload_n 0, 1) := by decide +kernel
theorem dX11_laysPart_39 : decode cX11_laysPart 39 = .ok (.getfield 7, 3) := by decide +kernel
theorem dX11_laysPart_42 : decode cX11_laysPart 42 = .ok (.sipush 280, 3) := by decide +kernel
theorem dX11_laysPart_45 : decode cX11_laysPart 45 = .ok (.iconst 2, 1) := by decide +kernel
theorem dX11_laysPart_46 : decode cX11_laysPart 46 = .ok (.iload 6, 2) := by decide +kernel
theorem dX11_laysPart_48 : decode cX11_laysPart 48 = .ok (.imul, 1) := by decide +kernel
theorem dX11_laysPart_49 : decode cX11_laysPart 49 = .ok (.iadd, 1) := by decide +kernel
theorem dX11_laysPart_50 : decode cX11_laysPart 50 = .ok (.iaload, 1) := by decide +kernel
theorem dX11_laysPart_51 : decode cX11_laysPart 51 = .ok (.aload_n 0, 1) := by decide +kernel
theorem dX11_laysPart_52 : decode cX11_laysPart 52 = .ok (.getfield 7, 3) := by decide +kernel
theorem dX11_laysPart_55 : decode cX11_laysPart 55 = .ok (.sipush 280, 3) := by decide +kernel
theorem dX11_laysPart_58 : decode cX11_laysPart 58 = .ok (.iconst 2, 1) := by decide +kernel
theorem dX11_laysPart_59 : decode cX11_laysPart 59 = .ok (.iload 6, 2) := by decide +kernel
theorem dX11_laysPart_61 : decode cX11_laysPart 61 = .ok (.imul, 1) := by decide +kernel
theorem dX11_laysPart_62 : decode cX11_laysPart 62 = .ok (.iadd, 1) := by decide +kernel
theorem dX11_laysPart_63 : decode cX11_laysPart 63 = .ok (.iconst 1, 1) := by decide +kernel
theorem dX11_laysPart_64 : decode cX11_laysPart 64 = .ok (.iadd, 1) := by decide +kernel
theorem dX11_laysPart_65 : decode cX11_laysPart 65 = .ok (.iaload, 1) := by decide +kernel
theorem dX11_laysPart_66 : decode cX11_laysPart 66 = .ok (.iload_n 2, 1) := by decide +kernel
theorem dX11_laysPart_67 : decode cX11_laysPart 67 = .ok (.iload_n 3, 1) := by decide +kernel
theorem dX11_laysPart_68 : decode cX11_laysPart 68 = .ok (.invokevirtual 348, 3) := by decide +kernel
theorem dX11_laysPart_71 : decode cX11_laysPart 71 = .ok (.lsub, 1) := by decide +kernel
theorem dX11_laysPart_72 : decode cX11_laysPart 72 = .ok (.lastore, 1) := by decide +kernel
theorem dX11_laysPart_73 : decode cX11_laysPart 73 = .ok (.lload 4, 2) := by decide +kernel
theorem dX11_laysPart_75 : decode cX11_laysPart 75 = .ok (.aload_n 0, 1) := by decide +kernel
theorem dX11_laysPart_76 : decode cX11_laysPart 76 = .ok (.getfield 92, 3) := by decide +kernel
theorem dX11_laysPart_79 : decode cX11_laysPart 79 = .ok (.iload 6, 2) := by decide +kernel
theorem dX11_laysPart_81 : decode cX11_laysPart 81 = .ok (.laload, 1) := by decide +kernel
theorem dX11_laysPart_82 : decode cX11_laysPart 82 = .ok (.lmul, 1) := by decide +kernel
theorem dX11_laysPart_83 : decode cX11_laysPart 83 = .ok (.lstore 4, 2) := by decide +kernel
theorem dX11_laysPart_85 : decode cX11_laysPart 85 = .ok (.iinc 6 1, 3) := by decide +kernel
theorem dX11_laysPart_88 : decode cX11_laysPart 88 = .ok (.goto (-76), 3) := by decide +kernel
theorem dX11_laysPart_91 : decode cX11_laysPart 91 = .ok (.lload 4, 2) := by decide +kernel
theorem dX11_laysPart_93 : decode cX11_laysPart 93 = .ok (.lreturn, 1) := by decide +kernel
theorem dX11_odds_0 : decode cX11_odds 0 = .ok (.aload_n 0, 1) := by decide +kernel
theorem dX11_odds_1 : decode cX11_odds 1 = .ok (.iload_n 1, 1) := by decide +kernel
theorem dX11_odds_2 : decode cX11_odds 2 = .ok (.invokevirtual 119, 3) := by decide +kernel
theorem dX11_odds_5 : decode cX11_odds 5 = .ok (.ifCond .eq 31, 3) := by decide +kernel
theorem dX11_odds_8 : decode cX11_odds 8 = .ok (.iload_n 2, 1) := by decide +kernel
theorem dX11_odds_9 : decode cX11_odds 9 = .ok (.iconst 0, 1) := by decide +kernel
theorem dX11_odds_10 : decode cX11_odds 10 = .ok (.iconst 4, 1) := by decide +kernel
theorem dX11_odds_11 : decode cX11_odds 11 = .ok (.invokestatic 115, 3) := by decide +kernel
theorem dX11_odds_14 : decode cX11_odds 14 = .ok (.ifCond .eq 22, 3) := by decide +kernel
theorem dX11_odds_17 : decode cX11_odds 17 = .ok (.iload_n 3, 1) := by decide +kernel
theorem dX11_odds_18 : decode cX11_odds 18 = .ok (.iload_n 2, 1) := by decide +kernel
theorem dX11_odds_19 : decode cX11_odds 19 = .ok (.iconst 4, 1) := by decide +kernel
theorem dX11_odds_20 : decode cX11_odds 20 = .ok (.invokestatic 115, 3) := by decide +kernel
theorem dX11_odds_23 : decode cX11_odds 23 = .ok (.ifCond .eq 13, 3) := by decide +kernel
theorem dX11_odds_26 : decode cX11_odds 26 = .ok (.iload 4, 2) := by decide +kernel
theorem dX11_odds_28 : decode cX11_odds 28 = .ok (.iconst 0, 1) := by decide +kernel
theorem dX11_odds_29 : decode cX11_odds 29 = .ok (.iconst 1, 1) := by decide +kernel
theorem dX11_odds_30 : decode cX11_odds 30 = .ok (.invokestatic 115, 3) := by decide +kernel
theorem dX11_odds_33 : decode cX11_odds 33 = .ok (.ifCond .ne 7, 3) := by decide +kernel
theorem dX11_odds_36 : decode cX11_odds 36 = .ok (.ldc2_w 343, 3) := by decide +kernel
theorem dX11_odds_39 : decode cX11_odds 39 = .ok (.lreturn, 1) := by decide +kernel
theorem dX11_odds_40 : decode cX11_odds 40 = .ok (.aload_n 0, 1) := by decide +kernel
theorem dX11_odds_41 : decode cX11_odds 41 = .ok (.iload_n 2, 1) := by decide +kernel
theorem dX11_odds_42 : decode cX11_odds 42 = .ok (.iload_n 3, 1) := by decide +kernel
theorem dX11_odds_43 : decode cX11_odds 43 = .ok (.invokevirtual 355, 3) := by decide +kernel
theorem dX11_odds_46 : decode cX11_odds 46 = .ok (.lstore 5, 2) := by decide +kernel
theorem dX11_odds_48 : decode cX11_odds 48 = .ok (.lload 5, 2) := by decide +kernel
theorem dX11_odds_50 : decode cX11_odds 50 = .ok (.lconst 0, 1) := by decide +kernel
theorem dX11_odds_51 : decode cX11_odds 51 = .ok (.lcmp, 1) := by decide +kernel
theorem dX11_odds_52 : decode cX11_odds 52 = .ok (.ifCond .ne 7, 3) := by decide +kernel
theorem dX11_odds_55 : decode cX11_odds 55 = .ok (.ldc2_w 343, 3) := by decide +kernel
theorem dX11_odds_58 : decode cX11_odds 58 = .ok (.lreturn, 1) := by decide +kernel
theorem dX11_odds_59 : decode cX11_odds 59 = .ok (.aload_n 0, 1) := by decide +kernel
theorem dX11_odds_60 : decode cX11_odds 60 = .ok (.iload_n 1, 1) := by decide +kernel
theorem dX11_odds_61 : decode cX11_odds 61 = .ok (.iload_n 2, 1) := by decide +kernel
theorem dX11_odds_62 : decode cX11_odds 62 = .ok (.iload_n 3, 1) := by decide +kernel
theorem dX11_odds_63 : decode cX11_odds 63 = .ok (.invokevirtual 359, 3) := by decide +kernel
theorem dX11_odds_66 : decode cX11_odds 66 = .ok (.lstore 7, 2) := by decide +kernel
theorem dX11_odds_68 : decode cX11_odds 68 = .ok (.lload 5, 2) := by decide +kernel
theorem dX11_odds_70 : decode cX11_odds 70 = .ok (.lstore 9, 2) := by decide +kernel
theorem dX11_odds_72 : decode cX11_odds 72 = .ok (.lload 7, 2) := by decide +kernel
theorem dX11_odds_74 : decode cX11_odds 74 = .ok (.lstore 11, 2) := by decide +kernel
theorem dX11_odds_76 : decode cX11_odds 76 = .ok (.lload 11, 2) := by decide +kernel
theorem dX11_odds_78 : decode cX11_odds 78 = .ok (.lconst 0, 1) := by decide +kernel
theorem dX11_odds_79 : decode cX11_odds 79 = .ok (.lcmp, 1) := by decide +kernel
theorem dX11_odds_80 : decode cX11_odds 80 = .ok (.ifCond .eq 21, 3) := by decide +kernel
theorem dX11_odds_83 : decode cX11_odds 83 = .ok (.lload 9, 2) := by decide +kernel
theorem dX11_odds_85 : decode cX11_odds 85 = .ok (.lload 11, 2) := by decide +kernel
theorem dX11_odds_87 : decode cX11_odds 87 = .ok (.lrem, 1) := by decide +kernel
theorem dX11_odds_88 : decode cX11_odds 88 = .ok (.lstore 13, 2) := by decide +kernel
theorem dX11_odds_90 : decode cX11_odds 90 = .ok (.lload 11, 2) := by decide +kernel
theorem dX11_odds_92 : decode cX11_odds 92 = .ok (.lstore 9, 2) := by decide +kernel
theorem dX11_odds_94 : decode cX11_odds 94 = .ok (.lload 13, 2) := by decide +kernel
theorem dX11_odds_96 : decode cX11_odds 96 = .ok (.lstore 11, 2) := by decide +kernel
theorem dX11_odds_98 : decode cX11_odds 98 = .ok (.goto (-22), 3) := by decide +kernel
theorem dX11_odds_101 : decode cX11_odds 101 = .ok (.iload 4, 2) := by decide +kernel
theorem dX11_odds_103 : decode cX11_odds 103 = .ok (.ifCond .ne 11, 3) := by decide +kernel
theorem dX11_odds_106 : decode cX11_odds 106 = .ok (.lload 7, 2) := by decide +kernel
theorem dX11_odds_108 : decode cX11_odds 108 = .ok (.lload 9, 2) := by decide +kernel
theorem dX11_odds_110 : decode cX11_odds 110 = .ok (.ldiv, 1) := by decide +kernel
theorem dX11_odds_111 : decode cX11_odds 111 = .ok (.goto 8, 3) := by decide +kernel
theorem dX11_odds_114 : decode cX11_odds 114 = .ok (.lload 5, 2) := by decide +kernel
theorem dX11_odds_116 : decode cX11_odds 116 = .ok (.lload 9, 2) := by decide +kernel
theorem dX11_odds_118 : decode cX11_odds 118 = .ok (.ldiv, 1) := by decide +kernel
theorem dX11_odds_119 : decode cX11_odds 119 = .ok (.lreturn, 1) := by decide +kernel
theorem dX11_told_0 : decode cX11_told 0 = .ok (.iload_n 1, 1) := by decide +kernel
theorem dX11_told_1 : decode cX11_told 1 = .ok (.iconst 0, 1) := by decide +kernel
theorem dX11_told_2 : decode cX11_told 2 = .ok (.iconst 4, 1) := by decide +kernel
theorem dX11_told_3 : decode cX11_told 3 = .ok (.invokestatic 115, 3) := by decide +kernel
theorem dX11_told_6 : decode cX11_told 6 = .ok (.ifCond .eq 23, 3) := by decide +kernel
theorem dX11_told_9 : decode cX11_told 9 = .ok (.iload_n 2, 1) := by decide +kernel
theorem dX11_told_10 : decode cX11_told 10 = .ok (.iload_n 1, 1) := by decide +kernel
theorem dX11_told_11 : decode cX11_told 11 = .ok (.iconst 4, 1) := by decide +kernel
theorem dX11_told_12 : decode cX11_told 12 = .ok (.invokestatic 115, 3) := by decide +kernel
theorem dX11_told_15 : decode cX11_told 15 = .ok (.ifCond .eq 14, 3) := by decide +kernel
theorem dX11_told_18 : decode cX11_told 18 = .ok (.aload_n 0, 1) := by decide +kernel
theorem dX11_told_19 : decode cX11_told 19 = .ok (.iload_n 1, 1) := by decide +kernel
theorem dX11_told_20 : decode cX11_told 20 = .ok (.iload_n 2, 1) := by decide +kernel
theorem dX11_told_21 : decode cX11_told 21 = .ok (.invokevirtual 355, 3) := by decide +kernel
theorem dX11_told_24 : decode cX11_told 24 = .ok (.lconst 0, 1) := by decide +kernel
theorem dX11_told_25 : decode cX11_told 25 = .ok (.lcmp, 1) := by decide +kernel
theorem dX11_told_26 : decode cX11_told 26 = .ok (.ifCond .ne 5, 3) := by decide +kernel
theorem dX11_told_29 : decode cX11_told 29 = .ok (.iconst (-1), 1) := by decide +kernel
theorem dX11_told_30 : decode cX11_told 30 = .ok (.ireturn, 1) := by decide +kernel
theorem dX11_told_31 : decode cX11_told 31 = .ok (.iconst (-1), 1) := by decide +kernel
theorem dX11_told_32 : decode cX11_told 32 = .ok (.istore_n 3, 1) := by decide +kernel
theorem dX11_told_33 : decode cX11_told 33 = .ok (.iconst 0, 1) := by decide +kernel
theorem dX11_told_34 : decode cX11_told 34 = .ok (.istore 4, 2) := by decide +kernel
theorem dX11_told_36 : decode cX11_told 36 = .ok (.iconst 0, 1) := by decide +kernel
theorem dX11_told_37 : decode cX11_told 37 = .ok (.istore 5, 2) := by decide +kernel
theorem dX11_told_39 : decode cX11_told 39 = .ok (.iload 5, 2) := by decide +kernel
theorem dX11_told_41 : decode cX11_told 41 = .ok (.aload_n 0, 1) := by decide +kernel
theorem dX11_told_42 : decode cX11_told 42 = .ok (.getfield 7, 3) := by decide +kernel
theorem dX11_told_45 : decode cX11_told 45 = .ok (.iconst 0, 1) := by decide +kernel
theorem dX11_told_46 : decode cX11_told 46 = .ok (.iaload, 1) := by decide +kernel
theorem dX11_told_47 : decode cX11_told 47 = .ok (.if_icmp .ge 100, 3) := by decide +kernel
theorem dX11_told_50 : decode cX11_told 50 = .ok (.iconst 1, 1) := by decide +kernel
theorem dX11_told_51 : decode cX11_told 51 = .ok (.istore 6, 2) := by decide +kernel
theorem dX11_told_53 : decode cX11_told 53 = .ok (.aload_n 0, 1) := by decide +kernel
theorem dX11_told_54 : decode cX11_told 54 = .ok (.iload 5, 2) := by decide +kernel
theorem dX11_told_56 : decode cX11_told 56 = .ok (.iload_n 1, 1) := by decide +kernel
theorem dX11_told_57 : decode cX11_told 57 = .ok (.iload_n 2, 1) := by decide +kernel
theorem dX11_told_58 : decode cX11_told 58 = .ok (.invokevirtual 359, 3) := by decide +kernel
theorem dX11_told_61 : decode cX11_told 61 = .ok (.lstore 7, 2) := by decide +kernel
theorem dX11_told_63 : decode cX11_told 63 = .ok (.iconst 0, 1) := by decide +kernel
theorem dX11_told_64 : decode cX11_told 64 = .ok (.istore 9, 2) := by decide +kernel
theorem dX11_told_66 : decode cX11_told 66 = .ok (.iload 9, 2) := by decide +kernel
theorem dX11_told_68 : decode cX11_told 68 = .ok (.aload_n 0, 1) := by decide +kernel
theorem dX11_told_69 : decode cX11_told 69 = .ok (.getfield 7, 3) := by decide +kernel
theorem dX11_told_72 : decode cX11_told 72 = .ok (.bipush 8, 2) := by decide +kernel
theorem dX11_told_74 : decode cX11_told 74 = .ok (.iaload, 1) := by decide +kernel
theorem dX11_told_75 : decode cX11_told 75 = .ok (.if_icmp .ge 39, 3) := by decide +kernel
theorem dX11_told_78 : decode cX11_told 78 = .ok (.iload 6, 2) := by decide +kernel
theorem dX11_told_80 : decode cX11_told 80 = .ok (.ifCond .eq 25, 3) := by decide +kernel
theorem dX11_told_83 : decode cX11_told 83 = .ok (.aload_n 0, 1) := by decide +kernel
theorem dX11_told_84 : decode cX11_told 84 = .ok (.getfield 92, 3) := by decide +kernel
theorem dX11_told_87 : decode cX11_told 87 = .ok (.iload 9, 2) := by decide +kernel
theorem dX11_told_89 : decode cX11_told 89 = .ok (.laload, 1) := by decide +kernel
theorem dX11_told_90 : decode cX11_told 90 = .ok (.aload_n 0, 1) := by decide +kernel
theorem dX11_told_91 : decode cX11_told 91 = .ok (.getfield 89, 3) := by decide +kernel
theorem dX11_told_94 : decode cX11_told 94 = .ok (.iload 9, 2) := by decide +kernel
theorem dX11_told_96 : decode cX11_told 96 = .ok (.laload, 1) := by decide +kernel
theorem dX11_told_97 : decode cX11_told 97 = .ok (.lcmp, 1) := by decide +kernel
theorem dX11_told_98 : decode cX11_told 98 = .ok (.ifCond .ne 7, 3) := by decide +kernel
theorem dX11_told_101 : decode cX11_told 101 = .ok (.iconst 1, 1) := by decide +kernel
theorem dX11_told_102 : decode cX11_told 102 = .ok (.goto 4, 3) := by decide +kernel
theorem dX11_told_105 : decode cX11_told 105 = .ok (.iconst 0, 1) := by decide +kernel
theorem dX11_told_106 : decode cX11_told 106 = .ok (.istore 6, 2) := by decide +kernel
theorem dX11_told_108 : decode cX11_told 108 = .ok (.iinc 9 1, 3) := by decide +kernel
theorem dX11_told_111 : decode cX11_told 111 = .ok (.goto (-45), 3) := by decide +kernel
theorem dX11_told_114 : decode cX11_told 114 = .ok (.iload 4, 2) := by decide +kernel
theorem dX11_told_116 : decode cX11_told 116 = .ok (.iload 6, 2) := by decide +kernel
theorem dX11_told_118 : decode cX11_told 118 = .ok (.ifCond .eq 7, 3) := by decide +kernel
theorem dX11_told_121 : decode cX11_told 121 = .ok (.iconst 1, 1) := by decide +kernel
theorem dX11_told_122 : decode cX11_told 122 = .ok (.goto 4, 3) := by decide +kernel
theorem dX11_told_125 : decode cX11_told 125 = .ok (.iconst 0, 1) := by decide +kernel
theorem dX11_told_126 : decode cX11_told 126 = .ok (.iadd, 1) := by decide +kernel
theorem dX11_told_127 : decode cX11_told 127 = .ok (.istore 4, 2) := by decide +kernel
theorem dX11_told_129 : decode cX11_told 129 = .ok (.iload 6, 2) := by decide +kernel
theorem dX11_told_131 : decode cX11_told 131 = .ok (.ifCond .eq 8, 3) := by decide +kernel
theorem dX11_told_134 : decode cX11_told 134 = .ok (.iload 5, 2) := by decide +kernel
theorem dX11_told_136 : decode cX11_told 136 = .ok (.goto 4, 3) := by decide +kernel
theorem dX11_told_139 : decode cX11_told 139 = .ok (.iload_n 3, 1) := by decide +kernel
theorem dX11_told_140 : decode cX11_told 140 = .ok (.istore_n 3, 1) := by decide +kernel
theorem dX11_told_141 : decode cX11_told 141 = .ok (.iinc 5 1, 3) := by decide +kernel
theorem dX11_told_144 : decode cX11_told 144 = .ok (.goto (-105), 3) := by decide +kernel
theorem dX11_told_147 : decode cX11_told 147 = .ok (.iload 4, 2) := by decide +kernel
theorem dX11_told_149 : decode cX11_told 149 = .ok (.iconst 1, 1) := by decide +kernel
theorem dX11_told_150 : decode cX11_told 150 = .ok (.if_icmp .ne 7, 3) := by decide +kernel
theorem dX11_told_153 : decode cX11_told 153 = .ok (.iload_n 3, 1) := by decide +kernel
theorem dX11_told_154 : decode cX11_told 154 = .ok (.goto 4, 3) := by decide +kernel
theorem dX11_told_157 : decode cX11_told 157 = .ok (.iconst (-1), 1) := by decide +kernel
theorem dX11_told_158 : decode cX11_told 158 = .ok (.ireturn, 1) := by decide +kernel
theorem dX11_isNew_0 : decode cX11_isNew 0 = .ok (.aload_n 0, 1) := by decide +kernel
theorem dX11_isNew_1 : decode cX11_isNew 1 = .ok (.getfield 101, 3) := by decide +kernel
theorem dX11_isNew_4 : decode cX11_isNew 4 = .ok (.iload_n 1, 1) := by decide +kernel
theorem dX11_isNew_5 : decode cX11_isNew 5 = .ok (.baload, 1) := by decide +kernel
theorem dX11_isNew_6 : decode cX11_isNew 6 = .ok (.ifCond .ne 7, 3) := by decide +kernel
theorem dX11_isNew_9 : decode cX11_isNew 9 = .ok (.iconst 1, 1) := by decide +kernel
theorem dX11_isNew_10 : decode cX11_isNew 10 = .ok (.goto 4, 3) := by decide +kernel
theorem dX11_isNew_13 : decode cX11_isNew 13 = .ok (.iconst 0, 1) := by decide +kernel
theorem dX11_isNew_14 : decode cX11_isNew 14 = .ok (.istore_n 2, 1) := by decide +kernel
theorem dX11_isNew_15 : decode cX11_isNew 15 = .ok (.aload_n 0, 1) := by decide +kernel
theorem dX11_isNew_16 : decode cX11_isNew 16 = .ok (.getfield 101, 3) := by decide +kernel
theorem dX11_isNew_19 : decode cX11_isNew 19 = .ok (.iload_n 1, 1) := by decide +kernel
theorem dX11_isNew_20 : decode cX11_isNew 20 = .ok (.iconst 1, 1) := by decide +kernel
theorem dX11_isNew_21 : decode cX11_isNew 21 = .ok (.bastore, 1) := by decide +kernel
theorem dX11_isNew_22 : decode cX11_isNew 22 = .ok (.iload_n 2, 1) := by decide +kernel
theorem dX11_isNew_23 : decode cX11_isNew 23 = .ok (.ireturn, 1) := by decide +kernel
theorem dX11_areUnlike_0 : decode cX11_areUnlike 0 = .ok (.iconst 0, 1) := by decide +kernel
theorem dX11_areUnlike_1 : decode cX11_areUnlike 1 = .ok (.istore 4, 2) := by decide +kernel
theorem dX11_areUnlike_3 : decode cX11_areUnlike 3 = .ok (.iload 4, 2) := by decide +kernel
theorem dX11_areUnlike_5 : decode cX11_areUnlike 5 = .ok (.sipush 181, 3) := by decide +kernel
theorem dX11_areUnlike_8 : decode cX11_areUnlike 8 = .ok (.if_icmp .ge 17, 3) := by decide +kernel
theorem dX11_areUnlike_11 : decode cX11_areUnlike 11 = .ok (.aload_n 0, 1) := by decide +kernel
theorem dX11_areUnlike_12 : decode cX11_areUnlike 12 = .ok (.getfield 101, 3) := by decide +kernel
theorem dX11_areUnlike_15 : decode cX11_areUnlike 15 = .ok (.iload 4, 2) := by decide +kernel
theorem dX11_areUnlike_17 : decode cX11_areUnlike 17 = .ok (.iconst 0, 1) := by decide +kernel
theorem dX11_areUnlike_18 : decode cX11_areUnlike 18 = .ok (.bastore, 1) := by decide +kernel
theorem dX11_areUnlike_19 : decode cX11_areUnlike 19 = .ok (.iinc 4 1, 3) := by decide +kernel
theorem dX11_areUnlike_22 : decode cX11_areUnlike 22 = .ok (.goto (-19), 3) := by decide +kernel
theorem dX11_areUnlike_25 : decode cX11_areUnlike 25 = .ok (.iconst 0, 1) := by decide +kernel
theorem dX11_areUnlike_26 : decode cX11_areUnlike 26 = .ok (.istore 4, 2) := by decide +kernel
theorem dX11_areUnlike_28 : decode cX11_areUnlike 28 = .ok (.iload 4, 2) := by decide +kernel
theorem dX11_areUnlike_30 : decode cX11_areUnlike 30 = .ok (.iload_n 1, 1) := by decide +kernel
theorem dX11_areUnlike_31 : decode cX11_areUnlike 31 = .ok (.if_icmp .ge 23, 3) := by decide +kernel
theorem dX11_areUnlike_34 : decode cX11_areUnlike 34 = .ok (.aload_n 0, 1) := by decide +kernel
theorem dX11_areUnlike_35 : decode cX11_areUnlike 35 = .ok (.getfield 98, 3) := by decide +kernel
theorem dX11_areUnlike_38 : decode cX11_areUnlike 38 = .ok (.iload 4, 2) := by decide +kernel
theorem dX11_areUnlike_40 : decode cX11_areUnlike 40 = .ok (.aload_n 0, 1) := by decide +kernel
theorem dX11_areUnlike_41 : decode cX11_areUnlike 41 = .ok (.getfield 95, 3) := by decide +kernel
theorem dX11_areUnlike_44 : decode cX11_areUnlike 44 = .ok (.iload 4, 2) := by decide +kernel
theorem dX11_areUnlike_46 : decode cX11_areUnlike 46 = .ok (.iaload, 1) := by decide +kernel
theorem dX11_areUnlike_47 : decode cX11_areUnlike 47 = .ok (.iastore, 1) := by decide +kernel
theorem dX11_areUnlike_48 : decode cX11_areUnlike 48 = .ok (.iinc 4 1, 3) := by decide +kernel
theorem dX11_areUnlike_51 : decode cX11_areUnlike 51 = .ok (.goto (-23), 3) := by decide +kernel
theorem dX11_areUnlike_54 : decode cX11_areUnlike 54 = .ok (.aload_n 0, 1) := by decide +kernel
theorem dX11_areUnlike_55 : decode cX11_areUnlike 55 = .ok (.getfield 98, 3) := by decide +kernel
theorem dX11_areUnlike_58 : decode cX11_areUnlike 58 = .ok (.iload_n 1, 1) := by decide +kernel
theorem dX11_areUnlike_59 : decode cX11_areUnlike 59 = .ok (.iload_n 3, 1) := by decide +kernel
theorem dX11_areUnlike_60 : decode cX11_areUnlike 60 = .ok (.iastore, 1) := by decide +kernel
theorem dX11_areUnlike_61 : decode cX11_areUnlike 61 = .ok (.iconst 1, 1) := by decide +kernel
theorem dX11_areUnlike_62 : decode cX11_areUnlike 62 = .ok (.istore 4, 2) := by decide +kernel
theorem dX11_areUnlike_64 : decode cX11_areUnlike 64 = .ok (.iconst 0, 1) := by decide +kernel
theorem dX11_areUnlike_65 : decode cX11_areUnlike 65 = .ok (.istore 5, 2) := by decide +kernel
theorem dX11_areUnlike_67 : decode cX11_areUnlike 67 = .ok (.iload 5, 2) := by decide +kernel
theorem dX11_areUnlike_69 : decode cX11_areUnlike 69 = .ok (.iload_n 1, 1) := by decide +kernel
theorem dX11_areUnlike_70 : decode cX11_areUnlike 70 = .ok (.if_icmp .gt 129, 3) := by decide +kernel
theorem dX11_areUnlike_73 : decode cX11_areUnlike 73 = .ok (.iload 4, 2) := by decide +kernel
theorem dX11_areUnlike_75 : decode cX11_areUnlike 75 = .ok (.ifCond .eq 124, 3) := by decide +kernel
theorem dX11_areUnlike_78 : decode cX11_areUnlike 78 = .ok (.aload_n 0, 1) := by decide +kernel
theorem dX11_areUnlike_79 : decode cX11_areUnlike 79 = .ok (.aload_n 0, 1) := by decide +kernel
theorem dX11_areUnlike_80 : decode cX11_areUnlike 80 = .ok (.getfield 98, 3) := by decide +kernel
theorem dX11_areUnlike_83 : decode cX11_areUnlike 83 = .ok (.iload 5, 2) := by decide +kernel
theorem dX11_areUnlike_85 : decode cX11_areUnlike 85 = .ok (.iaload, 1) := by decide +kernel
theorem dX11_areUnlike_86 : decode cX11_areUnlike 86 = .ok (.invokevirtual 362, 3) := by decide +kernel
theorem dX11_areUnlike_89 : decode cX11_areUnlike 89 = .ok (.istore 4, 2) := by decide +kernel
theorem dX11_areUnlike_91 : decode cX11_areUnlike 91 = .ok (.iload 5, 2) := by decide +kernel
theorem dX11_areUnlike_93 : decode cX11_areUnlike 93 = .ok (.istore 6, 2) := by decide +kernel
theorem dX11_areUnlike_95 : decode cX11_areUnlike 95 = .ok (.iload 6, 2) := by decide +kernel
theorem dX11_areUnlike_97 : decode cX11_areUnlike 97 = .ok (.iload_n 1, 1) := by decide +kernel
theorem dX11_areUnlike_98 : decode cX11_areUnlike 98 = .ok (.if_icmp .gt 95, 3) := by decide +kernel
theorem dX11_areUnlike_101 : decode cX11_areUnlike 101 = .ok (.iload 4, 2) := by decide +kernel
theorem dX11_areUnlike_103 : decode cX11_areUnlike 103 = .ok (.ifCond .eq 90, 3) := by decide +kernel
theorem dX11_areUnlike_106 : decode cX11_areUnlike 106 = .ok (.iload_n 2, 1) := by decide +kernel
theorem dX11_areUnlike_107 : decode cX11_areUnlike 107 = .ok (.iconst 1, 1) := by decide +kernel
theorem dX11_areUnlike_108 : decode cX11_areUnlike 108 = .ok (.if_icmp .le 85, 3) := by decide +kernel
theorem dX11_areUnlike_111 : decode cX11_areUnlike 111 = .ok (.aload_n 0, 1) := by decide +kernel
theorem dX11_areUnlike_112 : decode cX11_areUnlike 112 = .ok (.aload_n 0, 1) := by decide +kernel
theorem dX11_areUnlike_113 : decode cX11_areUnlike 113 = .ok (.getfield 98, 3) := by decide +kernel
theorem dX11_areUnlike_116 : decode cX11_areUnlike 116 = .ok (.iload 5, 2) := by decide +kernel
theorem dX11_areUnlike_118 : decode cX11_areUnlike 118 = .ok (.iaload, 1) := by decide +kernel
theorem dX11_areUnlike_119 : decode cX11_areUnlike 119 = .ok (.aload_n 0, 1) := by decide +kernel
theorem dX11_areUnlike_120 : decode cX11_areUnlike 120 = .ok (.getfield 98, 3) := by decide +kernel
theorem dX11_areUnlike_123 : decode cX11_areUnlike 123 = .ok (.iload 6, 2) := by decide +kernel
theorem dX11_areUnlike_125 : decode cX11_areUnlike 125 = .ok (.iaload, 1) := by decide +kernel
theorem dX11_areUnlike_126 : decode cX11_areUnlike 126 = .ok (.iadd, 1) := by decide +kernel
theorem dX11_areUnlike_127 : decode cX11_areUnlike 127 = .ok (.invokevirtual 362, 3) := by decide +kernel
theorem dX11_areUnlike_130 : decode cX11_areUnlike 130 = .ok (.istore 4, 2) := by decide +kernel
theorem dX11_areUnlike_132 : decode cX11_areUnlike 132 = .ok (.iload 6, 2) := by decide +kernel
theorem dX11_areUnlike_134 : decode cX11_areUnlike 134 = .ok (.istore 7, 2) := by decide +kernel
theorem dX11_areUnlike_136 : decode cX11_areUnlike 136 = .ok (.iload 7, 2) := by decide +kernel
theorem dX11_areUnlike_138 : decode cX11_areUnlike 138 = .ok (.iload_n 1, 1) := by decide +kernel
theorem dX11_areUnlike_139 : decode cX11_areUnlike 139 = .ok (.if_icmp .gt 48, 3) := by decide +kernel
theorem dX11_areUnlike_142 : decode cX11_areUnlike 142 = .ok (.iload 4, 2) := by decide +kernel
theorem dX11_areUnlike_144 : decode cX11_areUnlike 144 = .ok (.ifCond .eq 43, 3) := by decide +kernel
theorem dX11_areUnlike_147 : decode cX11_areUnlike 147 = .ok (.iload_n 2, 1) := by decide +kernel
theorem dX11_areUnlike_148 : decode cX11_areUnlike 148 = .ok (.iconst 2, 1) := by decide +kernel
theorem dX11_areUnlike_149 : decode cX11_areUnlike 149 = .ok (.if_icmp .le 38, 3) := by decide +kernel
theorem dX11_areUnlike_152 : decode cX11_areUnlike 152 = .ok (.aload_n 0, 1) := by decide +kernel
theorem dX11_areUnlike_153 : decode cX11_areUnlike 153 = .ok (.aload_n 0, 1) := by decide +kernel
theorem dX11_areUnlike_154 : decode cX11_areUnlike 154 = .ok (.getfield 98, 3) := by decide +kernel
theorem dX11_areUnlike_157 : decode cX11_areUnlike 157 = .ok (.iload 5, 2) := by decide +kernel
theorem dX11_areUnlike_159 : decode cX11_areUnlike 159 = .ok (.iaload, 1) := by decide +kernel
theorem dX11_areUnlike_160 : decode cX11_areUnlike 160 = .ok (.aload_n 0, 1) := by decide +kernel
theorem dX11_areUnlike_161 : decode cX11_areUnlike 161 = .ok (.getfield 98, 3) := by decide +kernel
theorem dX11_areUnlike_164 : decode cX11_areUnlike 164 = .ok (.iload 6, 2) := by decide +kernel
theorem dX11_areUnlike_166 : decode cX11_areUnlike 166 = .ok (.iaload, 1) := by decide +kernel
theorem dX11_areUnlike_167 : decode cX11_areUnlike 167 = .ok (.iadd, 1) := by decide +kernel
theorem dX11_areUnlike_168 : decode cX11_areUnlike 168 = .ok (.aload_n 0, 1) := by decide +kernel
theorem dX11_areUnlike_169 : decode cX11_areUnlike 169 = .ok (.getfield 98, 3) := by decide +kernel
theorem dX11_areUnlike_172 : decode cX11_areUnlike 172 = .ok (.iload 7, 2) := by decide +kernel
theorem dX11_areUnlike_174 : decode cX11_areUnlike 174 = .ok (.iaload, 1) := by decide +kernel
theorem dX11_areUnlike_175 : decode cX11_areUnlike 175 = .ok (.iadd, 1) := by decide +kernel
theorem dX11_areUnlike_176 : decode cX11_areUnlike 176 = .ok (.invokevirtual 362, 3) := by decide +kernel
theorem dX11_areUnlike_179 : decode cX11_areUnlike 179 = .ok (.istore 4, 2) := by decide +kernel
theorem dX11_areUnlike_181 : decode cX11_areUnlike 181 = .ok (.iinc 7 1, 3) := by decide +kernel
theorem dX11_areUnlike_184 : decode cX11_areUnlike 184 = .ok (.goto (-48), 3) := by decide +kernel
theorem dX11_areUnlike_187 : decode cX11_areUnlike 187 = .ok (.iinc 6 1, 3) := by decide +kernel
theorem dX11_areUnlike_190 : decode cX11_areUnlike 190 = .ok (.goto (-95), 3) := by decide +kernel
theorem dX11_areUnlike_193 : decode cX11_areUnlike 193 = .ok (.iinc 5 1, 3) := by decide +kernel
theorem dX11_areUnlike_196 : decode cX11_areUnlike 196 = .ok (.goto (-129), 3) := by decide +kernel
theorem dX11_areUnlike_199 : decode cX11_areUnlike 199 = .ok (.iload 4, 2) := by decide +kernel
theorem dX11_areUnlike_201 : decode cX11_areUnlike 201 = .ok (.ireturn, 1) := by decide +kernel
theorem dX11_chooses_0 : decode cX11_chooses 0 = .ok (.iconst 0, 1) := by decide +kernel
theorem dX11_chooses_1 : decode cX11_chooses 1 = .ok (.istore 4, 2) := by decide +kernel
theorem dX11_chooses_3 : decode cX11_chooses 3 = .ok (.aload_n 0, 1) := by decide +kernel
theorem dX11_chooses_4 : decode cX11_chooses 4 = .ok (.getfield 95, 3) := by decide +kernel
theorem dX11_chooses_7 : decode cX11_chooses 7 = .ok (.iconst 0, 1) := by decide +kernel
theorem dX11_chooses_8 : decode cX11_chooses 8 = .ok (.iconst 0, 1) := by decide +kernel
theorem dX11_chooses_9 : decode cX11_chooses 9 = .ok (.iastore, 1) := by decide +kernel
theorem dX11_chooses_10 : decode cX11_chooses 10 = .ok (.iload 4, 2) := by decide +kernel
theorem dX11_chooses_12 : decode cX11_chooses 12 = .ok (.ifCond .lt 92, 3) := by decide +kernel
theorem dX11_chooses_15 : decode cX11_chooses 15 = .ok (.aload_n 0, 1) := by decide +kernel
theorem dX11_chooses_16 : decode cX11_chooses 16 = .ok (.getfield 95, 3) := by decide +kernel
theorem dX11_chooses_19 : decode cX11_chooses 19 = .ok (.iload 4, 2) := by decide +kernel
theorem dX11_chooses_21 : decode cX11_chooses 21 = .ok (.dup2, 1) := by decide +kernel
theorem dX11_chooses_22 : decode cX11_chooses 22 = .ok (.iaload, 1) := by decide +kernel
theorem dX11_chooses_23 : decode cX11_chooses 23 = .ok (.iconst 1, 1) := by decide +kernel
theorem dX11_chooses_24 : decode cX11_chooses 24 = .ok (.iadd, 1) := by decide +kernel
theorem dX11_chooses_25 : decode cX11_chooses 25 = .ok (.iastore, 1) := by decide +kernel
theorem dX11_chooses_26 : decode cX11_chooses 26 = .ok (.aload_n 0, 1) := by decide +kernel
theorem dX11_chooses_27 : decode cX11_chooses 27 = .ok (.getfield 95, 3) := by decide +kernel
theorem dX11_chooses_30 : decode cX11_chooses 30 = .ok (.iload 4, 2) := by decide +kernel
theorem dX11_chooses_32 : decode cX11_chooses 32 = .ok (.iaload, 1) := by decide +kernel
theorem dX11_chooses_33 : decode cX11_chooses 33 = .ok (.iload_n 3, 1) := by decide +kernel
theorem dX11_chooses_34 : decode cX11_chooses 34 = .ok (.iload_n 1, 1) := by decide +kernel
theorem dX11_chooses_35 : decode cX11_chooses 35 = .ok (.iconst 1, 1) := by decide +kernel
theorem dX11_chooses_36 : decode cX11_chooses 36 = .ok (.isub, 1) := by decide +kernel
theorem dX11_chooses_37 : decode cX11_chooses 37 = .ok (.iload 4, 2) := by decide +kernel
theorem dX11_chooses_39 : decode cX11_chooses 39 = .ok (.isub, 1) := by decide +kernel
theorem dX11_chooses_40 : decode cX11_chooses 40 = .ok (.isub, 1) := by decide +kernel
theorem dX11_chooses_41 : decode cX11_chooses 41 = .ok (.if_icmp .le 9, 3) := by decide +kernel
theorem dX11_chooses_44 : decode cX11_chooses 44 = .ok (.iinc 4 (-1), 3) := by decide +kernel
theorem dX11_chooses_47 : decode cX11_chooses 47 = .ok (.goto (-37), 3) := by decide +kernel
theorem dX11_chooses_50 : decode cX11_chooses 50 = .ok (.aload_n 0, 1) := by decide +kernel
theorem dX11_chooses_51 : decode cX11_chooses 51 = .ok (.iload 4, 2) := by decide +kernel
theorem dX11_chooses_53 : decode cX11_chooses 53 = .ok (.iconst 1, 1) := by decide +kernel
theorem dX11_chooses_54 : decode cX11_chooses 54 = .ok (.iadd, 1) := by decide +kernel
theorem dX11_chooses_55 : decode cX11_chooses 55 = .ok (.iload_n 2, 1) := by decide +kernel
theorem dX11_chooses_56 : decode cX11_chooses 56 = .ok (.iload_n 3, 1) := by decide +kernel
theorem dX11_chooses_57 : decode cX11_chooses 57 = .ok (.invokevirtual 365, 3) := by decide +kernel
theorem dX11_chooses_60 : decode cX11_chooses 60 = .ok (.ifCond .eq (-50), 3) := by decide +kernel
theorem dX11_chooses_63 : decode cX11_chooses 63 = .ok (.iload 4, 2) := by decide +kernel
theorem dX11_chooses_65 : decode cX11_chooses 65 = .ok (.iload_n 1, 1) := by decide +kernel
theorem dX11_chooses_66 : decode cX11_chooses 66 = .ok (.iconst 2, 1) := by decide +kernel
theorem dX11_chooses_67 : decode cX11_chooses 67 = .ok (.isub, 1) := by decide +kernel
theorem dX11_chooses_68 : decode cX11_chooses 68 = .ok (.if_icmp .ne 14, 3) := by decide +kernel
theorem dX11_chooses_71 : decode cX11_chooses 71 = .ok (.aload_n 0, 1) := by decide +kernel
theorem dX11_chooses_72 : decode cX11_chooses 72 = .ok (.getfield 95, 3) := by decide +kernel
theorem dX11_chooses_75 : decode cX11_chooses 75 = .ok (.iload_n 1, 1) := by decide +kernel
theorem dX11_chooses_76 : decode cX11_chooses 76 = .ok (.iconst 1, 1) := by decide +kernel
theorem dX11_chooses_77 : decode cX11_chooses 77 = .ok (.isub, 1) := by decide +kernel
theorem dX11_chooses_78 : decode cX11_chooses 78 = .ok (.iload_n 3, 1) := by decide +kernel
theorem dX11_chooses_79 : decode cX11_chooses 79 = .ok (.iastore, 1) := by decide +kernel
theorem dX11_chooses_80 : decode cX11_chooses 80 = .ok (.iconst 1, 1) := by decide +kernel
theorem dX11_chooses_81 : decode cX11_chooses 81 = .ok (.ireturn, 1) := by decide +kernel
theorem dX11_chooses_82 : decode cX11_chooses 82 = .ok (.iinc 4 1, 3) := by decide +kernel
theorem dX11_chooses_85 : decode cX11_chooses 85 = .ok (.aload_n 0, 1) := by decide +kernel
theorem dX11_chooses_86 : decode cX11_chooses 86 = .ok (.getfield 95, 3) := by decide +kernel
theorem dX11_chooses_89 : decode cX11_chooses 89 = .ok (.iload 4, 2) := by decide +kernel
theorem dX11_chooses_91 : decode cX11_chooses 91 = .ok (.aload_n 0, 1) := by decide +kernel
theorem dX11_chooses_92 : decode cX11_chooses 92 = .ok (.getfield 95, 3) := by decide +kernel
theorem dX11_chooses_95 : decode cX11_chooses 95 = .ok (.iload 4, 2) := by decide +kernel
theorem dX11_chooses_97 : decode cX11_chooses 97 = .ok (.iconst 1, 1) := by decide +kernel
theorem dX11_chooses_98 : decode cX11_chooses 98 = .ok (.isub, 1) := by decide +kernel
theorem dX11_chooses_99 : decode cX11_chooses 99 = .ok (.iaload, 1) := by decide +kernel
theorem dX11_chooses_100 : decode cX11_chooses 100 = .ok (.iastore, 1) := by decide +kernel
theorem dX11_chooses_101 : decode cX11_chooses 101 = .ok (.goto (-91), 3) := by decide +kernel
theorem dX11_chooses_104 : decode cX11_chooses 104 = .ok (.iconst 0, 1) := by decide +kernel
theorem dX11_chooses_105 : decode cX11_chooses 105 = .ok (.ireturn, 1) := by decide +kernel
theorem dX11_chosen_0 : decode cX11_chosen 0 = .ok (.iload_n 1, 1) := by decide +kernel
theorem dX11_chosen_1 : decode cX11_chosen 1 = .ok (.iconst 2, 1) := by decide +kernel
theorem dX11_chosen_2 : decode cX11_chosen 2 = .ok (.iconst 5, 1) := by decide +kernel
theorem dX11_chosen_3 : decode cX11_chosen 3 = .ok (.invokestatic 115, 3) := by decide +kernel
theorem dX11_chosen_6 : decode cX11_chosen 6 = .ok (.ifCond .eq 23, 3) := by decide +kernel
theorem dX11_chosen_9 : decode cX11_chosen 9 = .ok (.iload_n 2, 1) := by decide +kernel
theorem dX11_chosen_10 : decode cX11_chosen 10 = .ok (.iconst 1, 1) := by decide +kernel
theorem dX11_chosen_11 : decode cX11_chosen 11 = .ok (.iconst 3, 1) := by decide +kernel
theorem dX11_chosen_12 : decode cX11_chosen 12 = .ok (.invokestatic 115, 3) := by decide +kernel
theorem dX11_chosen_15 : decode cX11_chosen 15 = .ok (.ifCond .eq 14, 3) := by decide +kernel
theorem dX11_chosen_18 : decode cX11_chosen 18 = .ok (.iload_n 3, 1) := by decide +kernel
theorem dX11_chosen_19 : decode cX11_chosen 19 = .ok (.iconst 0, 1) := by decide +kernel
theorem dX11_chosen_20 : decode cX11_chosen 20 = .ok (.iload_n 1, 1) := by decide +kernel
theorem dX11_chosen_21 : decode cX11_chosen 21 = .ok (.iconst 1, 1) := by decide +kernel
theorem dX11_chosen_22 : decode cX11_chosen 22 = .ok (.isub, 1) := by decide +kernel
theorem dX11_chosen_23 : decode cX11_chosen 23 = .ok (.invokestatic 115, 3) := by decide +kernel
theorem dX11_chosen_26 : decode cX11_chosen 26 = .ok (.ifCond .ne 5, 3) := by decide +kernel
theorem dX11_chosen_29 : decode cX11_chosen 29 = .ok (.iconst (-1), 1) := by decide +kernel
theorem dX11_chosen_30 : decode cX11_chosen 30 = .ok (.ireturn, 1) := by decide +kernel
theorem dX11_chosen_31 : decode cX11_chosen 31 = .ok (.iload_n 1, 1) := by decide +kernel
theorem dX11_chosen_32 : decode cX11_chosen 32 = .ok (.istore 4, 2) := by decide +kernel
theorem dX11_chosen_34 : decode cX11_chosen 34 = .ok (.iload 4, 2) := by decide +kernel
theorem dX11_chosen_36 : decode cX11_chosen 36 = .ok (.bipush 60, 2) := by decide +kernel
theorem dX11_chosen_38 : decode cX11_chosen 38 = .ok (.if_icmp .gt 27, 3) := by decide +kernel
theorem dX11_chosen_41 : decode cX11_chosen 41 = .ok (.aload_n 0, 1) := by decide +kernel
theorem dX11_chosen_42 : decode cX11_chosen 42 = .ok (.iload_n 1, 1) := by decide +kernel
theorem dX11_chosen_43 : decode cX11_chosen 43 = .ok (.iload_n 2, 1) := by decide +kernel
theorem dX11_chosen_44 : decode cX11_chosen 44 = .ok (.iload 4, 2) := by decide +kernel
theorem dX11_chosen_46 : decode cX11_chosen 46 = .ok (.invokevirtual 368, 3) := by decide +kernel
theorem dX11_chosen_49 : decode cX11_chosen 49 = .ok (.ifCond .eq 10, 3) := by decide +kernel
theorem dX11_chosen_52 : decode cX11_chosen 52 = .ok (.aload_n 0, 1) := by decide +kernel
theorem dX11_chosen_53 : decode cX11_chosen 53 = .ok (.getfield 95, 3) := by decide +kernel
theorem dX11_chosen_56 : decode cX11_chosen 56 = .ok (.iload_n 3, 1) := by decide +kernel
theorem dX11_chosen_57 : decode cX11_chosen 57 = .ok (.iaload, 1) := by decide +kernel
theorem dX11_chosen_58 : decode cX11_chosen 58 = .ok (.ireturn, 1) := by decide +kernel
theorem dX11_chosen_59 : decode cX11_chosen 59 = .ok (.iinc 4 1, 3) := by decide +kernel
theorem dX11_chosen_62 : decode cX11_chosen 62 = .ok (.goto (-28), 3) := by decide +kernel
theorem dX11_chosen_65 : decode cX11_chosen 65 = .ok (.iconst (-1), 1) := by decide +kernel
theorem dX11_chosen_66 : decode cX11_chosen 66 = .ok (.ireturn, 1) := by decide +kernel
theorem dX11_tray_0 : decode cX11_tray 0 = .ok (.aload_n 0, 1) := by decide +kernel
theorem dX11_tray_1 : decode cX11_tray 1 = .ok (.iload_n 1, 1) := by decide +kernel
theorem dX11_tray_2 : decode cX11_tray 2 = .ok (.invokevirtual 309, 3) := by decide +kernel
theorem dX11_tray_5 : decode cX11_tray 5 = .ok (.ifCond .eq 12, 3) := by decide +kernel
theorem dX11_tray_8 : decode cX11_tray 8 = .ok (.iload_n 2, 1) := by decide +kernel
theorem dX11_tray_9 : decode cX11_tray 9 = .ok (.iconst (-1), 1) := by decide +kernel
theorem dX11_tray_10 : decode cX11_tray 10 = .ok (.iconst 5, 1) := by decide +kernel
theorem dX11_tray_11 : decode cX11_tray 11 = .ok (.invokestatic 115, 3) := by decide +kernel
theorem dX11_tray_14 : decode cX11_tray 14 = .ok (.ifCond .ne 5, 3) := by decide +kernel
theorem dX11_tray_17 : decode cX11_tray 17 = .ok (.iconst 0, 1) := by decide +kernel
theorem dX11_tray_18 : decode cX11_tray 18 = .ok (.ireturn, 1) := by decide +kernel
theorem dX11_tray_19 : decode cX11_tray 19 = .ok (.aload_n 0, 1) := by decide +kernel
theorem dX11_tray_20 : decode cX11_tray 20 = .ok (.getfield 7, 3) := by decide +kernel
theorem dX11_tray_23 : decode cX11_tray 23 = .ok (.bipush 20, 2) := by decide +kernel
theorem dX11_tray_25 : decode cX11_tray 25 = .ok (.iconst 5, 1) := by decide +kernel
theorem dX11_tray_26 : decode cX11_tray 26 = .ok (.iload_n 1, 1) := by decide +kernel
theorem dX11_tray_27 : decode cX11_tray 27 = .ok (.imul, 1) := by decide +kernel
theorem dX11_tray_28 : decode cX11_tray 28 = .ok (.iadd, 1) := by decide +kernel
theorem dX11_tray_29 : decode cX11_tray 29 = .ok (.iconst 4, 1) := by decide +kernel
theorem dX11_tray_30 : decode cX11_tray 30 = .ok (.iadd, 1) := by decide +kernel
theorem dX11_tray_31 : decode cX11_tray 31 = .ok (.iload_n 2, 1) := by decide +kernel
theorem dX11_tray_32 : decode cX11_tray 32 = .ok (.iastore, 1) := by decide +kernel
theorem dX11_tray_33 : decode cX11_tray 33 = .ok (.iconst 1, 1) := by decide +kernel
theorem dX11_tray_34 : decode cX11_tray 34 = .ok (.ireturn, 1) := by decide +kernel
theorem dX11_laysWrong_0 : decode cX11_laysWrong 0 = .ok (.iconst 0, 1) := by decide +kernel
theorem dX11_laysWrong_1 : decode cX11_laysWrong 1 = .ok (.istore_n 1, 1) := by decide +kernel
theorem dX11_laysWrong_2 : decode cX11_laysWrong 2 = .ok (.iload_n 1, 1) := by decide +kernel
theorem dX11_laysWrong_3 : decode cX11_laysWrong 3 = .ok (.bipush 6, 2) := by decide +kernel
theorem dX11_laysWrong_5 : decode cX11_laysWrong 5 = .ok (.if_icmp .ge 106, 3) := by decide +kernel
theorem dX11_laysWrong_8 : decode cX11_laysWrong 8 = .ok (.iconst 0, 1) := by decide +kernel
theorem dX11_laysWrong_9 : decode cX11_laysWrong 9 = .ok (.istore_n 2, 1) := by decide +kernel
theorem dX11_laysWrong_10 : decode cX11_laysWrong 10 = .ok (.iload_n 2, 1) := by decide +kernel
theorem dX11_laysWrong_11 : decode cX11_laysWrong 11 = .ok (.sipush 1000, 3) := by decide +kernel
theorem dX11_laysWrong_14 : decode cX11_laysWrong 14 = .ok (.if_icmp .gt 91, 3) := by decide +kernel
theorem dX11_laysWrong_17 : decode cX11_laysWrong 17 = .ok (.iconst 0, 1) := by decide +kernel
theorem dX11_laysWrong_18 : decode cX11_laysWrong 18 = .ok (.istore_n 3, 1) := by decide +kernel
theorem dX11_laysWrong_19 : decode cX11_laysWrong 19 = .ok (.iconst 0, 1) := by decide +kernel
theorem dX11_laysWrong_20 : decode cX11_laysWrong 20 = .ok (.istore 4, 2) := by decide +kernel
theorem dX11_laysWrong_22 : decode cX11_laysWrong 22 = .ok (.iload 4, 2) := by decide +kernel
theorem dX11_laysWrong_24 : decode cX11_laysWrong 24 = .ok (.aload_n 0, 1) := by decide +kernel
theorem dX11_laysWrong_25 : decode cX11_laysWrong 25 = .ok (.getfield 7, 3) := by decide +kernel
theorem dX11_laysWrong_28 : decode cX11_laysWrong 28 = .ok (.iconst 1, 1) := by decide +kernel
theorem dX11_laysWrong_29 : decode cX11_laysWrong 29 = .ok (.iaload, 1) := by decide +kernel
theorem dX11_laysWrong_30 : decode cX11_laysWrong 30 = .ok (.if_icmp .ge 56, 3) := by decide +kernel
theorem dX11_laysWrong_33 : decode cX11_laysWrong 33 = .ok (.aload_n 0, 1) := by decide +kernel
theorem dX11_laysWrong_34 : decode cX11_laysWrong 34 = .ok (.iload 4, 2) := by decide +kernel
theorem dX11_laysWrong_36 : decode cX11_laysWrong 36 = .ok (.iconst 4, 1) := by decide +kernel
theorem dX11_laysWrong_37 : decode cX11_laysWrong 37 = .ok (.invokevirtual 300, 3) := by decide +kernel
theorem dX11_laysWrong_40 : decode cX11_laysWrong 40 = .ok (.istore 5, 2) := by decide +kernel
theorem dX11_laysWrong_42 : decode cX11_laysWrong 42 = .ok (.iload_n 3, 1) := by decide +kernel
theorem dX11_laysWrong_43 : decode cX11_laysWrong 43 = .ok (.iload 5, 2) := by decide +kernel
theorem dX11_laysWrong_45 : decode cX11_laysWrong 45 = .ok (.iconst (-1), 1) := by decide +kernel
theorem dX11_laysWrong_46 : decode cX11_laysWrong 46 = .ok (.if_icmp .eq 31, 3) := by decide +kernel
theorem dX11_laysWrong_49 : decode cX11_laysWrong 49 = .ok (.iload 5, 2) := by decide +kernel
theorem dX11_laysWrong_51 : decode cX11_laysWrong 51 = .ok (.iload_n 1, 1) := by decide +kernel
theorem dX11_laysWrong_52 : decode cX11_laysWrong 52 = .ok (.if_icmp .eq 25, 3) := by decide +kernel
theorem dX11_laysWrong_55 : decode cX11_laysWrong 55 = .ok (.iload_n 2, 1) := by decide +kernel
theorem dX11_laysWrong_56 : decode cX11_laysWrong 56 = .ok (.sipush 1000, 3) := by decide +kernel
theorem dX11_laysWrong_59 : decode cX11_laysWrong 59 = .ok (.if_icmp .eq 14, 3) := by decide +kernel
theorem dX11_laysWrong_62 : decode cX11_laysWrong 62 = .ok (.aload_n 0, 1) := by decide +kernel
theorem dX11_laysWrong_63 : decode cX11_laysWrong 63 = .ok (.iload 4, 2) := by decide +kernel
theorem dX11_laysWrong_65 : decode cX11_laysWrong 65 = .ok (.iconst 1, 1) := by decide +kernel
theorem dX11_laysWrong_66 : decode cX11_laysWrong 66 = .ok (.invokevirtual 300, 3) := by decide +kernel
theorem dX11_laysWrong_69 : decode cX11_laysWrong 69 = .ok (.iload_n 2, 1) := by decide +kernel
theorem dX11_laysWrong_70 : decode cX11_laysWrong 70 = .ok (.if_icmp .ge 7, 3) := by decide +kernel
theorem dX11_laysWrong_73 : decode cX11_laysWrong 73 = .ok (.iconst 1, 1) := by decide +kernel
theorem dX11_laysWrong_74 : decode cX11_laysWrong 74 = .ok (.goto 4, 3) := by decide +kernel
theorem dX11_laysWrong_77 : decode cX11_laysWrong 77 = .ok (.iconst 0, 1) := by decide +kernel
theorem dX11_laysWrong_78 : decode cX11_laysWrong 78 = .ok (.iadd, 1) := by decide +kernel
theorem dX11_laysWrong_79 : decode cX11_laysWrong 79 = .ok (.istore_n 3, 1) := by decide +kernel
theorem dX11_laysWrong_80 : decode cX11_laysWrong 80 = .ok (.iinc 4 1, 3) := by decide +kernel
theorem dX11_laysWrong_83 : decode cX11_laysWrong 83 = .ok (.goto (-61), 3) := by decide +kernel
theorem dX11_laysWrong_86 : decode cX11_laysWrong 86 = .ok (.aload_n 0, 1) := by decide +kernel
theorem dX11_laysWrong_87 : decode cX11_laysWrong 87 = .ok (.getfield 105, 3) := by decide +kernel
theorem dX11_laysWrong_90 : decode cX11_laysWrong 90 = .ok (.sipush 1001, 3) := by decide +kernel
theorem dX11_laysWrong_93 : decode cX11_laysWrong 93 = .ok (.iload_n 1, 1) := by decide +kernel
theorem dX11_laysWrong_94 : decode cX11_laysWrong 94 = .ok (.imul, 1) := by decide +kernel
theorem dX11_laysWrong_95 : decode cX11_laysWrong 95 = .ok (.iload_n 2, 1) := by decide +kernel
theorem dX11_laysWrong_96 : decode cX11_laysWrong 96 = .ok (.iadd, 1) := by decide +kernel
theorem dX11_laysWrong_97 : decode cX11_laysWrong 97 = .ok (.iload_n 3, 1) := by decide +kernel
theorem dX11_laysWrong_98 : decode cX11_laysWrong 98 = .ok (.iastore, 1) := by decide +kernel
theorem dX11_laysWrong_99 : decode cX11_laysWrong 99 = .ok (.iinc 2 1, 3) := by decide +kernel
theorem dX11_laysWrong_102 : decode cX11_laysWrong 102 = .ok (.goto (-92), 3) := by decide +kernel
theorem dX11_laysWrong_105 : decode cX11_laysWrong 105 = .ok (.iinc 1 1, 3) := by decide +kernel
theorem dX11_laysWrong_108 : decode cX11_laysWrong 108 = .ok (.goto (-106), 3) := by decide +kernel
theorem dX11_laysWrong_111 : decode cX11_laysWrong 111 = .ok (.return_, 1) := by decide +kernel
theorem dX11_wrongBetween_0 : decode cX11_wrongBetween 0 = .ok (.aload_n 0, 1) := by decide +kernel
theorem dX11_wrongBetween_1 : decode cX11_wrongBetween 1 = .ok (.getfield 105, 3) := by decide +kernel
theorem dX11_wrongBetween_4 : decode cX11_wrongBetween 4 = .ok (.sipush 1001, 3) := by decide +kernel
theorem dX11_wrongBetween_7 : decode cX11_wrongBetween 7 = .ok (.iload_n 1, 1) := by decide +kernel
theorem dX11_wrongBetween_8 : decode cX11_wrongBetween 8 = .ok (.imul, 1) := by decide +kernel
theorem dX11_wrongBetween_9 : decode cX11_wrongBetween 9 = .ok (.iload_n 3, 1) := by decide +kernel
theorem dX11_wrongBetween_10 : decode cX11_wrongBetween 10 = .ok (.iadd, 1) := by decide +kernel
theorem dX11_wrongBetween_11 : decode cX11_wrongBetween 11 = .ok (.iaload, 1) := by decide +kernel
theorem dX11_wrongBetween_12 : decode cX11_wrongBetween 12 = .ok (.aload_n 0, 1) := by decide +kernel
theorem dX11_wrongBetween_13 : decode cX11_wrongBetween 13 = .ok (.getfield 105, 3) := by decide +kernel
theorem dX11_wrongBetween_16 : decode cX11_wrongBetween 16 = .ok (.sipush 1001, 3) := by decide +kernel
theorem dX11_wrongBetween_19 : decode cX11_wrongBetween 19 = .ok (.iload_n 1, 1) := by decide +kernel
theorem dX11_wrongBetween_20 : decode cX11_wrongBetween 20 = .ok (.imul, 1) := by decide +kernel
theorem dX11_wrongBetween_21 : decode cX11_wrongBetween 21 = .ok (.iload_n 2, 1) := by decide +kernel
theorem dX11_wrongBetween_22 : decode cX11_wrongBetween 22 = .ok (.iadd, 1) := by decide +kernel
theorem dX11_wrongBetween_23 : decode cX11_wrongBetween 23 = .ok (.iaload, 1) := by decide +kernel
theorem dX11_wrongBetween_24 : decode cX11_wrongBetween 24 = .ok (.isub, 1) := by decide +kernel
theorem dX11_wrongBetween_25 : decode cX11_wrongBetween 25 = .ok (.ireturn, 1) := by decide +kernel
theorem dX11_sorted_0 : decode cX11_sorted 0 = .ok (.iload_n 1, 1) := by decide +kernel
theorem dX11_sorted_1 : decode cX11_sorted 1 = .ok (.iconst 2, 1) := by decide +kernel
theorem dX11_sorted_2 : decode cX11_sorted 2 = .ok (.bipush 6, 2) := by decide +kernel
theorem dX11_sorted_4 : decode cX11_sorted 4 = .ok (.invokestatic 115, 3) := by decide +kernel
theorem dX11_sorted_7 : decode cX11_sorted 7 = .ok (.ifCond .eq 14, 3) := by decide +kernel
theorem dX11_sorted_10 : decode cX11_sorted 10 = .ok (.iload_n 2, 1) := by decide +kernel
theorem dX11_sorted_11 : decode cX11_sorted 11 = .ok (.iconst 0, 1) := by decide +kernel
theorem dX11_sorted_12 : decode cX11_sorted 12 = .ok (.iload_n 1, 1) := by decide +kernel
theorem dX11_sorted_13 : decode cX11_sorted 13 = .ok (.iconst 1, 1) := by decide +kernel
theorem dX11_sorted_14 : decode cX11_sorted 14 = .ok (.isub, 1) := by decide +kernel
theorem dX11_sorted_15 : decode cX11_sorted 15 = .ok (.invokestatic 115, 3) := by decide +kernel
theorem dX11_sorted_18 : decode cX11_sorted 18 = .ok (.ifCond .ne 5, 3) := by decide +kernel
theorem dX11_sorted_21 : decode cX11_sorted 21 = .ok (.iconst (-1), 1) := by decide +kernel
theorem dX11_sorted_22 : decode cX11_sorted 22 = .ok (.ireturn, 1) := by decide +kernel
theorem dX11_sorted_23 : decode cX11_sorted 23 = .ok (.aload_n 0, 1) := by decide +kernel
theorem dX11_sorted_24 : decode cX11_sorted 24 = .ok (.invokevirtual 371, 3) := by decide +kernel
theorem dX11_sorted_27 : decode cX11_sorted 27 = .ok (.iconst 0, 1) := by decide +kernel
theorem dX11_sorted_28 : decode cX11_sorted 28 = .ok (.istore_n 3, 1) := by decide +kernel
theorem dX11_sorted_29 : decode cX11_sorted 29 = .ok (.iload_n 3, 1) := by decide +kernel
theorem dX11_sorted_30 : decode cX11_sorted 30 = .ok (.sipush 1000, 3) := by decide +kernel
theorem dX11_sorted_33 : decode cX11_sorted 33 = .ok (.if_icmp .ge 34, 3) := by decide +kernel
theorem dX11_sorted_36 : decode cX11_sorted 36 = .ok (.aload_n 0, 1) := by decide +kernel
theorem dX11_sorted_37 : decode cX11_sorted 37 = .ok (.getfield 108, 3) := by decide +kernel
theorem dX11_sorted_40 : decode cX11_sorted 40 = .ok (.sipush 1001, 3) := by decide +kernel
theorem dX11_sorted_43 : decode cX11_sorted 43 = .ok (.iload_n 1, 1) := by decide +kernel
theorem dX11_sorted_44 : decode cX11_sorted 44 = .ok (.iconst 1, 1) := by decide +kernel
theorem dX11_sorted_45 : decode cX11_sorted 45 = .ok (.isub, 1) := by decide +kernel
theorem dX11_sorted_46 : decode cX11_sorted 46 = .ok (.imul, 1) := by decide +kernel
theorem dX11_sorted_47 : decode cX11_sorted 47 = .ok (.iload_n 3, 1) := by decide +kernel
theorem dX11_sorted_48 : decode cX11_sorted 48 = .ok (.iadd, 1) := by decide +kernel
theorem dX11_sorted_49 : decode cX11_sorted 49 = .ok (.aload_n 0, 1) := by decide +kernel
theorem dX11_sorted_50 : decode cX11_sorted 50 = .ok (.iload_n 1, 1) := by decide +kernel
theorem dX11_sorted_51 : decode cX11_sorted 51 = .ok (.iconst 1, 1) := by decide +kernel
theorem dX11_sorted_52 : decode cX11_sorted 52 = .ok (.isub, 1) := by decide +kernel
theorem dX11_sorted_53 : decode cX11_sorted 53 = .ok (.iload_n 3, 1) := by decide +kernel
theorem dX11_sorted_54 : decode cX11_sorted 54 = .ok (.sipush 1000, 3) := by decide +kernel
theorem dX11_sorted_57 : decode cX11_sorted 57 = .ok (.invokevirtual 374, 3) := by decide +kernel
theorem dX11_sorted_60 : decode cX11_sorted 60 = .ok (.iastore, 1) := by decide +kernel
theorem dX11_sorted_61 : decode cX11_sorted 61 = .ok (.iinc 3 1, 3) := by decide +kernel
theorem dX11_sorted_64 : decode cX11_sorted 64 = .ok (.goto (-35), 3) := by decide +kernel
theorem dX11_sorted_67 : decode cX11_sorted 67 = .ok (.iload_n 1, 1) := by decide +kernel
theorem dX11_sorted_68 : decode cX11_sorted 68 = .ok (.iconst 2, 1) := by decide +kernel
theorem dX11_sorted_69 : decode cX11_sorted 69 = .ok (.isub, 1) := by decide +kernel
theorem dX11_sorted_70 : decode cX11_sorted 70 = .ok (.istore_n 3, 1) := by decide +kernel
theorem dX11_sorted_71 : decode cX11_sorted 71 = .ok (.iload_n 3, 1) := by decide +kernel
theorem dX11_sorted_72 : decode cX11_sorted 72 = .ok (.ifCond .lt 107, 3) := by decide +kernel
theorem dX11_sorted_75 : decode cX11_sorted 75 = .ok (.iconst 0, 1) := by decide +kernel
theorem dX11_sorted_76 : decode cX11_sorted 76 = .ok (.istore 4, 2) := by decide +kernel
theorem dX11_sorted_78 : decode cX11_sorted 78 = .ok (.iload 4, 2) := by decide +kernel
theorem dX11_sorted_80 : decode cX11_sorted 80 = .ok (.sipush 1000, 3) := by decide +kernel
theorem dX11_sorted_83 : decode cX11_sorted 83 = .ok (.if_icmp .ge 90, 3) := by decide +kernel
theorem dX11_sorted_86 : decode cX11_sorted 86 = .ok (.ldc_w 377, 3) := by decide +kernel
theorem dX11_sorted_89 : decode cX11_sorted 89 = .ok (.istore 5, 2) := by decide +kernel
theorem dX11_sorted_91 : decode cX11_sorted 91 = .ok (.iload 4, 2) := by decide +kernel
theorem dX11_sorted_93 : decode cX11_sorted 93 = .ok (.istore 6, 2) := by decide +kernel
theorem dX11_sorted_95 : decode cX11_sorted 95 = .ok (.iload 6, 2) := by decide +kernel
theorem dX11_sorted_97 : decode cX11_sorted 97 = .ok (.sipush 1000, 3) := by decide +kernel
theorem dX11_sorted_100 : decode cX11_sorted 100 = .ok (.if_icmp .ge 52, 3) := by decide +kernel
theorem dX11_sorted_103 : decode cX11_sorted 103 = .ok (.aload_n 0, 1) := by decide +kernel
theorem dX11_sorted_104 : decode cX11_sorted 104 = .ok (.iload_n 3, 1) := by decide +kernel
theorem dX11_sorted_105 : decode cX11_sorted 105 = .ok (.iload 4, 2) := by decide +kernel
theorem dX11_sorted_107 : decode cX11_sorted 107 = .ok (.iload 6, 2) := by decide +kernel
theorem dX11_sorted_109 : decode cX11_sorted 109 = .ok (.invokevirtual 374, 3) := by decide +kernel
theorem dX11_sorted_112 : decode cX11_sorted 112 = .ok (.aload_n 0, 1) := by decide +kernel
theorem dX11_sorted_113 : decode cX11_sorted 113 = .ok (.getfield 108, 3) := by decide +kernel
theorem dX11_sorted_116 : decode cX11_sorted 116 = .ok (.sipush 1001, 3) := by decide +kernel
theorem dX11_sorted_119 : decode cX11_sorted 119 = .ok (.iload_n 3, 1) := by decide +kernel
theorem dX11_sorted_120 : decode cX11_sorted 120 = .ok (.iconst 1, 1) := by decide +kernel
theorem dX11_sorted_121 : decode cX11_sorted 121 = .ok (.iadd, 1) := by decide +kernel
theorem dX11_sorted_122 : decode cX11_sorted 122 = .ok (.imul, 1) := by decide +kernel
theorem dX11_sorted_123 : decode cX11_sorted 123 = .ok (.iload 6, 2) := by decide +kernel
theorem dX11_sorted_125 : decode cX11_sorted 125 = .ok (.iadd, 1) := by decide +kernel
theorem dX11_sorted_126 : decode cX11_sorted 126 = .ok (.iaload, 1) := by decide +kernel
theorem dX11_sorted_127 : decode cX11_sorted 127 = .ok (.iadd, 1) := by decide +kernel
theorem dX11_sorted_128 : decode cX11_sorted 128 = .ok (.istore 7, 2) := by decide +kernel
theorem dX11_sorted_130 : decode cX11_sorted 130 = .ok (.iload 7, 2) := by decide +kernel
theorem dX11_sorted_132 : decode cX11_sorted 132 = .ok (.iload 5, 2) := by decide +kernel
theorem dX11_sorted_134 : decode cX11_sorted 134 = .ok (.if_icmp .ge 8, 3) := by decide +kernel
theorem dX11_sorted_137 : decode cX11_sorted 137 = .ok (.iload 7, 2) := by decide +kernel
theorem dX11_sorted_139 : decode cX11_sorted 139 = .ok (.goto 5, 3) := by decide +kernel
theorem dX11_sorted_142 : decode cX11_sorted 142 = .ok (.iload 5, 2) := by decide +kernel
theorem dX11_sorted_144 : decode cX11_sorted 144 = .ok (.istore 5, 2) := by decide +kernel
theorem dX11_sorted_146 : decode cX11_sorted 146 = .ok (.iinc 6 1, 3) := by decide +kernel
theorem dX11_sorted_149 : decode cX11_sorted 149 = .ok (.goto (-54), 3) := by decide +kernel
theorem dX11_sorted_152 : decode cX11_sorted 152 = .ok (.aload_n 0, 1) := by decide +kernel
theorem dX11_sorted_153 : decode cX11_sorted 153 = .ok (.getfield 108, 3) := by decide +kernel
theorem dX11_sorted_156 : decode cX11_sorted 156 = .ok (.sipush 1001, 3) := by decide +kernel
theorem dX11_sorted_159 : decode cX11_sorted 159 = .ok (.iload_n 3, 1) := by decide +kernel
theorem dX11_sorted_160 : decode cX11_sorted 160 = .ok (.imul, 1) := by decide +kernel
theorem dX11_sorted_161 : decode cX11_sorted 161 = .ok (.iload 4, 2) := by decide +kernel
theorem dX11_sorted_163 : decode cX11_sorted 163 = .ok (.iadd, 1) := by decide +kernel
theorem dX11_sorted_164 : decode cX11_sorted 164 = .ok (.iload 5, 2) := by decide +kernel
theorem dX11_sorted_166 : decode cX11_sorted 166 = .ok (.iastore, 1) := by decide +kernel
theorem dX11_sorted_167 : decode cX11_sorted 167 = .ok (.iinc 4 1, 3) := by decide +kernel
theorem dX11_sorted_170 : decode cX11_sorted 170 = .ok (.goto (-92), 3) := by decide +kernel
theorem dX11_sorted_173 : decode cX11_sorted 173 = .ok (.iinc 3 (-1), 3) := by decide +kernel
theorem dX11_sorted_176 : decode cX11_sorted 176 = .ok (.goto (-105), 3) := by decide +kernel
theorem dX11_sorted_179 : decode cX11_sorted 179 = .ok (.iconst 0, 1) := by decide +kernel
theorem dX11_sorted_180 : decode cX11_sorted 180 = .ok (.istore_n 3, 1) := by decide +kernel
theorem dX11_sorted_181 : decode cX11_sorted 181 = .ok (.aload_n 0, 1) := by decide +kernel
theorem dX11_sorted_182 : decode cX11_sorted 182 = .ok (.getfield 108, 3) := by decide +kernel
theorem dX11_sorted_185 : decode cX11_sorted 185 = .ok (.iconst 0, 1) := by decide +kernel
theorem dX11_sorted_186 : decode cX11_sorted 186 = .ok (.iaload, 1) := by decide +kernel
theorem dX11_sorted_187 : decode cX11_sorted 187 = .ok (.istore 4, 2) := by decide +kernel
theorem dX11_sorted_189 : decode cX11_sorted 189 = .ok (.iconst 0, 1) := by decide +kernel
theorem dX11_sorted_190 : decode cX11_sorted 190 = .ok (.istore 5, 2) := by decide +kernel
theorem dX11_sorted_192 : decode cX11_sorted 192 = .ok (.iload 5, 2) := by decide +kernel
theorem dX11_sorted_194 : decode cX11_sorted 194 = .ok (.iload_n 2, 1) := by decide +kernel
theorem dX11_sorted_195 : decode cX11_sorted 195 = .ok (.if_icmp .ge 71, 3) := by decide +kernel
theorem dX11_sorted_198 : decode cX11_sorted 198 = .ok (.aload_n 0, 1) := by decide +kernel
theorem dX11_sorted_199 : decode cX11_sorted 199 = .ok (.getfield 108, 3) := by decide +kernel
theorem dX11_sorted_202 : decode cX11_sorted 202 = .ok (.sipush 1001, 3) := by decide +kernel
theorem dX11_sorted_205 : decode cX11_sorted 205 = .ok (.iload 5, 2) := by decide +kernel
theorem dX11_sorted_207 : decode cX11_sorted 207 = .ok (.imul, 1) := by decide +kernel
theorem dX11_sorted_208 : decode cX11_sorted 208 = .ok (.iload_n 3, 1) := by decide +kernel
theorem dX11_sorted_209 : decode cX11_sorted 209 = .ok (.iadd, 1) := by decide +kernel
theorem dX11_sorted_210 : decode cX11_sorted 210 = .ok (.iaload, 1) := by decide +kernel
theorem dX11_sorted_211 : decode cX11_sorted 211 = .ok (.istore 6, 2) := by decide +kernel
theorem dX11_sorted_213 : decode cX11_sorted 213 = .ok (.iload_n 3, 1) := by decide +kernel
theorem dX11_sorted_214 : decode cX11_sorted 214 = .ok (.istore 7, 2) := by decide +kernel
theorem dX11_sorted_216 : decode cX11_sorted 216 = .ok (.aload_n 0, 1) := by decide +kernel
theorem dX11_sorted_217 : decode cX11_sorted 217 = .ok (.iload 5, 2) := by decide +kernel
theorem dX11_sorted_219 : decode cX11_sorted 219 = .ok (.iload_n 3, 1) := by decide +kernel
theorem dX11_sorted_220 : decode cX11_sorted 220 = .ok (.iload 7, 2) := by decide +kernel
theorem dX11_sorted_222 : decode cX11_sorted 222 = .ok (.invokevirtual 374, 3) := by decide +kernel
theorem dX11_sorted_225 : decode cX11_sorted 225 = .ok (.aload_n 0, 1) := by decide +kernel
theorem dX11_sorted_226 : decode cX11_sorted 226 = .ok (.getfield 108, 3) := by decide +kernel
theorem dX11_sorted_229 : decode cX11_sorted 229 = .ok (.sipush 1001, 3) := by decide +kernel
theorem dX11_sorted_232 : decode cX11_sorted 232 = .ok (.iload 5, 2) := by decide +kernel
theorem dX11_sorted_234 : decode cX11_sorted 234 = .ok (.iconst 1, 1) := by decide +kernel
theorem dX11_sorted_235 : decode cX11_sorted 235 = .ok (.iadd, 1) := by decide +kernel
theorem dX11_sorted_236 : decode cX11_sorted 236 = .ok (.imul, 1) := by decide +kernel
theorem dX11_sorted_237 : decode cX11_sorted 237 = .ok (.iload 7, 2) := by decide +kernel
theorem dX11_sorted_239 : decode cX11_sorted 239 = .ok (.iadd, 1) := by decide +kernel
theorem dX11_sorted_240 : decode cX11_sorted 240 = .ok (.iaload, 1) := by decide +kernel
theorem dX11_sorted_241 : decode cX11_sorted 241 = .ok (.iadd, 1) := by decide +kernel
theorem dX11_sorted_242 : decode cX11_sorted 242 = .ok (.iload 6, 2) := by decide +kernel
theorem dX11_sorted_244 : decode cX11_sorted 244 = .ok (.if_icmp .eq 9, 3) := by decide +kernel
theorem dX11_sorted_247 : decode cX11_sorted 247 = .ok (.iinc 7 1, 3) := by decide +kernel
theorem dX11_sorted_250 : decode cX11_sorted 250 = .ok (.goto (-34), 3) := by decide +kernel
theorem dX11_sorted_253 : decode cX11_sorted 253 = .ok (.iload 7, 2) := by decide +kernel
theorem dX11_sorted_255 : decode cX11_sorted 255 = .ok (.istore_n 3, 1) := by decide +kernel
theorem dX11_sorted_256 : decode cX11_sorted 256 = .ok (.iload 7, 2) := by decide +kernel
theorem dX11_sorted_258 : decode cX11_sorted 258 = .ok (.istore 4, 2) := by decide +kernel
theorem dX11_sorted_260 : decode cX11_sorted 260 = .ok (.iinc 5 1, 3) := by decide +kernel
theorem dX11_sorted_263 : decode cX11_sorted 263 = .ok (.goto (-71), 3) := by decide +kernel
theorem dX11_sorted_266 : decode cX11_sorted 266 = .ok (.iload 4, 2) := by decide +kernel
theorem dX11_sorted_268 : decode cX11_sorted 268 = .ok (.ireturn, 1) := by decide +kernel
theorem dX11_draw_0 : decode cX11_draw 0 = .ok (.aload_n 0, 1) := by decide +kernel
theorem dX11_draw_1 : decode cX11_draw 1 = .ok (.getfield 378, 3) := by decide +kernel
theorem dX11_draw_4 : decode cX11_draw 4 = .ok (.iload_n 1, 1) := by decide +kernel
theorem dX11_draw_5 : decode cX11_draw 5 = .ok (.irem, 1) := by decide +kernel
theorem dX11_draw_6 : decode cX11_draw 6 = .ok (.istore_n 2, 1) := by decide +kernel
theorem dX11_draw_7 : decode cX11_draw 7 = .ok (.aload_n 0, 1) := by decide +kernel
theorem dX11_draw_8 : decode cX11_draw 8 = .ok (.aload_n 0, 1) := by decide +kernel
theorem dX11_draw_9 : decode cX11_draw 9 = .ok (.getfield 378, 3) := by decide +kernel
theorem dX11_draw_12 : decode cX11_draw 12 = .ok (.sipush 227, 3) := by decide +kernel
theorem dX11_draw_15 : decode cX11_draw 15 = .ok (.imul, 1) := by decide +kernel
theorem dX11_draw_16 : decode cX11_draw 16 = .ok (.bipush 59, 2) := by decide +kernel
theorem dX11_draw_18 : decode cX11_draw 18 = .ok (.iadd, 1) := by decide +kernel
theorem dX11_draw_19 : decode cX11_draw 19 = .ok (.sipush 30137, 3) := by decide +kernel
theorem dX11_draw_22 : decode cX11_draw 22 = .ok (.irem, 1) := by decide +kernel
theorem dX11_draw_23 : decode cX11_draw 23 = .ok (.putfield 378, 3) := by decide +kernel
theorem dX11_draw_26 : decode cX11_draw 26 = .ok (.iload_n 2, 1) := by decide +kernel
theorem dX11_draw_27 : decode cX11_draw 27 = .ok (.ireturn, 1) := by decide +kernel
theorem dX11_read_0 : decode cX11_read 0 = .ok (.aload_n 0, 1) := by decide +kernel
theorem dX11_read_1 : decode cX11_read 1 = .ok (.iload_n 1, 1) := by decide +kernel
theorem dX11_read_2 : decode cX11_read 2 = .ok (.invokevirtual 309, 3) := by decide +kernel
theorem dX11_read_5 : decode cX11_read 5 = .ok (.ifCond .eq 14, 3) := by decide +kernel
theorem dX11_read_8 : decode cX11_read 8 = .ok (.iload_n 2, 1) := by decide +kernel
theorem dX11_read_9 : decode cX11_read 9 = .ok (.iconst 0, 1) := by decide +kernel
theorem dX11_read_10 : decode cX11_read 10 = .ok (.sipush 9999, 3) := by decide +kernel
theorem dX11_read_13 : decode cX11_read 13 = .ok (.invokestatic 115, 3) := by decide +kernel
theorem dX11_read_16 : decode cX11_read 16 = .ok (.ifCond .ne 6, 3) := by decide +kernel
theorem dX11_read_19 : decode cX11_read 19 = .ok (.bipush (-100), 2) := by decide +kernel
theorem dX11_read_21 : decode cX11_read 21 = .ok (.ireturn, 1) := by decide +kernel
theorem dX11_read_22 : decode cX11_read 22 = .ok (.aload_n 0, 1) := by decide +kernel
theorem dX11_read_23 : decode cX11_read 23 = .ok (.iload_n 2, 1) := by decide +kernel
theorem dX11_read_24 : decode cX11_read 24 = .ok (.bipush 7, 2) := by decide +kernel
theorem dX11_read_26 : decode cX11_read 26 = .ok (.imul, 1) := by decide +kernel
theorem dX11_read_27 : decode cX11_read 27 = .ok (.iconst 2, 1) := by decide +kernel
theorem dX11_read_28 : decode cX11_read 28 = .ok (.iadd, 1) := by decide +kernel
theorem dX11_read_29 : decode cX11_read 29 = .ok (.putfield 378, 3) := by decide +kernel
theorem dX11_read_32 : decode cX11_read 32 = .ok (.aload_n 0, 1) := by decide +kernel
theorem dX11_read_33 : decode cX11_read 33 = .ok (.iload_n 1, 1) := by decide +kernel
theorem dX11_read_34 : decode cX11_read 34 = .ok (.iconst 1, 1) := by decide +kernel
theorem dX11_read_35 : decode cX11_read 35 = .ok (.invokevirtual 300, 3) := by decide +kernel
theorem dX11_read_38 : decode cX11_read 38 = .ok (.aload_n 0, 1) := by decide +kernel
theorem dX11_read_39 : decode cX11_read 39 = .ok (.getfield 7, 3) := by decide +kernel
theorem dX11_read_42 : decode cX11_read 42 = .ok (.iconst 4, 1) := by decide +kernel
theorem dX11_read_43 : decode cX11_read 43 = .ok (.iaload, 1) := by decide +kernel
theorem dX11_read_44 : decode cX11_read 44 = .ok (.isub, 1) := by decide +kernel
theorem dX11_read_45 : decode cX11_read 45 = .ok (.aload_n 0, 1) := by decide +kernel
theorem dX11_read_46 : decode cX11_read 46 = .ok (.iconst 2, 1) := by decide +kernel
theorem dX11_read_47 : decode cX11_read 47 = .ok (.aload_n 0, 1) := by decide +kernel
theorem dX11_read_48 : decode cX11_read 48 = .ok (.getfield 7, 3) := by decide +kernel
theorem dX11_read_51 : decode cX11_read 51 = .ok (.iconst 4, 1) := by decide +kernel
theorem dX11_read_52 : decode cX11_read 52 = .ok (.iaload, 1) := by decide +kernel
theorem dX11_read_53 : decode cX11_read 53 = .ok (.imul, 1) := by decide +kernel
theorem dX11_read_54 : decode cX11_read 54 = .ok (.iconst 1, 1) := by decide +kernel
theorem dX11_read_55 : decode cX11_read 55 = .ok (.iadd, 1) := by decide +kernel
theorem dX11_read_56 : decode cX11_read 56 = .ok (.invokevirtual 381, 3) := by decide +kernel
theorem dX11_read_59 : decode cX11_read 59 = .ok (.iadd, 1) := by decide +kernel
theorem dX11_read_60 : decode cX11_read 60 = .ok (.ireturn, 1) := by decide +kernel
theorem dX11_lightest_0 : decode cX11_lightest 0 = .ok (.iconst (-1), 1) := by decide +kernel
theorem dX11_lightest_1 : decode cX11_lightest 1 = .ok (.istore_n 2, 1) := by decide +kernel
theorem dX11_lightest_2 : decode cX11_lightest 2 = .ok (.iconst 0, 1) := by decide +kernel
theorem dX11_lightest_3 : decode cX11_lightest 3 = .ok (.istore_n 3, 1) := by decide +kernel
theorem dX11_lightest_4 : decode cX11_lightest 4 = .ok (.iload_n 3, 1) := by decide +kernel
theorem dX11_lightest_5 : decode cX11_lightest 5 = .ok (.aload_n 0, 1) := by decide +kernel
theorem dX11_lightest_6 : decode cX11_lightest 6 = .ok (.getfield 7, 3) := by decide +kernel
theorem dX11_lightest_9 : decode cX11_lightest 9 = .ok (.iconst 1, 1) := by decide +kernel
theorem dX11_lightest_10 : decode cX11_lightest 10 = .ok (.iaload, 1) := by decide +kernel
theorem dX11_lightest_11 : decode cX11_lightest 11 = .ok (.if_icmp .ge 41, 3) := by decide +kernel
theorem dX11_lightest_14 : decode cX11_lightest 14 = .ok (.aload_n 0, 1) := by decide +kernel
theorem dX11_lightest_15 : decode cX11_lightest 15 = .ok (.iload_n 3, 1) := by decide +kernel
theorem dX11_lightest_16 : decode cX11_lightest 16 = .ok (.iconst 2, 1) := by decide +kernel
theorem dX11_lightest_17 : decode cX11_lightest 17 = .ok (.invokevirtual 300, 3) := by decide +kernel
theorem dX11_lightest_20 : decode cX11_lightest 20 = .ok (.iload_n 1, 1) := by decide +kernel
theorem dX11_lightest_21 : decode cX11_lightest 21 = .ok (.if_icmp .ne 25, 3) := by decide +kernel
theorem dX11_lightest_24 : decode cX11_lightest 24 = .ok (.iload_n 2, 1) := by decide +kernel
theorem dX11_lightest_25 : decode cX11_lightest 25 = .ok (.iconst (-1), 1) := by decide +kernel
theorem dX11_lightest_26 : decode cX11_lightest 26 = .ok (.if_icmp .eq 18, 3) := by decide +kernel
theorem dX11_lightest_29 : decode cX11_lightest 29 = .ok (.aload_n 0, 1) := by decide +kernel
theorem dX11_lightest_30 : decode cX11_lightest 30 = .ok (.iload_n 3, 1) := by decide +kernel
theorem dX11_lightest_31 : decode cX11_lightest 31 = .ok (.iconst 1, 1) := by decide +kernel
theorem dX11_lightest_32 : decode cX11_lightest 32 = .ok (.invokevirtual 300, 3) := by decide +kernel
theorem dX11_lightest_35 : decode cX11_lightest 35 = .ok (.aload_n 0, 1) := by decide +kernel
theorem dX11_lightest_36 : decode cX11_lightest 36 = .ok (.iload_n 2, 1) := by decide +kernel
theorem dX11_lightest_37 : decode cX11_lightest 37 = .ok (.iconst 1, 1) := by decide +kernel
theorem dX11_lightest_38 : decode cX11_lightest 38 = .ok (.invokevirtual 300, 3) := by decide +kernel
theorem dX11_lightest_41 : decode cX11_lightest 41 = .ok (.if_icmp .ge 5, 3) := by decide +kernel
theorem dX11_lightest_44 : decode cX11_lightest 44 = .ok (.iload_n 3, 1) := by decide +kernel
theorem dX11_lightest_45 : decode cX11_lightest 45 = .ok (.istore_n 2, 1) := by decide +kernel
theorem dX11_lightest_46 : decode cX11_lightest 46 = .ok (.iinc 3 1, 3) := by decide +kernel
theorem dX11_lightest_49 : decode cX11_lightest 49 = .ok (.goto (-45), 3) := by decide +kernel
theorem dX11_lightest_52 : decode cX11_lightest 52 = .ok (.iload_n 2, 1) := by decide +kernel
theorem dX11_lightest_53 : decode cX11_lightest 53 = .ok (.ireturn, 1) := by decide +kernel
theorem dX11_market_0 : decode cX11_market 0 = .ok (.iload_n 1, 1) := by decide +kernel
theorem dX11_market_1 : decode cX11_market 1 = .ok (.iconst 0, 1) := by decide +kernel
theorem dX11_market_2 : decode cX11_market 2 = .ok (.sipush 9999, 3) := by decide +kernel
theorem dX11_market_5 : decode cX11_market 5 = .ok (.invokestatic 115, 3) := by decide +kernel
theorem dX11_market_8 : decode cX11_market 8 = .ok (.ifCond .eq 22, 3) := by decide +kernel
theorem dX11_market_11 : decode cX11_market 11 = .ok (.iload_n 2, 1) := by decide +kernel
theorem dX11_market_12 : decode cX11_market 12 = .ok (.iconst 1, 1) := by decide +kernel
theorem dX11_market_13 : decode cX11_market 13 = .ok (.bipush 99, 2) := by decide +kernel
theorem dX11_market_15 : decode cX11_market 15 = .ok (.invokestatic 115, 3) := by decide +kernel
theorem dX11_market_18 : decode cX11_market 18 = .ok (.ifCond .eq 12, 3) := by decide +kernel
theorem dX11_market_21 : decode cX11_market 21 = .ok (.aload_n 0, 1) := by decide +kernel
theorem dX11_market_22 : decode cX11_market 22 = .ok (.getfield 7, 3) := by decide +kernel
theorem dX11_market_25 : decode cX11_market 25 = .ok (.iconst 0, 1) := by decide +kernel
theorem dX11_market_26 : decode cX11_market 26 = .ok (.iaload, 1) := by decide +kernel
theorem dX11_market_27 : decode cX11_market 27 = .ok (.ifCond .ne 5, 3) := by decide +kernel
theorem dX11_market_30 : decode cX11_market 30 = .ok (.iconst (-1), 1) := by decide +kernel
theorem dX11_market_31 : decode cX11_market 31 = .ok (.ireturn, 1) := by decide +kernel
theorem dX11_market_32 : decode cX11_market 32 = .ok (.aload_n 0, 1) := by decide +kernel
theorem dX11_market_33 : decode cX11_market 33 = .ok (.iload_n 1, 1) := by decide +kernel
theorem dX11_market_34 : decode cX11_market 34 = .ok (.bipush 7, 2) := by decide +kernel
theorem dX11_market_36 : decode cX11_market 36 = .ok (.imul, 1) := by decide +kernel
theorem dX11_market_37 : decode cX11_market 37 = .ok (.iconst 2, 1) := by decide +kernel
theorem dX11_market_38 : decode cX11_market 38 = .ok (.iadd, 1) := by decide +kernel
theorem dX11_market_39 : decode cX11_market 39 = .ok (.putfield 378, 3) := by decide +kernel
theorem dX11_market_42 : decode cX11_market 42 = .ok (.iconst 0, 1) := by decide +kernel
theorem dX11_market_43 : decode cX11_market 43 = .ok (.istore_n 3, 1) := by decide +kernel
theorem dX11_market_44 : decode cX11_market 44 = .ok (.iconst 0, 1) := by decide +kernel
theorem dX11_market_45 : decode cX11_market 45 = .ok (.istore 4, 2) := by decide +kernel
theorem dX11_market_47 : decode cX11_market 47 = .ok (.iload 4, 2) := by decide +kernel
theorem dX11_market_49 : decode cX11_market 49 = .ok (.iload_n 2, 1) := by decide +kernel
theorem dX11_market_50 : decode cX11_market 50 = .ok (.if_icmp .ge 95, 3) := by decide +kernel
theorem dX11_market_53 : decode cX11_market 53 = .ok (.aload_n 0, 1) := by decide +kernel
theorem dX11_market_54 : decode cX11_market 54 = .ok (.aload_n 0, 1) := by decide +kernel
theorem dX11_market_55 : decode cX11_market 55 = .ok (.getfield 7, 3) := by decide +kernel
theorem dX11_market_58 : decode cX11_market 58 = .ok (.iconst 0, 1) := by decide +kernel
theorem dX11_market_59 : decode cX11_market 59 = .ok (.iaload, 1) := by decide +kernel
theorem dX11_market_60 : decode cX11_market 60 = .ok (.invokevirtual 381, 3) := by decide +kernel
theorem dX11_market_63 : decode cX11_market 63 = .ok (.istore 5, 2) := by decide +kernel
theorem dX11_market_65 : decode cX11_market 65 = .ok (.aload_n 0, 1) := by decide +kernel
theorem dX11_market_66 : decode cX11_market 66 = .ok (.aload_n 0, 1) := by decide +kernel
theorem dX11_market_67 : decode cX11_market 67 = .ok (.getfield 7, 3) := by decide +kernel
theorem dX11_market_70 : decode cX11_market 70 = .ok (.iconst 0, 1) := by decide +kernel
theorem dX11_market_71 : decode cX11_market 71 = .ok (.iaload, 1) := by decide +kernel
theorem dX11_market_72 : decode cX11_market 72 = .ok (.invokevirtual 381, 3) := by decide +kernel
theorem dX11_market_75 : decode cX11_market 75 = .ok (.istore 6, 2) := by decide +kernel
theorem dX11_market_77 : decode cX11_market 77 = .ok (.iload 5, 2) := by decide +kernel
theorem dX11_market_79 : decode cX11_market 79 = .ok (.iload 6, 2) := by decide +kernel
theorem dX11_market_81 : decode cX11_market 81 = .ok (.if_icmp .ne 7, 3) := by decide +kernel
theorem dX11_market_84 : decode cX11_market 84 = .ok (.iconst (-1), 1) := by decide +kernel
theorem dX11_market_85 : decode cX11_market 85 = .ok (.goto 9, 3) := by decide +kernel
theorem dX11_market_88 : decode cX11_market 88 = .ok (.aload_n 0, 1) := by decide +kernel
theorem dX11_market_89 : decode cX11_market 89 = .ok (.iload 5, 2) := by decide +kernel
theorem dX11_market_91 : decode cX11_market 91 = .ok (.invokevirtual 384, 3) := by decide +kernel
theorem dX11_market_94 : decode cX11_market 94 = .ok (.istore 7, 2) := by decide +kernel
theorem dX11_market_96 : decode cX11_market 96 = .ok (.iload 7, 2) := by decide +kernel
theorem dX11_market_98 : decode cX11_market 98 = .ok (.iconst (-1), 1) := by decide +kernel
theorem dX11_market_99 : decode cX11_market 99 = .ok (.if_icmp .eq 14, 3) := by decide +kernel
theorem dX11_market_102 : decode cX11_market 102 = .ok (.aload_n 0, 1) := by decide +kernel
theorem dX11_market_103 : decode cX11_market 103 = .ok (.iload 7, 2) := by decide +kernel
theorem dX11_market_105 : decode cX11_market 105 = .ok (.iload 6, 2) := by decide +kernel
theorem dX11_market_107 : decode cX11_market 107 = .ok (.invokevirtual 322, 3) := by decide +kernel
theorem dX11_market_110 : decode cX11_market 110 = .ok (.iinc 3 1, 3) := by decide +kernel
theorem dX11_market_113 : decode cX11_market 113 = .ok (.aload_n 0, 1) := by decide +kernel
theorem dX11_market_114 : decode cX11_market 114 = .ok (.getfield 7, 3) := by decide +kernel
theorem dX11_market_117 : decode cX11_market 117 = .ok (.iconst 2, 1) := by decide +kernel
theorem dX11_market_118 : decode cX11_market 118 = .ok (.dup2, 1) := by decide +kernel
theorem dX11_market_119 : decode cX11_market 119 = .ok (.iaload, 1) := by decide +kernel
theorem dX11_market_120 : decode cX11_market 120 = .ok (.aload_n 0, 1) := by decide +kernel
theorem dX11_market_121 : decode cX11_market 121 = .ok (.getfield 7, 3) := by decide +kernel
theorem dX11_market_124 : decode cX11_market 124 = .ok (.iconst 2, 1) := by decide +kernel
theorem dX11_market_125 : decode cX11_market 125 = .ok (.iaload, 1) := by decide +kernel
theorem dX11_market_126 : decode cX11_market 126 = .ok (.sipush 999, 3) := by decide +kernel
theorem dX11_market_129 : decode cX11_market 129 = .ok (.if_icmp .ge 7, 3) := by decide +kernel
theorem dX11_market_132 : decode cX11_market 132 = .ok (.iconst 1, 1) := by decide +kernel
theorem dX11_market_133 : decode cX11_market 133 = .ok (.goto 4, 3) := by decide +kernel
theorem dX11_market_136 : decode cX11_market 136 = .ok (.iconst 0, 1) := by decide +kernel
theorem dX11_market_137 : decode cX11_market 137 = .ok (.iadd, 1) := by decide +kernel
theorem dX11_market_138 : decode cX11_market 138 = .ok (.iastore, 1) := by decide +kernel
theorem dX11_market_139 : decode cX11_market 139 = .ok (.iinc 4 1, 3) := by decide +kernel
theorem dX11_market_142 : decode cX11_market 142 = .ok (.goto (-95), 3) := by decide +kernel
theorem dX11_market_145 : decode cX11_market 145 = .ok (.iload_n 3, 1) := by decide +kernel
theorem dX11_market_146 : decode cX11_market 146 = .ok (.ireturn, 1) := by decide +kernel
theorem dX11_image_0 : decode cX11_image 0 = .ok (.aload_n 0, 1) := by decide +kernel
theorem dX11_image_1 : decode cX11_image 1 = .ok (.iconst 1, 1) := by decide +kernel
theorem dX11_image_2 : decode cX11_image 2 = .ok (.invokevirtual 111, 3) := by decide +kernel
theorem dX11_image_5 : decode cX11_image 5 = .ok (.aload_n 0, 1) := by decide +kernel
theorem dX11_image_6 : decode cX11_image 6 = .ok (.getfield 7, 3) := by decide +kernel
theorem dX11_image_9 : decode cX11_image 9 = .ok (.iconst 1, 1) := by decide +kernel
theorem dX11_image_10 : decode cX11_image 10 = .ok (.iaload, 1) := by decide +kernel
theorem dX11_image_11 : decode cX11_image 11 = .ok (.ireturn, 1) := by decide +kernel
theorem dX11_back_0 : decode cX11_back 0 = .ok (.aload_n 0, 1) := by decide +kernel
theorem dX11_back_1 : decode cX11_back 1 = .ok (.iconst 0, 1) := by decide +kernel
theorem dX11_back_2 : decode cX11_back 2 = .ok (.invokevirtual 111, 3) := by decide +kernel
theorem dX11_back_5 : decode cX11_back 5 = .ok (.aload_n 0, 1) := by decide +kernel
theorem dX11_back_6 : decode cX11_back 6 = .ok (.getfield 7, 3) := by decide +kernel
theorem dX11_back_9 : decode cX11_back 9 = .ok (.iconst 1, 1) := by decide +kernel
theorem dX11_back_10 : decode cX11_back 10 = .ok (.iaload, 1) := by decide +kernel
theorem dX11_back_11 : decode cX11_back 11 = .ok (.ireturn, 1) := by decide +kernel
theorem dX11_heldBy_0 : decode cX11_heldBy 0 = .ok (.iconst 0, 1) := by decide +kernel
theorem dX11_heldBy_1 : decode cX11_heldBy 1 = .ok (.istore_n 2, 1) := by decide +kernel
theorem dX11_heldBy_2 : decode cX11_heldBy 2 = .ok (.iconst 0, 1) := by decide +kernel
theorem dX11_heldBy_3 : decode cX11_heldBy 3 = .ok (.istore_n 3, 1) := by decide +kernel
theorem dX11_heldBy_4 : decode cX11_heldBy 4 = .ok (.iload_n 3, 1) := by decide +kernel
theorem dX11_heldBy_5 : decode cX11_heldBy 5 = .ok (.aload_n 0, 1) := by decide +kernel
theorem dX11_heldBy_6 : decode cX11_heldBy 6 = .ok (.getfield 7, 3) := by decide +kernel
theorem dX11_heldBy_9 : decode cX11_heldBy 9 = .ok (.iconst 1, 1) := by decide +kernel
theorem dX11_heldBy_10 : decode cX11_heldBy 10 = .ok (.iaload, 1) := by decide +kernel
theorem dX11_heldBy_11 : decode cX11_heldBy 11 = .ok (.if_icmp .ge 32, 3) := by decide +kernel
theorem dX11_heldBy_14 : decode cX11_heldBy 14 = .ok (.iload_n 2, 1) := by decide +kernel
theorem dX11_heldBy_15 : decode cX11_heldBy 15 = .ok (.aload_n 0, 1) := by decide +kernel
theorem dX11_heldBy_16 : decode cX11_heldBy 16 = .ok (.iload_n 3, 1) := by decide +kernel
theorem dX11_heldBy_17 : decode cX11_heldBy 17 = .ok (.iconst 2, 1) := by decide +kernel
theorem dX11_heldBy_18 : decode cX11_heldBy 18 = .ok (.invokevirtual 300, 3) := by decide +kernel
theorem dX11_heldBy_21 : decode cX11_heldBy 21 = .ok (.iload_n 1, 1) := by decide +kernel
theorem dX11_heldBy_22 : decode cX11_heldBy 22 = .ok (.if_icmp .ne 12, 3) := by decide +kernel
theorem dX11_heldBy_25 : decode cX11_heldBy 25 = .ok (.aload_n 0, 1) := by decide +kernel
theorem dX11_heldBy_26 : decode cX11_heldBy 26 = .ok (.iload_n 3, 1) := by decide +kernel
theorem dX11_heldBy_27 : decode cX11_heldBy 27 = .ok (.iconst 1, 1) := by decide +kernel
theorem dX11_heldBy_28 : decode cX11_heldBy 28 = .ok (.invokevirtual 300, 3) := by decide +kernel
theorem dX11_heldBy_31 : decode cX11_heldBy 31 = .ok (.goto 4, 3) := by decide +kernel
theorem dX11_heldBy_34 : decode cX11_heldBy 34 = .ok (.iconst 0, 1) := by decide +kernel
theorem dX11_heldBy_35 : decode cX11_heldBy 35 = .ok (.iadd, 1) := by decide +kernel
theorem dX11_heldBy_36 : decode cX11_heldBy 36 = .ok (.istore_n 2, 1) := by decide +kernel
theorem dX11_heldBy_37 : decode cX11_heldBy 37 = .ok (.iinc 3 1, 3) := by decide +kernel
theorem dX11_heldBy_40 : decode cX11_heldBy 40 = .ok (.goto (-36), 3) := by decide +kernel
theorem dX11_heldBy_43 : decode cX11_heldBy 43 = .ok (.iload_n 2, 1) := by decide +kernel
theorem dX11_heldBy_44 : decode cX11_heldBy 44 = .ok (.ireturn, 1) := by decide +kernel
theorem dX11_about_0 : decode cX11_about 0 = .ok (.iload_n 1, 1) := by decide +kernel
theorem dX11_about_1 : decode cX11_about 1 = .ok (.tableswitch 126 0 9 #[55, 62, 69, 76, 83, 90, 97, 105, 113, 121], 55) := by decide +kernel
theorem dX11_about_56 : decode cX11_about 56 = .ok (.aload_n 0, 1) := by decide +kernel
theorem dX11_about_57 : decode cX11_about 57 = .ok (.getfield 7, 3) := by decide +kernel
theorem dX11_about_60 : decode cX11_about 60 = .ok (.iconst 0, 1) := by decide +kernel
theorem dX11_about_61 : decode cX11_about 61 = .ok (.iaload, 1) := by decide +kernel
theorem dX11_about_62 : decode cX11_about 62 = .ok (.ireturn, 1) := by decide +kernel
theorem dX11_about_63 : decode cX11_about 63 = .ok (.aload_n 0, 1) := by decide +kernel
theorem dX11_about_64 : decode cX11_about 64 = .ok (.getfield 7, 3) := by decide +kernel
theorem dX11_about_67 : decode cX11_about 67 = .ok (.iconst 1, 1) := by decide +kernel
theorem dX11_about_68 : decode cX11_about 68 = .ok (.iaload, 1) := by decide +kernel
theorem dX11_about_69 : decode cX11_about 69 = .ok (.ireturn, 1) := by decide +kernel
theorem dX11_about_70 : decode cX11_about 70 = .ok (.aload_n 0, 1) := by decide +kernel
theorem dX11_about_71 : decode cX11_about 71 = .ok (.getfield 7, 3) := by decide +kernel
theorem dX11_about_74 : decode cX11_about 74 = .ok (.iconst 2, 1) := by decide +kernel
theorem dX11_about_75 : decode cX11_about 75 = .ok (.iaload, 1) := by decide +kernel
theorem dX11_about_76 : decode cX11_about 76 = .ok (.ireturn, 1) := by decide +kernel
theorem dX11_about_77 : decode cX11_about 77 = .ok (.aload_n 0, 1) := by decide +kernel
theorem dX11_about_78 : decode cX11_about 78 = .ok (.getfield 7, 3) := by decide +kernel
theorem dX11_about_81 : decode cX11_about 81 = .ok (.iconst 3, 1) := by decide +kernel
theorem dX11_about_82 : decode cX11_about 82 = .ok (.iaload, 1) := by decide +kernel
theorem dX11_about_83 : decode cX11_about 83 = .ok (.ireturn, 1) := by decide +kernel
theorem dX11_about_84 : decode cX11_about 84 = .ok (.aload_n 0, 1) := by decide +kernel
theorem dX11_about_85 : decode cX11_about 85 = .ok (.getfield 7, 3) := by decide +kernel
theorem dX11_about_88 : decode cX11_about 88 = .ok (.iconst 4, 1) := by decide +kernel
theorem dX11_about_89 : decode cX11_about 89 = .ok (.iaload, 1) := by decide +kernel
theorem dX11_about_90 : decode cX11_about 90 = .ok (.ireturn, 1) := by decide +kernel
theorem dX11_about_91 : decode cX11_about 91 = .ok (.aload_n 0, 1) := by decide +kernel
theorem dX11_about_92 : decode cX11_about 92 = .ok (.getfield 7, 3) := by decide +kernel
theorem dX11_about_95 : decode cX11_about 95 = .ok (.iconst 5, 1) := by decide +kernel
theorem dX11_about_96 : decode cX11_about 96 = .ok (.iaload, 1) := by decide +kernel
theorem dX11_about_97 : decode cX11_about 97 = .ok (.ireturn, 1) := by decide +kernel
theorem dX11_about_98 : decode cX11_about 98 = .ok (.aload_n 0, 1) := by decide +kernel
theorem dX11_about_99 : decode cX11_about 99 = .ok (.getfield 7, 3) := by decide +kernel
theorem dX11_about_102 : decode cX11_about 102 = .ok (.bipush 6, 2) := by decide +kernel
theorem dX11_about_104 : decode cX11_about 104 = .ok (.iaload, 1) := by decide +kernel
theorem dX11_about_105 : decode cX11_about 105 = .ok (.ireturn, 1) := by decide +kernel
theorem dX11_about_106 : decode cX11_about 106 = .ok (.aload_n 0, 1) := by decide +kernel
theorem dX11_about_107 : decode cX11_about 107 = .ok (.getfield 7, 3) := by decide +kernel
theorem dX11_about_110 : decode cX11_about 110 = .ok (.bipush 7, 2) := by decide +kernel
theorem dX11_about_112 : decode cX11_about 112 = .ok (.iaload, 1) := by decide +kernel
theorem dX11_about_113 : decode cX11_about 113 = .ok (.ireturn, 1) := by decide +kernel
theorem dX11_about_114 : decode cX11_about 114 = .ok (.aload_n 0, 1) := by decide +kernel
theorem dX11_about_115 : decode cX11_about 115 = .ok (.getfield 7, 3) := by decide +kernel
theorem dX11_about_118 : decode cX11_about 118 = .ok (.bipush 8, 2) := by decide +kernel
theorem dX11_about_120 : decode cX11_about 120 = .ok (.iaload, 1) := by decide +kernel
theorem dX11_about_121 : decode cX11_about 121 = .ok (.ireturn, 1) := by decide +kernel
theorem dX11_about_122 : decode cX11_about 122 = .ok (.aload_n 0, 1) := by decide +kernel
theorem dX11_about_123 : decode cX11_about 123 = .ok (.getfield 123, 3) := by decide +kernel
theorem dX11_about_126 : decode cX11_about 126 = .ok (.ireturn, 1) := by decide +kernel
theorem dX11_about_127 : decode cX11_about 127 = .ok (.aload_n 0, 1) := by decide +kernel
theorem dX11_about_128 : decode cX11_about 128 = .ok (.iload_n 1, 1) := by decide +kernel
theorem dX11_about_129 : decode cX11_about 129 = .ok (.bipush 10, 2) := by decide +kernel
theorem dX11_about_131 : decode cX11_about 131 = .ok (.isub, 1) := by decide +kernel
theorem dX11_about_132 : decode cX11_about 132 = .ok (.invokevirtual 119, 3) := by decide +kernel
theorem dX11_about_135 : decode cX11_about 135 = .ok (.ifCond .eq 16, 3) := by decide +kernel
theorem dX11_about_138 : decode cX11_about 138 = .ok (.aload_n 0, 1) := by decide +kernel
theorem dX11_about_139 : decode cX11_about 139 = .ok (.getfield 7, 3) := by decide +kernel
theorem dX11_about_142 : decode cX11_about 142 = .ok (.bipush 10, 2) := by decide +kernel
theorem dX11_about_144 : decode cX11_about 144 = .ok (.iload_n 1, 1) := by decide +kernel
theorem dX11_about_145 : decode cX11_about 145 = .ok (.iadd, 1) := by decide +kernel
theorem dX11_about_146 : decode cX11_about 146 = .ok (.bipush 10, 2) := by decide +kernel
theorem dX11_about_148 : decode cX11_about 148 = .ok (.isub, 1) := by decide +kernel
theorem dX11_about_149 : decode cX11_about 149 = .ok (.iaload, 1) := by decide +kernel
theorem dX11_about_150 : decode cX11_about 150 = .ok (.ireturn, 1) := by decide +kernel
theorem dX11_about_151 : decode cX11_about 151 = .ok (.aload_n 0, 1) := by decide +kernel
theorem dX11_about_152 : decode cX11_about 152 = .ok (.iload_n 1, 1) := by decide +kernel
theorem dX11_about_153 : decode cX11_about 153 = .ok (.bipush 20, 2) := by decide +kernel
theorem dX11_about_155 : decode cX11_about 155 = .ok (.isub, 1) := by decide +kernel
theorem dX11_about_156 : decode cX11_about 156 = .ok (.invokevirtual 119, 3) := by decide +kernel
theorem dX11_about_159 : decode cX11_about 159 = .ok (.ifCond .eq 14, 3) := by decide +kernel
theorem dX11_about_162 : decode cX11_about 162 = .ok (.aload_n 0, 1) := by decide +kernel
theorem dX11_about_163 : decode cX11_about 163 = .ok (.iload_n 1, 1) := by decide +kernel
theorem dX11_about_164 : decode cX11_about 164 = .ok (.bipush 20, 2) := by decide +kernel
theorem dX11_about_166 : decode cX11_about 166 = .ok (.isub, 1) := by decide +kernel
theorem dX11_about_167 : decode cX11_about 167 = .ok (.invokevirtual 387, 3) := by decide +kernel
theorem dX11_about_170 : decode cX11_about 170 = .ok (.goto 5, 3) := by decide +kernel
theorem dX11_about_173 : decode cX11_about 173 = .ok (.bipush (-2), 2) := by decide +kernel
theorem dX11_about_175 : decode cX11_about 175 = .ok (.ireturn, 1) := by decide +kernel
theorem dJ0_length_8abf5_0 : decode cJ0_length_8abf5 0 = .ok (.aload_n 0, 1) := by decide +kernel
theorem dJ0_length_8abf5_1 : decode cJ0_length_8abf5 1 = .ok (.getfield 9, 3) := by decide +kernel
theorem dJ0_length_8abf5_4 : decode cJ0_length_8abf5 4 = .ok (.arraylength, 1) := by decide +kernel
theorem dJ0_length_8abf5_5 : decode cJ0_length_8abf5 5 = .ok (.aload_n 0, 1) := by decide +kernel
theorem dJ0_length_8abf5_6 : decode cJ0_length_8abf5 6 = .ok (.invokevirtual 335, 3) := by decide +kernel
theorem dJ0_length_8abf5_9 : decode cJ0_length_8abf5 9 = .ok (.ishr, 1) := by decide +kernel
theorem dJ0_length_8abf5_10 : decode cJ0_length_8abf5 10 = .ok (.ireturn, 1) := by decide +kernel
theorem dJ0_charAt_5068e_0 : decode cJ0_charAt_5068e 0 = .ok (.aload_n 0, 1) := by decide +kernel
theorem dJ0_charAt_5068e_1 : decode cJ0_charAt_5068e 1 = .ok (.invokevirtual 492, 3) := by decide +kernel
theorem dJ0_charAt_5068e_4 : decode cJ0_charAt_5068e 4 = .ok (.ifCond .eq 12, 3) := by decide +kernel
theorem dJ0_charAt_5068e_7 : decode cJ0_charAt_5068e 7 = .ok (.aload_n 0, 1) := by decide +kernel
theorem dJ0_charAt_5068e_8 : decode cJ0_charAt_5068e 8 = .ok (.getfield 9, 3) := by decide +kernel
theorem dJ0_charAt_5068e_11 : decode cJ0_charAt_5068e 11 = .ok (.iload_n 1, 1) := by decide +kernel
theorem dJ0_charAt_5068e_12 : decode cJ0_charAt_5068e 12 = .ok (.invokestatic 495, 3) := by decide +kernel
theorem dJ0_charAt_5068e_15 : decode cJ0_charAt_5068e 15 = .ok (.ireturn, 1) := by decide +kernel
theorem dJ0_charAt_5068e_16 : decode cJ0_charAt_5068e 16 = .ok (.aload_n 0, 1) := by decide +kernel
theorem dJ0_charAt_5068e_17 : decode cJ0_charAt_5068e 17 = .ok (.getfield 9, 3) := by decide +kernel
theorem dJ0_charAt_5068e_20 : decode cJ0_charAt_5068e 20 = .ok (.iload_n 1, 1) := by decide +kernel
theorem dJ0_charAt_5068e_21 : decode cJ0_charAt_5068e 21 = .ok (.invokestatic 498, 3) := by decide +kernel
theorem dJ0_charAt_5068e_24 : decode cJ0_charAt_5068e 24 = .ok (.ireturn, 1) := by decide +kernel
theorem dJ0_coder_7d493_0 : decode cJ0_coder_7d493 0 = .ok (.getstatic 38, 3) := by decide +kernel
theorem dJ0_coder_7d493_3 : decode cJ0_coder_7d493 3 = .ok (.ifCond .eq 10, 3) := by decide +kernel
theorem dJ0_coder_7d493_6 : decode cJ0_coder_7d493 6 = .ok (.aload_n 0, 1) := by decide +kernel
theorem dJ0_coder_7d493_7 : decode cJ0_coder_7d493 7 = .ok (.getfield 15, 3) := by decide +kernel
theorem dJ0_coder_7d493_10 : decode cJ0_coder_7d493 10 = .ok (.goto 4, 3) := by decide +kernel
theorem dJ0_coder_7d493_13 : decode cJ0_coder_7d493 13 = .ok (.iconst 1, 1) := by decide +kernel
theorem dJ0_coder_7d493_14 : decode cJ0_coder_7d493 14 = .ok (.ireturn, 1) := by decide +kernel
theorem dJ0_isLatin1_aae02_0 : decode cJ0_isLatin1_aae02 0 = .ok (.getstatic 38, 3) := by decide +kernel
theorem dJ0_isLatin1_aae02_3 : decode cJ0_isLatin1_aae02 3 = .ok (.ifCond .eq 14, 3) := by decide +kernel
theorem dJ0_isLatin1_aae02_6 : decode cJ0_isLatin1_aae02 6 = .ok (.aload_n 0, 1) := by decide +kernel
theorem dJ0_isLatin1_aae02_7 : decode cJ0_isLatin1_aae02 7 = .ok (.getfield 15, 3) := by decide +kernel
theorem dJ0_isLatin1_aae02_10 : decode cJ0_isLatin1_aae02 10 = .ok (.ifCond .ne 7, 3) := by decide +kernel
theorem dJ0_isLatin1_aae02_13 : decode cJ0_isLatin1_aae02 13 = .ok (.iconst 1, 1) := by decide +kernel
theorem dJ0_isLatin1_aae02_14 : decode cJ0_isLatin1_aae02 14 = .ok (.goto 4, 3) := by decide +kernel
theorem dJ0_isLatin1_aae02_17 : decode cJ0_isLatin1_aae02 17 = .ok (.iconst 0, 1) := by decide +kernel
theorem dJ0_isLatin1_aae02_18 : decode cJ0_isLatin1_aae02 18 = .ok (.ireturn, 1) := by decide +kernel
theorem dJ0_checkIndex_df160_0 : decode cJ0_checkIndex_df160 0 = .ok (.iload_n 0, 1) := by decide +kernel
theorem dJ0_checkIndex_df160_1 : decode cJ0_checkIndex_df160 1 = .ok (.iload_n 1, 1) := by decide +kernel
theorem dJ0_checkIndex_df160_2 : decode cJ0_checkIndex_df160 2 = .ok (.getstatic 1053, 3) := by decide +kernel
theorem dJ0_checkIndex_df160_5 : decode cJ0_checkIndex_df160 5 = .ok (.invokestatic 1059, 3) := by decide +kernel
theorem dJ0_checkIndex_df160_8 : decode cJ0_checkIndex_df160 8 = .ok (.pop, 1) := by decide +kernel
theorem dJ0_checkIndex_df160_9 : decode cJ0_checkIndex_df160 9 = .ok (.return_, 1) := by decide +kernel
theorem dJ1_charAt_3b067_0 : decode cJ1_charAt_3b067 0 = .ok (.iload_n 1, 1) := by decide +kernel
theorem dJ1_charAt_3b067_1 : decode cJ1_charAt_3b067 1 = .ok (.aload_n 0, 1) := by decide +kernel
theorem dJ1_charAt_3b067_2 : decode cJ1_charAt_3b067 2 = .ok (.arraylength, 1) := by decide +kernel
theorem dJ1_charAt_3b067_3 : decode cJ1_charAt_3b067 3 = .ok (.invokestatic 9, 3) := by decide +kernel
theorem dJ1_charAt_3b067_6 : decode cJ1_charAt_3b067 6 = .ok (.aload_n 0, 1) := by decide +kernel
theorem dJ1_charAt_3b067_7 : decode cJ1_charAt_3b067 7 = .ok (.iload_n 1, 1) := by decide +kernel
theorem dJ1_charAt_3b067_8 : decode cJ1_charAt_3b067 8 = .ok (.baload, 1) := by decide +kernel
theorem dJ1_charAt_3b067_9 : decode cJ1_charAt_3b067 9 = .ok (.sipush 255, 3) := by decide +kernel
theorem dJ1_charAt_3b067_12 : decode cJ1_charAt_3b067 12 = .ok (.iand, 1) := by decide +kernel
theorem dJ1_charAt_3b067_13 : decode cJ1_charAt_3b067 13 = .ok (.i2c, 1) := by decide +kernel
theorem dJ1_charAt_3b067_14 : decode cJ1_charAt_3b067 14 = .ok (.ireturn, 1) := by decide +kernel
theorem dJ2_getChar_3b067_0 : decode cJ2_getChar_3b067 0 = .ok (.getstatic 44, 3) := by decide +kernel
theorem dJ2_getChar_3b067_3 : decode cJ2_getChar_3b067 3 = .ok (.ifCond .ne 25, 3) := by decide +kernel
theorem dJ2_getChar_3b067_6 : decode cJ2_getChar_3b067 6 = .ok (.iload_n 1, 1) := by decide +kernel
theorem dJ2_getChar_3b067_7 : decode cJ2_getChar_3b067 7 = .ok (.ifCond .lt 11, 3) := by decide +kernel
theorem dJ2_getChar_3b067_10 : decode cJ2_getChar_3b067 10 = .ok (.iload_n 1, 1) := by decide +kernel
theorem dJ2_getChar_3b067_11 : decode cJ2_getChar_3b067 11 = .ok (.aload_n 0, 1) := by decide +kernel
theorem dJ2_getChar_3b067_12 : decode cJ2_getChar_3b067 12 = .ok (.invokestatic 48, 3) := by decide +kernel
theorem dJ2_getChar_3b067_15 : decode cJ2_getChar_3b067 15 = .ok (.if_icmp .lt 13, 3) := by decide +kernel
theorem dJ2_getChar_3b067_18 : decode cJ2_getChar_3b067 18 = .ok (.new 52, 3) := by decide +kernel
theorem dJ2_getChar_3b067_21 : decode cJ2_getChar_3b067 21 = .ok (.dup, 1) := by decide +kernel
theorem dJ2_getChar_3b067_22 : decode cJ2_getChar_3b067 22 = .ok (.ldc 54, 2) := by decide +kernel
theorem dJ2_getChar_3b067_24 : decode cJ2_getChar_3b067 24 = .ok (.invokespecial 56, 3) := by decide +kernel
theorem dJ2_getChar_3b067_27 : decode cJ2_getChar_3b067 27 = .ok (.athrow, 1) := by decide +kernel
theorem dJ2_getChar_3b067_28 : decode cJ2_getChar_3b067 28 = .ok (.iload_n 1, 1) := by decide +kernel
theorem dJ2_getChar_3b067_29 : decode cJ2_getChar_3b067 29 = .ok (.iconst 1, 1) := by decide +kernel
theorem dJ2_getChar_3b067_30 : decode cJ2_getChar_3b067 30 = .ok (.ishl, 1) := by decide +kernel
theorem dJ2_getChar_3b067_31 : decode cJ2_getChar_3b067 31 = .ok (.istore_n 1, 1) := by decide +kernel
theorem dJ2_getChar_3b067_32 : decode cJ2_getChar_3b067 32 = .ok (.aload_n 0, 1) := by decide +kernel
theorem dJ2_getChar_3b067_33 : decode cJ2_getChar_3b067 33 = .ok (.iload_n 1, 1) := by decide +kernel
theorem dJ2_getChar_3b067_34 : decode cJ2_getChar_3b067 34 = .ok (.iinc 1 1, 3) := by decide +kernel
theorem dJ2_getChar_3b067_37 : decode cJ2_getChar_3b067 37 = .ok (.baload, 1) := by decide +kernel
theorem dJ2_getChar_3b067_38 : decode cJ2_getChar_3b067 38 = .ok (.sipush 255, 3) := by decide +kernel
theorem dJ2_getChar_3b067_41 : decode cJ2_getChar_3b067 41 = .ok (.iand, 1) := by decide +kernel
theorem dJ2_getChar_3b067_42 : decode cJ2_getChar_3b067 42 = .ok (.getstatic 59, 3) := by decide +kernel
theorem dJ2_getChar_3b067_45 : decode cJ2_getChar_3b067 45 = .ok (.ishl, 1) := by decide +kernel
theorem dJ2_getChar_3b067_46 : decode cJ2_getChar_3b067 46 = .ok (.aload_n 0, 1) := by decide +kernel
theorem dJ2_getChar_3b067_47 : decode cJ2_getChar_3b067 47 = .ok (.iload_n 1, 1) := by decide +kernel
theorem dJ2_getChar_3b067_48 : decode cJ2_getChar_3b067 48 = .ok (.baload, 1) := by decide +kernel
theorem dJ2_getChar_3b067_49 : decode cJ2_getChar_3b067 49 = .ok (.sipush 255, 3) := by decide +kernel
theorem dJ2_getChar_3b067_52 : decode cJ2_getChar_3b067 52 = .ok (.iand, 1) := by decide +kernel
theorem dJ2_getChar_3b067_53 : decode cJ2_getChar_3b067 53 = .ok (.getstatic 63, 3) := by decide +kernel
theorem dJ2_getChar_3b067_56 : decode cJ2_getChar_3b067 56 = .ok (.ishl, 1) := by decide +kernel
theorem dJ2_getChar_3b067_57 : decode cJ2_getChar_3b067 57 = .ok (.ior, 1) := by decide +kernel
theorem dJ2_getChar_3b067_58 : decode cJ2_getChar_3b067 58 = .ok (.i2c, 1) := by decide +kernel
theorem dJ2_getChar_3b067_59 : decode cJ2_getChar_3b067 59 = .ok (.ireturn, 1) := by decide +kernel
theorem dJ2_length_9d52b_0 : decode cJ2_length_9d52b 0 = .ok (.aload_n 0, 1) := by decide +kernel
theorem dJ2_length_9d52b_1 : decode cJ2_length_9d52b 1 = .ok (.arraylength, 1) := by decide +kernel
theorem dJ2_length_9d52b_2 : decode cJ2_length_9d52b 2 = .ok (.iconst 1, 1) := by decide +kernel
theorem dJ2_length_9d52b_3 : decode cJ2_length_9d52b 3 = .ok (.ishr, 1) := by decide +kernel
theorem dJ2_length_9d52b_4 : decode cJ2_length_9d52b 4 = .ok (.ireturn, 1) := by decide +kernel
theorem dJ2_charAt_3b067_0 : decode cJ2_charAt_3b067 0 = .ok (.iload_n 1, 1) := by decide +kernel
theorem dJ2_charAt_3b067_1 : decode cJ2_charAt_3b067 1 = .ok (.aload_n 0, 1) := by decide +kernel
theorem dJ2_charAt_3b067_2 : decode cJ2_charAt_3b067 2 = .ok (.invokestatic 67, 3) := by decide +kernel
theorem dJ2_charAt_3b067_5 : decode cJ2_charAt_3b067 5 = .ok (.aload_n 0, 1) := by decide +kernel
theorem dJ2_charAt_3b067_6 : decode cJ2_charAt_3b067 6 = .ok (.iload_n 1, 1) := by decide +kernel
theorem dJ2_charAt_3b067_7 : decode cJ2_charAt_3b067 7 = .ok (.invokestatic 71, 3) := by decide +kernel
theorem dJ2_charAt_3b067_10 : decode cJ2_charAt_3b067 10 = .ok (.ireturn, 1) := by decide +kernel
theorem dJ2_checkIndex_2214a_0 : decode cJ2_checkIndex_2214a 0 = .ok (.iload_n 0, 1) := by decide +kernel
theorem dJ2_checkIndex_2214a_1 : decode cJ2_checkIndex_2214a 1 = .ok (.aload_n 1, 1) := by decide +kernel
theorem dJ2_checkIndex_2214a_2 : decode cJ2_checkIndex_2214a 2 = .ok (.invokestatic 48, 3) := by decide +kernel
theorem dJ2_checkIndex_2214a_5 : decode cJ2_checkIndex_2214a 5 = .ok (.invokestatic 414, 3) := by decide +kernel
theorem dJ2_checkIndex_2214a_8 : decode cJ2_checkIndex_2214a 8 = .ok (.return_, 1) := by decide +kernel
theorem dJ3_checkIndex_8e157_0 : decode cJ3_checkIndex_8e157 0 = .ok (.iload_n 0, 1) := by decide +kernel
theorem dJ3_checkIndex_8e157_1 : decode cJ3_checkIndex_8e157 1 = .ok (.ifCond .lt 8, 3) := by decide +kernel
theorem dJ3_checkIndex_8e157_4 : decode cJ3_checkIndex_8e157 4 = .ok (.iload_n 0, 1) := by decide +kernel
theorem dJ3_checkIndex_8e157_5 : decode cJ3_checkIndex_8e157 5 = .ok (.iload_n 1, 1) := by decide +kernel
theorem dJ3_checkIndex_8e157_6 : decode cJ3_checkIndex_8e157 6 = .ok (.if_icmp .lt 10, 3) := by decide +kernel
theorem dJ3_checkIndex_8e157_9 : decode cJ3_checkIndex_8e157 9 = .ok (.aload_n 2, 1) := by decide +kernel
theorem dJ3_checkIndex_8e157_10 : decode cJ3_checkIndex_8e157 10 = .ok (.iload_n 0, 1) := by decide +kernel
theorem dJ3_checkIndex_8e157_11 : decode cJ3_checkIndex_8e157 11 = .ok (.iload_n 1, 1) := by decide +kernel
theorem dJ3_checkIndex_8e157_12 : decode cJ3_checkIndex_8e157 12 = .ok (.invokestatic 95, 3) := by decide +kernel
theorem dJ3_checkIndex_8e157_15 : decode cJ3_checkIndex_8e157 15 = .ok (.athrow, 1) := by decide +kernel
theorem dJ3_checkIndex_8e157_16 : decode cJ3_checkIndex_8e157 16 = .ok (.iload_n 0, 1) := by decide +kernel
theorem dJ3_checkIndex_8e157_17 : decode cJ3_checkIndex_8e157 17 = .ok (.ireturn, 1) := by decide +kernel
theorem dJ9_max_7cf53_0 : decode cJ9_max_7cf53 0 = .ok (.iload_n 0, 1) := by decide +kernel
theorem dJ9_max_7cf53_1 : decode cJ9_max_7cf53 1 = .ok (.iload_n 1, 1) := by decide +kernel
theorem dJ9_max_7cf53_2 : decode cJ9_max_7cf53 2 = .ok (.if_icmp .lt 7, 3) := by decide +kernel
theorem dJ9_max_7cf53_5 : decode cJ9_max_7cf53 5 = .ok (.iload_n 0, 1) := by decide +kernel
theorem dJ9_max_7cf53_6 : decode cJ9_max_7cf53 6 = .ok (.goto 4, 3) := by decide +kernel
theorem dJ9_max_7cf53_9 : decode cJ9_max_7cf53 9 = .ok (.iload_n 1, 1) := by decide +kernel
theorem dJ9_max_7cf53_10 : decode cJ9_max_7cf53 10 = .ok (.ireturn, 1) := by decide +kernel
theorem dJ9_max_f86c9_0 : decode cJ9_max_f86c9 0 = .ok (.lload_n 0, 1) := by decide +kernel
theorem dJ9_max_f86c9_1 : decode cJ9_max_f86c9 1 = .ok (.lload_n 2, 1) := by decide +kernel
theorem dJ9_max_f86c9_2 : decode cJ9_max_f86c9 2 = .ok (.lcmp, 1) := by decide +kernel
theorem dJ9_max_f86c9_3 : decode cJ9_max_f86c9 3 = .ok (.ifCond .lt 7, 3) := by decide +kernel
theorem dJ9_max_f86c9_6 : decode cJ9_max_f86c9 6 = .ok (.lload_n 0, 1) := by decide +kernel
theorem dJ9_max_f86c9_7 : decode cJ9_max_f86c9 7 = .ok (.goto 4, 3) := by decide +kernel
theorem dJ9_max_f86c9_10 : decode cJ9_max_f86c9 10 = .ok (.lload_n 2, 1) := by decide +kernel
theorem dJ9_max_f86c9_11 : decode cJ9_max_f86c9 11 = .ok (.lreturn, 1) := by decide +kernel
theorem dJ9_min_7cf53_0 : decode cJ9_min_7cf53 0 = .ok (.iload_n 0, 1) := by decide +kernel
theorem dJ9_min_7cf53_1 : decode cJ9_min_7cf53 1 = .ok (.iload_n 1, 1) := by decide +kernel
theorem dJ9_min_7cf53_2 : decode cJ9_min_7cf53 2 = .ok (.if_icmp .gt 7, 3) := by decide +kernel
theorem dJ9_min_7cf53_5 : decode cJ9_min_7cf53 5 = .ok (.iload_n 0, 1) := by decide +kernel
theorem dJ9_min_7cf53_6 : decode cJ9_min_7cf53 6 = .ok (.goto 4, 3) := by decide +kernel
theorem dJ9_min_7cf53_9 : decode cJ9_min_7cf53 9 = .ok (.iload_n 1, 1) := by decide +kernel
theorem dJ9_min_7cf53_10 : decode cJ9_min_7cf53 10 = .ok (.ireturn, 1) := by decide +kernel
theorem dJ9_min_f86c9_0 : decode cJ9_min_f86c9 0 = .ok (.lload_n 0, 1) := by decide +kernel
theorem dJ9_min_f86c9_1 : decode cJ9_min_f86c9 1 = .ok (.lload_n 2, 1) := by decide +kernel
theorem dJ9_min_f86c9_2 : decode cJ9_min_f86c9 2 = .ok (.lcmp, 1) := by decide +kernel
theorem dJ9_min_f86c9_3 : decode cJ9_min_f86c9 3 = .ok (.ifCond .gt 7, 3) := by decide +kernel
theorem dJ9_min_f86c9_6 : decode cJ9_min_f86c9 6 = .ok (.lload_n 0, 1) := by decide +kernel
theorem dJ9_min_f86c9_7 : decode cJ9_min_f86c9 7 = .ok (.goto 4, 3) := by decide +kernel
theorem dJ9_min_f86c9_10 : decode cJ9_min_f86c9 10 = .ok (.lload_n 2, 1) := by decide +kernel
theorem dJ9_min_f86c9_11 : decode cJ9_min_f86c9 11 = .ok (.lreturn, 1) := by decide +kernel
theorem dL_law_0 : decode cL_law 0 = .ok (.new 7, 3) := by decide +kernel
theorem dL_law_3 : decode cL_law 3 = .ok (.dup, 1) := by decide +kernel
theorem dL_law_4 : decode cL_law 4 = .ok (.invokespecial 9, 3) := by decide +kernel
theorem dL_law_7 : decode cL_law 7 = .ok (.astore_n 1, 1) := by decide +kernel
theorem dL_law_8 : decode cL_law 8 = .ok (.new 10, 3) := by decide +kernel
theorem dL_law_11 : decode cL_law 11 = .ok (.dup, 1) := by decide +kernel
theorem dL_law_12 : decode cL_law 12 = .ok (.invokespecial 12, 3) := by decide +kernel
theorem dL_law_15 : decode cL_law 15 = .ok (.astore_n 2, 1) := by decide +kernel
theorem dL_law_16 : decode cL_law 16 = .ok (.iconst 0, 1) := by decide +kernel
theorem dL_law_17 : decode cL_law 17 = .ok (.istore_n 3, 1) := by decide +kernel
theorem dL_law_18 : decode cL_law 18 = .ok (.iload_n 3, 1) := by decide +kernel
theorem dL_law_19 : decode cL_law 19 = .ok (.aload_n 0, 1) := by decide +kernel
theorem dL_law_20 : decode cL_law 20 = .ok (.arraylength, 1) := by decide +kernel
theorem dL_law_21 : decode cL_law 21 = .ok (.bipush 6, 2) := by decide +kernel
theorem dL_law_23 : decode cL_law 23 = .ok (.isub, 1) := by decide +kernel
theorem dL_law_24 : decode cL_law 24 = .ok (.if_icmp .gt 1101, 3) := by decide +kernel
theorem dL_law_27 : decode cL_law 27 = .ok (.aload_n 0, 1) := by decide +kernel
theorem dL_law_28 : decode cL_law 28 = .ok (.iload_n 3, 1) := by decide +kernel
theorem dL_law_29 : decode cL_law 29 = .ok (.iaload, 1) := by decide +kernel
theorem dL_law_30 : decode cL_law 30 = .ok (.bipush 31, 2) := by decide +kernel
theorem dL_law_32 : decode cL_law 32 = .ok (.iand, 1) := by decide +kernel
theorem dL_law_33 : decode cL_law 33 = .ok (.tableswitch 1086 0 28 #[131, 154, 187, 220, 243, 306, 329, 342, 365, 388, 421, 454, 477, 500, 513, 546, 600, 663, 742, 775, 829, 862, 905, 938, 971, 1004, 1037, 1050, 1063], 131) := by decide +kernel
theorem dL_law_164 : decode cL_law 164 = .ok (.aload_n 1, 1) := by decide +kernel
theorem dL_law_165 : decode cL_law 165 = .ok (.aload_n 0, 1) := by decide +kernel
theorem dL_law_166 : decode cL_law 166 = .ok (.iload_n 3, 1) := by decide +kernel
theorem dL_law_167 : decode cL_law 167 = .ok (.iconst 1, 1) := by decide +kernel
theorem dL_law_168 : decode cL_law 168 = .ok (.iadd, 1) := by decide +kernel
theorem dL_law_169 : decode cL_law 169 = .ok (.iaload, 1) := by decide +kernel
theorem dL_law_170 : decode cL_law 170 = .ok (.invokevirtual 13, 3) := by decide +kernel
theorem dL_law_173 : decode cL_law 173 = .ok (.aload_n 2, 1) := by decide +kernel
theorem dL_law_174 : decode cL_law 174 = .ok (.aload_n 0, 1) := by decide +kernel
theorem dL_law_175 : decode cL_law 175 = .ok (.iload_n 3, 1) := by decide +kernel
theorem dL_law_176 : decode cL_law 176 = .ok (.iconst 1, 1) := by decide +kernel
theorem dL_law_177 : decode cL_law 177 = .ok (.iadd, 1) := by decide +kernel
theorem dL_law_178 : decode cL_law 178 = .ok (.iaload, 1) := by decide +kernel
theorem dL_law_179 : decode cL_law 179 = .ok (.invokevirtual 17, 3) := by decide +kernel
theorem dL_law_182 : decode cL_law 182 = .ok (.if_icmp .eq 937, 3) := by decide +kernel
theorem dL_law_185 : decode cL_law 185 = .ok (.iconst 0, 1) := by decide +kernel
theorem dL_law_186 : decode cL_law 186 = .ok (.ireturn, 1) := by decide +kernel
theorem dL_law_187 : decode cL_law 187 = .ok (.aload_n 1, 1) := by decide +kernel
theorem dL_law_188 : decode cL_law 188 = .ok (.aload_n 0, 1) := by decide +kernel
theorem dL_law_189 : decode cL_law 189 = .ok (.iload_n 3, 1) := by decide +kernel
theorem dL_law_190 : decode cL_law 190 = .ok (.iconst 1, 1) := by decide +kernel
theorem dL_law_191 : decode cL_law 191 = .ok (.iadd, 1) := by decide +kernel
theorem dL_law_192 : decode cL_law 192 = .ok (.iaload, 1) := by decide +kernel
theorem dL_law_193 : decode cL_law 193 = .ok (.aload_n 0, 1) := by decide +kernel
theorem dL_law_194 : decode cL_law 194 = .ok (.iload_n 3, 1) := by decide +kernel
theorem dL_law_195 : decode cL_law 195 = .ok (.iconst 2, 1) := by decide +kernel
theorem dL_law_196 : decode cL_law 196 = .ok (.iadd, 1) := by decide +kernel
theorem dL_law_197 : decode cL_law 197 = .ok (.iaload, 1) := by decide +kernel
theorem dL_law_198 : decode cL_law 198 = .ok (.invokevirtual 18, 3) := by decide +kernel
theorem dL_law_201 : decode cL_law 201 = .ok (.aload_n 2, 1) := by decide +kernel
theorem dL_law_202 : decode cL_law 202 = .ok (.aload_n 0, 1) := by decide +kernel
theorem dL_law_203 : decode cL_law 203 = .ok (.iload_n 3, 1) := by decide +kernel
theorem dL_law_204 : decode cL_law 204 = .ok (.iconst 1, 1) := by decide +kernel
theorem dL_law_205 : decode cL_law 205 = .ok (.iadd, 1) := by decide +kernel
theorem dL_law_206 : decode cL_law 206 = .ok (.iaload, 1) := by decide +kernel
theorem dL_law_207 : decode cL_law 207 = .ok (.aload_n 0, 1) := by decide +kernel
theorem dL_law_208 : decode cL_law 208 = .ok (.iload_n 3, 1) := by decide +kernel
theorem dL_law_209 : decode cL_law 209 = .ok (.iconst 2, 1) := by decide +kernel
theorem dL_law_210 : decode cL_law 210 = .ok (.iadd, 1) := by decide +kernel
theorem dL_law_211 : decode cL_law 211 = .ok (.iaload, 1) := by decide +kernel
theorem dL_law_212 : decode cL_law 212 = .ok (.invokevirtual 22, 3) := by decide +kernel
theorem dL_law_215 : decode cL_law 215 = .ok (.if_icmp .eq 904, 3) := by decide +kernel
theorem dL_law_218 : decode cL_law 218 = .ok (.iconst 0, 1) := by decide +kernel
theorem dL_law_219 : decode cL_law 219 = .ok (.ireturn, 1) := by decide +kernel
theorem dL_law_220 : decode cL_law 220 = .ok (.aload_n 1, 1) := by decide +kernel
theorem dL_law_221 : decode cL_law 221 = .ok (.aload_n 0, 1) := by decide +kernel
theorem dL_law_222 : decode cL_law 222 = .ok (.iload_n 3, 1) := by decide +kernel
theorem dL_law_223 : decode cL_law 223 = .ok (.iconst 1, 1) := by decide +kernel
theorem dL_law_224 : decode cL_law 224 = .ok (.iadd, 1) := by decide +kernel
theorem dL_law_225 : decode cL_law 225 = .ok (.iaload, 1) := by decide +kernel
theorem dL_law_226 : decode cL_law 226 = .ok (.aload_n 0, 1) := by decide +kernel
theorem dL_law_227 : decode cL_law 227 = .ok (.iload_n 3, 1) := by decide +kernel
theorem dL_law_228 : decode cL_law 228 = .ok (.iconst 2, 1) := by decide +kernel
theorem dL_law_229 : decode cL_law 229 = .ok (.iadd, 1) := by decide +kernel
theorem dL_law_230 : decode cL_law 230 = .ok (.iaload, 1) := by decide +kernel
theorem dL_law_231 : decode cL_law 231 = .ok (.invokevirtual 23, 3) := by decide +kernel
theorem dL_law_234 : decode cL_law 234 = .ok (.aload_n 2, 1) := by decide +kernel
theorem dL_law_235 : decode cL_law 235 = .ok (.aload_n 0, 1) := by decide +kernel
theorem dL_law_236 : decode cL_law 236 = .ok (.iload_n 3, 1) := by decide +kernel
theorem dL_law_237 : decode cL_law 237 = .ok (.iconst 1, 1) := by decide +kernel
theorem dL_law_238 : decode cL_law 238 = .ok (.iadd, 1) := by decide +kernel
theorem dL_law_239 : decode cL_law 239 = .ok (.iaload, 1) := by decide +kernel
theorem dL_law_240 : decode cL_law 240 = .ok (.aload_n 0, 1) := by decide +kernel
theorem dL_law_241 : decode cL_law 241 = .ok (.iload_n 3, 1) := by decide +kernel
theorem dL_law_242 : decode cL_law 242 = .ok (.iconst 2, 1) := by decide +kernel
theorem dL_law_243 : decode cL_law 243 = .ok (.iadd, 1) := by decide +kernel
theorem dL_law_244 : decode cL_law 244 = .ok (.iaload, 1) := by decide +kernel
theorem dL_law_245 : decode cL_law 245 = .ok (.invokevirtual 27, 3) := by decide +kernel
theorem dL_law_248 : decode cL_law 248 = .ok (.if_icmp .eq 871, 3) := by decide +kernel
theorem dL_law_251 : decode cL_law 251 = .ok (.iconst 0, 1) := by decide +kernel
theorem dL_law_252 : decode cL_law 252 = .ok (.ireturn, 1) := by decide +kernel
theorem dL_law_253 : decode cL_law 253 = .ok (.aload_n 1, 1) := by decide +kernel
theorem dL_law_254 : decode cL_law 254 = .ok (.aload_n 0, 1) := by decide +kernel
theorem dL_law_255 : decode cL_law 255 = .ok (.iload_n 3, 1) := by decide +kernel
theorem dL_law_256 : decode cL_law 256 = .ok (.iconst 1, 1) := by decide +kernel
theorem dL_law_257 : decode cL_law 257 = .ok (.iadd, 1) := by decide +kernel
theorem dL_law_258 : decode cL_law 258 = .ok (.iaload, 1) := by decide +kernel
theorem dL_law_259 : decode cL_law 259 = .ok (.invokevirtual 28, 3) := by decide +kernel
theorem dL_law_262 : decode cL_law 262 = .ok (.aload_n 2, 1) := by decide +kernel
theorem dL_law_263 : decode cL_law 263 = .ok (.aload_n 0, 1) := by decide +kernel
theorem dL_law_264 : decode cL_law 264 = .ok (.iload_n 3, 1) := by decide +kernel
theorem dL_law_265 : decode cL_law 265 = .ok (.iconst 1, 1) := by decide +kernel
theorem dL_law_266 : decode cL_law 266 = .ok (.iadd, 1) := by decide +kernel
theorem dL_law_267 : decode cL_law 267 = .ok (.iaload, 1) := by decide +kernel
theorem dL_law_268 : decode cL_law 268 = .ok (.invokevirtual 31, 3) := by decide +kernel
theorem dL_law_271 : decode cL_law 271 = .ok (.if_icmp .eq 848, 3) := by decide +kernel
theorem dL_law_274 : decode cL_law 274 = .ok (.iconst 0, 1) := by decide +kernel
theorem dL_law_275 : decode cL_law 275 = .ok (.ireturn, 1) := by decide +kernel
theorem dL_law_276 : decode cL_law 276 = .ok (.aload_n 1, 1) := by decide +kernel
theorem dL_law_277 : decode cL_law 277 = .ok (.aload_n 0, 1) := by decide +kernel
theorem dL_law_278 : decode cL_law 278 = .ok (.iload_n 3, 1) := by decide +kernel
theorem dL_law_279 : decode cL_law 279 = .ok (.iconst 1, 1) := by decide +kernel
theorem dL_law_280 : decode cL_law 280 = .ok (.iadd, 1) := by decide +kernel
theorem dL_law_281 : decode cL_law 281 = .ok (.iaload, 1) := by decide +kernel
theorem dL_law_282 : decode cL_law 282 = .ok (.aload_n 0, 1) := by decide +kernel
theorem dL_law_283 : decode cL_law 283 = .ok (.iload_n 3, 1) := by decide +kernel
theorem dL_law_284 : decode cL_law 284 = .ok (.iconst 2, 1) := by decide +kernel
theorem dL_law_285 : decode cL_law 285 = .ok (.iadd, 1) := by decide +kernel
theorem dL_law_286 : decode cL_law 286 = .ok (.iaload, 1) := by decide +kernel
theorem dL_law_287 : decode cL_law 287 = .ok (.aload_n 0, 1) := by decide +kernel
theorem dL_law_288 : decode cL_law 288 = .ok (.iload_n 3, 1) := by decide +kernel
theorem dL_law_289 : decode cL_law 289 = .ok (.iconst 3, 1) := by decide +kernel
theorem dL_law_290 : decode cL_law 290 = .ok (.iadd, 1) := by decide +kernel
theorem dL_law_291 : decode cL_law 291 = .ok (.iaload, 1) := by decide +kernel
theorem dL_law_292 : decode cL_law 292 = .ok (.aload_n 0, 1) := by decide +kernel
theorem dL_law_293 : decode cL_law 293 = .ok (.iload_n 3, 1) := by decide +kernel
theorem dL_law_294 : decode cL_law 294 = .ok (.iconst 4, 1) := by decide +kernel
theorem dL_law_295 : decode cL_law 295 = .ok (.iadd, 1) := by decide +kernel
theorem dL_law_296 : decode cL_law 296 = .ok (.iaload, 1) := by decide +kernel
theorem dL_law_297 : decode cL_law 297 = .ok (.aload_n 0, 1) := by decide +kernel
theorem dL_law_298 : decode cL_law 298 = .ok (.iload_n 3, 1) := by decide +kernel
theorem dL_law_299 : decode cL_law 299 = .ok (.iconst 5, 1) := by decide +kernel
theorem dL_law_300 : decode cL_law 300 = .ok (.iadd, 1) := by decide +kernel
theorem dL_law_301 : decode cL_law 301 = .ok (.iaload, 1) := by decide +kernel
theorem dL_law_302 : decode cL_law 302 = .ok (.invokevirtual 32, 3) := by decide +kernel
theorem dL_law_305 : decode cL_law 305 = .ok (.aload_n 2, 1) := by decide +kernel
theorem dL_law_306 : decode cL_law 306 = .ok (.aload_n 0, 1) := by decide +kernel
theorem dL_law_307 : decode cL_law 307 = .ok (.iload_n 3, 1) := by decide +kernel
theorem dL_law_308 : decode cL_law 308 = .ok (.iconst 1, 1) := by decide +kernel
theorem dL_law_309 : decode cL_law 309 = .ok (.iadd, 1) := by decide +kernel
theorem dL_law_310 : decode cL_law 310 = .ok (.iaload, 1) := by decide +kernel
theorem dL_law_311 : decode cL_law 311 = .ok (.aload_n 0, 1) := by decide +kernel
theorem dL_law_312 : decode cL_law 312 = .ok (.iload_n 3, 1) := by decide +kernel
theorem dL_law_313 : decode cL_law 313 = .ok (.iconst 2, 1) := by decide +kernel
theorem dL_law_314 : decode cL_law 314 = .ok (.iadd, 1) := by decide +kernel
theorem dL_law_315 : decode cL_law 315 = .ok (.iaload, 1) := by decide +kernel
theorem dL_law_316 : decode cL_law 316 = .ok (.aload_n 0, 1) := by decide +kernel
theorem dL_law_317 : decode cL_law 317 = .ok (.iload_n 3, 1) := by decide +kernel
theorem dL_law_318 : decode cL_law 318 = .ok (.iconst 3, 1) := by decide +kernel
theorem dL_law_319 : decode cL_law 319 = .ok (.iadd, 1) := by decide +kernel
theorem dL_law_320 : decode cL_law 320 = .ok (.iaload, 1) := by decide +kernel
theorem dL_law_321 : decode cL_law 321 = .ok (.aload_n 0, 1) := by decide +kernel
theorem dL_law_322 : decode cL_law 322 = .ok (.iload_n 3, 1) := by decide +kernel
theorem dL_law_323 : decode cL_law 323 = .ok (.iconst 4, 1) := by decide +kernel
theorem dL_law_324 : decode cL_law 324 = .ok (.iadd, 1) := by decide +kernel
theorem dL_law_325 : decode cL_law 325 = .ok (.iaload, 1) := by decide +kernel
theorem dL_law_326 : decode cL_law 326 = .ok (.aload_n 0, 1) := by decide +kernel
theorem dL_law_327 : decode cL_law 327 = .ok (.iload_n 3, 1) := by decide +kernel
theorem dL_law_328 : decode cL_law 328 = .ok (.iconst 5, 1) := by decide +kernel
theorem dL_law_329 : decode cL_law 329 = .ok (.iadd, 1) := by decide +kernel
