theorem dX0_init_0 : decode cX0_init 0 = .ok (.aload_n 0, 1) := by decide +kernel
theorem dX0_init_1 : decode cX0_init 1 = .ok (.invokespecial 1, 3) := by decide +kernel
theorem dX0_init_4 : decode cX0_init 4 = .ok (.return_, 1) := by decide +kernel
theorem dX0_start_0 : decode cX0_start 0 = .ok (.aload_n 0, 1) := by decide +kernel
theorem dX0_start_1 : decode cX0_start 1 = .ok (.iload_n 1, 1) := by decide +kernel
theorem dX0_start_2 : decode cX0_start 2 = .ok (.bipush 7, 2) := by decide +kernel
theorem dX0_start_4 : decode cX0_start 4 = .ok (.imul, 1) := by decide +kernel
theorem dX0_start_5 : decode cX0_start 5 = .ok (.iconst 2, 1) := by decide +kernel
theorem dX0_start_6 : decode cX0_start 6 = .ok (.iadd, 1) := by decide +kernel
theorem dX0_start_7 : decode cX0_start 7 = .ok (.putfield 7, 3) := by decide +kernel
theorem dX0_start_10 : decode cX0_start 10 = .ok (.return_, 1) := by decide +kernel
theorem dX0_draw_0 : decode cX0_draw 0 = .ok (.iload_n 1, 1) := by decide +kernel
theorem dX0_draw_1 : decode cX0_draw 1 = .ok (.iconst 1, 1) := by decide +kernel
theorem dX0_draw_2 : decode cX0_draw 2 = .ok (.if_icmp .ge 5, 3) := by decide +kernel
theorem dX0_draw_5 : decode cX0_draw 5 = .ok (.iconst 0, 1) := by decide +kernel
theorem dX0_draw_6 : decode cX0_draw 6 = .ok (.ireturn, 1) := by decide +kernel
theorem dX0_draw_7 : decode cX0_draw 7 = .ok (.aload_n 0, 1) := by decide +kernel
theorem dX0_draw_8 : decode cX0_draw 8 = .ok (.getfield 7, 3) := by decide +kernel
theorem dX0_draw_11 : decode cX0_draw 11 = .ok (.iload_n 1, 1) := by decide +kernel
theorem dX0_draw_12 : decode cX0_draw 12 = .ok (.irem, 1) := by decide +kernel
theorem dX0_draw_13 : decode cX0_draw 13 = .ok (.istore_n 2, 1) := by decide +kernel
theorem dX0_draw_14 : decode cX0_draw 14 = .ok (.aload_n 0, 1) := by decide +kernel
theorem dX0_draw_15 : decode cX0_draw 15 = .ok (.aload_n 0, 1) := by decide +kernel
theorem dX0_draw_16 : decode cX0_draw 16 = .ok (.getfield 7, 3) := by decide +kernel
theorem dX0_draw_19 : decode cX0_draw 19 = .ok (.sipush 227, 3) := by decide +kernel
theorem dX0_draw_22 : decode cX0_draw 22 = .ok (.imul, 1) := by decide +kernel
theorem dX0_draw_23 : decode cX0_draw 23 = .ok (.bipush 59, 2) := by decide +kernel
theorem dX0_draw_25 : decode cX0_draw 25 = .ok (.iadd, 1) := by decide +kernel
theorem dX0_draw_26 : decode cX0_draw 26 = .ok (.sipush 30137, 3) := by decide +kernel
theorem dX0_draw_29 : decode cX0_draw 29 = .ok (.irem, 1) := by decide +kernel
theorem dX0_draw_30 : decode cX0_draw 30 = .ok (.putfield 7, 3) := by decide +kernel
theorem dX0_draw_33 : decode cX0_draw 33 = .ok (.iload_n 2, 1) := by decide +kernel
theorem dX0_draw_34 : decode cX0_draw 34 = .ok (.ireturn, 1) := by decide +kernel
theorem dX2_init_0 : decode cX2_init 0 = .ok (.aload_n 0, 1) := by decide +kernel
theorem dX2_init_1 : decode cX2_init 1 = .ok (.invokespecial 3, 3) := by decide +kernel
theorem dX2_init_4 : decode cX2_init 4 = .ok (.aload_n 0, 1) := by decide +kernel
theorem dX2_init_5 : decode cX2_init 5 = .ok (.bipush 10, 2) := by decide +kernel
theorem dX2_init_7 : decode cX2_init 7 = .ok (.newarray .int, 2) := by decide +kernel
theorem dX2_init_9 : decode cX2_init 9 = .ok (.putfield 9, 3) := by decide +kernel
theorem dX2_init_12 : decode cX2_init 12 = .ok (.aload_n 0, 1) := by decide +kernel
theorem dX2_init_13 : decode cX2_init 13 = .ok (.iconst 1, 1) := by decide +kernel
theorem dX2_init_14 : decode cX2_init 14 = .ok (.iload_n 1, 1) := by decide +kernel
theorem dX2_init_15 : decode cX2_init 15 = .ok (.bipush 12, 2) := by decide +kernel
theorem dX2_init_17 : decode cX2_init 17 = .ok (.invokestatic 15, 3) := by decide +kernel
theorem dX2_init_20 : decode cX2_init 20 = .ok (.invokestatic 21, 3) := by decide +kernel
theorem dX2_init_23 : decode cX2_init 23 = .ok (.putfield 24, 3) := by decide +kernel
theorem dX2_init_26 : decode cX2_init 26 = .ok (.aload_n 0, 1) := by decide +kernel
theorem dX2_init_27 : decode cX2_init 27 = .ok (.aload_n 0, 1) := by decide +kernel
theorem dX2_init_28 : decode cX2_init 28 = .ok (.getfield 24, 3) := by decide +kernel
theorem dX2_init_31 : decode cX2_init 31 = .ok (.iconst 1, 1) := by decide +kernel
theorem dX2_init_32 : decode cX2_init 32 = .ok (.iadd, 1) := by decide +kernel
theorem dX2_init_33 : decode cX2_init 33 = .ok (.invokestatic 28, 3) := by decide +kernel
theorem dX2_init_36 : decode cX2_init 36 = .ok (.newarray .long, 2) := by decide +kernel
theorem dX2_init_38 : decode cX2_init 38 = .ok (.putfield 32, 3) := by decide +kernel
theorem dX2_init_41 : decode cX2_init 41 = .ok (.aload_n 0, 1) := by decide +kernel
theorem dX2_init_42 : decode cX2_init 42 = .ok (.aload_n 0, 1) := by decide +kernel
theorem dX2_init_43 : decode cX2_init 43 = .ok (.getfield 24, 3) := by decide +kernel
theorem dX2_init_46 : decode cX2_init 46 = .ok (.iconst 1, 1) := by decide +kernel
theorem dX2_init_47 : decode cX2_init 47 = .ok (.iadd, 1) := by decide +kernel
theorem dX2_init_48 : decode cX2_init 48 = .ok (.invokestatic 28, 3) := by decide +kernel
theorem dX2_init_51 : decode cX2_init 51 = .ok (.newarray .int, 2) := by decide +kernel
theorem dX2_init_53 : decode cX2_init 53 = .ok (.putfield 36, 3) := by decide +kernel
theorem dX2_init_56 : decode cX2_init 56 = .ok (.aload_n 0, 1) := by decide +kernel
theorem dX2_init_57 : decode cX2_init 57 = .ok (.iconst (-1), 1) := by decide +kernel
theorem dX2_init_58 : decode cX2_init 58 = .ok (.putfield 39, 3) := by decide +kernel
theorem dX2_init_61 : decode cX2_init 61 = .ok (.return_, 1) := by decide +kernel
theorem dX2_suit_0 : decode cX2_suit 0 = .ok (.aload_n 0, 1) := by decide +kernel
theorem dX2_suit_1 : decode cX2_suit 1 = .ok (.getfield 42, 3) := by decide +kernel
theorem dX2_suit_4 : decode cX2_suit 4 = .ok (.aload_n 1, 1) := by decide +kernel
theorem dX2_suit_5 : decode cX2_suit 5 = .ok (.getfield 45, 3) := by decide +kernel
theorem dX2_suit_8 : decode cX2_suit 8 = .ok (.if_icmp .ne 15, 3) := by decide +kernel
theorem dX2_suit_11 : decode cX2_suit 11 = .ok (.aload_n 0, 1) := by decide +kernel
theorem dX2_suit_12 : decode cX2_suit 12 = .ok (.getfield 39, 3) := by decide +kernel
theorem dX2_suit_15 : decode cX2_suit 15 = .ok (.iload_n 2, 1) := by decide +kernel
theorem dX2_suit_16 : decode cX2_suit 16 = .ok (.if_icmp .ne 7, 3) := by decide +kernel
theorem dX2_suit_19 : decode cX2_suit 19 = .ok (.iconst 1, 1) := by decide +kernel
theorem dX2_suit_20 : decode cX2_suit 20 = .ok (.goto 4, 3) := by decide +kernel
theorem dX2_suit_23 : decode cX2_suit 23 = .ok (.iconst 0, 1) := by decide +kernel
theorem dX2_suit_24 : decode cX2_suit 24 = .ok (.istore_n 3, 1) := by decide +kernel
theorem dX2_suit_25 : decode cX2_suit 25 = .ok (.iconst 0, 1) := by decide +kernel
theorem dX2_suit_26 : decode cX2_suit 26 = .ok (.istore 4, 2) := by decide +kernel
theorem dX2_suit_28 : decode cX2_suit 28 = .ok (.iload 4, 2) := by decide +kernel
theorem dX2_suit_30 : decode cX2_suit 30 = .ok (.aload_n 0, 1) := by decide +kernel
theorem dX2_suit_31 : decode cX2_suit 31 = .ok (.getfield 42, 3) := by decide +kernel
theorem dX2_suit_34 : decode cX2_suit 34 = .ok (.if_icmp .ge 43, 3) := by decide +kernel
theorem dX2_suit_37 : decode cX2_suit 37 = .ok (.iload 4, 2) := by decide +kernel
theorem dX2_suit_39 : decode cX2_suit 39 = .ok (.bipush 10, 2) := by decide +kernel
theorem dX2_suit_41 : decode cX2_suit 41 = .ok (.if_icmp .ge 36, 3) := by decide +kernel
theorem dX2_suit_44 : decode cX2_suit 44 = .ok (.iload_n 3, 1) := by decide +kernel
theorem dX2_suit_45 : decode cX2_suit 45 = .ok (.ifCond .eq 32, 3) := by decide +kernel
theorem dX2_suit_48 : decode cX2_suit 48 = .ok (.aload_n 0, 1) := by decide +kernel
theorem dX2_suit_49 : decode cX2_suit 49 = .ok (.getfield 9, 3) := by decide +kernel
theorem dX2_suit_52 : decode cX2_suit 52 = .ok (.iload 4, 2) := by decide +kernel
theorem dX2_suit_54 : decode cX2_suit 54 = .ok (.iaload, 1) := by decide +kernel
theorem dX2_suit_55 : decode cX2_suit 55 = .ok (.aload_n 1, 1) := by decide +kernel
theorem dX2_suit_56 : decode cX2_suit 56 = .ok (.getfield 48, 3) := by decide +kernel
theorem dX2_suit_59 : decode cX2_suit 59 = .ok (.iload 4, 2) := by decide +kernel
theorem dX2_suit_61 : decode cX2_suit 61 = .ok (.iaload, 1) := by decide +kernel
theorem dX2_suit_62 : decode cX2_suit 62 = .ok (.if_icmp .ne 7, 3) := by decide +kernel
theorem dX2_suit_65 : decode cX2_suit 65 = .ok (.iconst 1, 1) := by decide +kernel
theorem dX2_suit_66 : decode cX2_suit 66 = .ok (.goto 4, 3) := by decide +kernel
theorem dX2_suit_69 : decode cX2_suit 69 = .ok (.iconst 0, 1) := by decide +kernel
theorem dX2_suit_70 : decode cX2_suit 70 = .ok (.istore_n 3, 1) := by decide +kernel
theorem dX2_suit_71 : decode cX2_suit 71 = .ok (.iinc 4 1, 3) := by decide +kernel
theorem dX2_suit_74 : decode cX2_suit 74 = .ok (.goto (-46), 3) := by decide +kernel
theorem dX2_suit_77 : decode cX2_suit 77 = .ok (.iload_n 3, 1) := by decide +kernel
theorem dX2_suit_78 : decode cX2_suit 78 = .ok (.ifCond .eq 4, 3) := by decide +kernel
theorem dX2_suit_81 : decode cX2_suit 81 = .ok (.return_, 1) := by decide +kernel
theorem dX2_suit_82 : decode cX2_suit 82 = .ok (.aload_n 1, 1) := by decide +kernel
theorem dX2_suit_83 : decode cX2_suit 83 = .ok (.getfield 48, 3) := by decide +kernel
theorem dX2_suit_86 : decode cX2_suit 86 = .ok (.iconst 0, 1) := by decide +kernel
theorem dX2_suit_87 : decode cX2_suit 87 = .ok (.aload_n 0, 1) := by decide +kernel
theorem dX2_suit_88 : decode cX2_suit 88 = .ok (.getfield 9, 3) := by decide +kernel
theorem dX2_suit_91 : decode cX2_suit 91 = .ok (.iconst 0, 1) := by decide +kernel
theorem dX2_suit_92 : decode cX2_suit 92 = .ok (.bipush 10, 2) := by decide +kernel
theorem dX2_suit_94 : decode cX2_suit 94 = .ok (.invokestatic 49, 3) := by decide +kernel
theorem dX2_suit_97 : decode cX2_suit 97 = .ok (.aload_n 0, 1) := by decide +kernel
theorem dX2_suit_98 : decode cX2_suit 98 = .ok (.aload_n 1, 1) := by decide +kernel
theorem dX2_suit_99 : decode cX2_suit 99 = .ok (.getfield 45, 3) := by decide +kernel
theorem dX2_suit_102 : decode cX2_suit 102 = .ok (.bipush 10, 2) := by decide +kernel
theorem dX2_suit_104 : decode cX2_suit 104 = .ok (.invokestatic 15, 3) := by decide +kernel
theorem dX2_suit_107 : decode cX2_suit 107 = .ok (.putfield 42, 3) := by decide +kernel
theorem dX2_suit_110 : decode cX2_suit 110 = .ok (.aload_n 0, 1) := by decide +kernel
theorem dX2_suit_111 : decode cX2_suit 111 = .ok (.iload_n 2, 1) := by decide +kernel
theorem dX2_suit_112 : decode cX2_suit 112 = .ok (.putfield 39, 3) := by decide +kernel
theorem dX2_suit_115 : decode cX2_suit 115 = .ok (.aload_n 0, 1) := by decide +kernel
theorem dX2_suit_116 : decode cX2_suit 116 = .ok (.iconst 0, 1) := by decide +kernel
theorem dX2_suit_117 : decode cX2_suit 117 = .ok (.putfield 55, 3) := by decide +kernel
theorem dX2_suit_120 : decode cX2_suit 120 = .ok (.return_, 1) := by decide +kernel
theorem dX2_total_0 : decode cX2_total 0 = .ok (.aload_n 0, 1) := by decide +kernel
theorem dX2_total_1 : decode cX2_total 1 = .ok (.iload 5, 2) := by decide +kernel
theorem dX2_total_3 : decode cX2_total 3 = .ok (.invokevirtual 58, 3) := by decide +kernel
theorem dX2_total_6 : decode cX2_total 6 = .ok (.lconst 0, 1) := by decide +kernel
theorem dX2_total_7 : decode cX2_total 7 = .ok (.lstore 6, 2) := by decide +kernel
theorem dX2_total_9 : decode cX2_total 9 = .ok (.iload 4, 2) := by decide +kernel
theorem dX2_total_11 : decode cX2_total 11 = .ok (.istore 8, 2) := by decide +kernel
theorem dX2_total_13 : decode cX2_total 13 = .ok (.iload 8, 2) := by decide +kernel
theorem dX2_total_15 : decode cX2_total 15 = .ok (.iload 5, 2) := by decide +kernel
theorem dX2_total_17 : decode cX2_total 17 = .ok (.if_icmp .gt 32, 3) := by decide +kernel
theorem dX2_total_20 : decode cX2_total 20 = .ok (.iload 8, 2) := by decide +kernel
theorem dX2_total_22 : decode cX2_total 22 = .ok (.aload_n 0, 1) := by decide +kernel
theorem dX2_total_23 : decode cX2_total 23 = .ok (.getfield 24, 3) := by decide +kernel
theorem dX2_total_26 : decode cX2_total 26 = .ok (.if_icmp .gt 23, 3) := by decide +kernel
theorem dX2_total_29 : decode cX2_total 29 = .ok (.lload 6, 2) := by decide +kernel
theorem dX2_total_31 : decode cX2_total 31 = .ok (.aload_n 0, 1) := by decide +kernel
theorem dX2_total_32 : decode cX2_total 32 = .ok (.iload_n 1, 1) := by decide +kernel
theorem dX2_total_33 : decode cX2_total 33 = .ok (.iload_n 2, 1) := by decide +kernel
theorem dX2_total_34 : decode cX2_total 34 = .ok (.iload_n 3, 1) := by decide +kernel
theorem dX2_total_35 : decode cX2_total 35 = .ok (.iload 8, 2) := by decide +kernel
theorem dX2_total_37 : decode cX2_total 37 = .ok (.invokevirtual 62, 3) := by decide +kernel
theorem dX2_total_40 : decode cX2_total 40 = .ok (.ladd, 1) := by decide +kernel
theorem dX2_total_41 : decode cX2_total 41 = .ok (.lstore 6, 2) := by decide +kernel
theorem dX2_total_43 : decode cX2_total 43 = .ok (.iinc 8 1, 3) := by decide +kernel
theorem dX2_total_46 : decode cX2_total 46 = .ok (.goto (-33), 3) := by decide +kernel
theorem dX2_total_49 : decode cX2_total 49 = .ok (.lload 6, 2) := by decide +kernel
theorem dX2_total_51 : decode cX2_total 51 = .ok (.lreturn, 1) := by decide +kernel
theorem dX2_shortest_0 : decode cX2_shortest 0 = .ok (.aload_n 0, 1) := by decide +kernel
theorem dX2_shortest_1 : decode cX2_shortest 1 = .ok (.iload 5, 2) := by decide +kernel
theorem dX2_shortest_3 : decode cX2_shortest 3 = .ok (.invokevirtual 58, 3) := by decide +kernel
theorem dX2_shortest_6 : decode cX2_shortest 6 = .ok (.iload 4, 2) := by decide +kernel
theorem dX2_shortest_8 : decode cX2_shortest 8 = .ok (.istore 6, 2) := by decide +kernel
theorem dX2_shortest_10 : decode cX2_shortest 10 = .ok (.iload 6, 2) := by decide +kernel
theorem dX2_shortest_12 : decode cX2_shortest 12 = .ok (.iload 5, 2) := by decide +kernel
theorem dX2_shortest_14 : decode cX2_shortest 14 = .ok (.if_icmp .gt 35, 3) := by decide +kernel
theorem dX2_shortest_17 : decode cX2_shortest 17 = .ok (.iload 6, 2) := by decide +kernel
theorem dX2_shortest_19 : decode cX2_shortest 19 = .ok (.aload_n 0, 1) := by decide +kernel
theorem dX2_shortest_20 : decode cX2_shortest 20 = .ok (.getfield 24, 3) := by decide +kernel
theorem dX2_shortest_23 : decode cX2_shortest 23 = .ok (.if_icmp .gt 26, 3) := by decide +kernel
theorem dX2_shortest_26 : decode cX2_shortest 26 = .ok (.aload_n 0, 1) := by decide +kernel
theorem dX2_shortest_27 : decode cX2_shortest 27 = .ok (.iload_n 1, 1) := by decide +kernel
theorem dX2_shortest_28 : decode cX2_shortest 28 = .ok (.iload_n 2, 1) := by decide +kernel
theorem dX2_shortest_29 : decode cX2_shortest 29 = .ok (.iload_n 3, 1) := by decide +kernel
theorem dX2_shortest_30 : decode cX2_shortest 30 = .ok (.iload 6, 2) := by decide +kernel
theorem dX2_shortest_32 : decode cX2_shortest 32 = .ok (.invokevirtual 62, 3) := by decide +kernel
theorem dX2_shortest_35 : decode cX2_shortest 35 = .ok (.lconst 0, 1) := by decide +kernel
theorem dX2_shortest_36 : decode cX2_shortest 36 = .ok (.lcmp, 1) := by decide +kernel
theorem dX2_shortest_37 : decode cX2_shortest 37 = .ok (.ifCond .le 6, 3) := by decide +kernel
theorem dX2_shortest_40 : decode cX2_shortest 40 = .ok (.iload 6, 2) := by decide +kernel
theorem dX2_shortest_42 : decode cX2_shortest 42 = .ok (.ireturn, 1) := by decide +kernel
theorem dX2_shortest_43 : decode cX2_shortest 43 = .ok (.iinc 6 1, 3) := by decide +kernel
theorem dX2_shortest_46 : decode cX2_shortest 46 = .ok (.goto (-36), 3) := by decide +kernel
theorem dX2_shortest_49 : decode cX2_shortest 49 = .ok (.iconst (-1), 1) := by decide +kernel
theorem dX2_shortest_50 : decode cX2_shortest 50 = .ok (.ireturn, 1) := by decide +kernel
theorem dX2_handOfFirst_0 : decode cX2_handOfFirst 0 = .ok (.aload_n 0, 1) := by decide +kernel
theorem dX2_handOfFirst_1 : decode cX2_handOfFirst 1 = .ok (.iload 4, 2) := by decide +kernel
theorem dX2_handOfFirst_3 : decode cX2_handOfFirst 3 = .ok (.invokevirtual 58, 3) := by decide +kernel
theorem dX2_handOfFirst_6 : decode cX2_handOfFirst 6 = .ok (.iload_n 1, 1) := by decide +kernel
theorem dX2_handOfFirst_7 : decode cX2_handOfFirst 7 = .ok (.istore 6, 2) := by decide +kernel
theorem dX2_handOfFirst_9 : decode cX2_handOfFirst 9 = .ok (.iload_n 2, 1) := by decide +kernel
theorem dX2_handOfFirst_10 : decode cX2_handOfFirst 10 = .ok (.istore 7, 2) := by decide +kernel
theorem dX2_handOfFirst_12 : decode cX2_handOfFirst 12 = .ok (.iconst 0, 1) := by decide +kernel
theorem dX2_handOfFirst_13 : decode cX2_handOfFirst 13 = .ok (.istore 8, 2) := by decide +kernel
theorem dX2_handOfFirst_15 : decode cX2_handOfFirst 15 = .ok (.iload 8, 2) := by decide +kernel
theorem dX2_handOfFirst_17 : decode cX2_handOfFirst 17 = .ok (.iload 5, 2) := by decide +kernel
theorem dX2_handOfFirst_19 : decode cX2_handOfFirst 19 = .ok (.if_icmp .gt 58, 3) := by decide +kernel
theorem dX2_handOfFirst_22 : decode cX2_handOfFirst 22 = .ok (.iload 8, 2) := by decide +kernel
theorem dX2_handOfFirst_24 : decode cX2_handOfFirst 24 = .ok (.iload 4, 2) := by decide +kernel
theorem dX2_handOfFirst_26 : decode cX2_handOfFirst 26 = .ok (.if_icmp .ge 51, 3) := by decide +kernel
theorem dX2_handOfFirst_29 : decode cX2_handOfFirst 29 = .ok (.aload_n 0, 1) := by decide +kernel
theorem dX2_handOfFirst_30 : decode cX2_handOfFirst 30 = .ok (.iload 6, 2) := by decide +kernel
theorem dX2_handOfFirst_32 : decode cX2_handOfFirst 32 = .ok (.iload 7, 2) := by decide +kernel
theorem dX2_handOfFirst_34 : decode cX2_handOfFirst 34 = .ok (.iload_n 3, 1) := by decide +kernel
theorem dX2_handOfFirst_35 : decode cX2_handOfFirst 35 = .ok (.iload 4, 2) := by decide +kernel
theorem dX2_handOfFirst_37 : decode cX2_handOfFirst 37 = .ok (.iload 8, 2) := by decide +kernel
theorem dX2_handOfFirst_39 : decode cX2_handOfFirst 39 = .ok (.isub, 1) := by decide +kernel
theorem dX2_handOfFirst_40 : decode cX2_handOfFirst 40 = .ok (.invokevirtual 66, 3) := by decide +kernel
theorem dX2_handOfFirst_43 : decode cX2_handOfFirst 43 = .ok (.istore 6, 2) := by decide +kernel
theorem dX2_handOfFirst_45 : decode cX2_handOfFirst 45 = .ok (.iload 6, 2) := by decide +kernel
theorem dX2_handOfFirst_47 : decode cX2_handOfFirst 47 = .ok (.ifCond .lt 10, 3) := by decide +kernel
theorem dX2_handOfFirst_50 : decode cX2_handOfFirst 50 = .ok (.iload 6, 2) := by decide +kernel
theorem dX2_handOfFirst_52 : decode cX2_handOfFirst 52 = .ok (.bipush 10, 2) := by decide +kernel
theorem dX2_handOfFirst_54 : decode cX2_handOfFirst 54 = .ok (.if_icmp .lt 5, 3) := by decide +kernel
theorem dX2_handOfFirst_57 : decode cX2_handOfFirst 57 = .ok (.iconst (-1), 1) := by decide +kernel
theorem dX2_handOfFirst_58 : decode cX2_handOfFirst 58 = .ok (.ireturn, 1) := by decide +kernel
theorem dX2_handOfFirst_59 : decode cX2_handOfFirst 59 = .ok (.iload 7, 2) := by decide +kernel
theorem dX2_handOfFirst_61 : decode cX2_handOfFirst 61 = .ok (.aload_n 0, 1) := by decide +kernel
theorem dX2_handOfFirst_62 : decode cX2_handOfFirst 62 = .ok (.getfield 9, 3) := by decide +kernel
theorem dX2_handOfFirst_65 : decode cX2_handOfFirst 65 = .ok (.iload 6, 2) := by decide +kernel
theorem dX2_handOfFirst_67 : decode cX2_handOfFirst 67 = .ok (.iaload, 1) := by decide +kernel
theorem dX2_handOfFirst_68 : decode cX2_handOfFirst 68 = .ok (.isub, 1) := by decide +kernel
theorem dX2_handOfFirst_69 : decode cX2_handOfFirst 69 = .ok (.istore 7, 2) := by decide +kernel
theorem dX2_handOfFirst_71 : decode cX2_handOfFirst 71 = .ok (.iinc 8 1, 3) := by decide +kernel
theorem dX2_handOfFirst_74 : decode cX2_handOfFirst 74 = .ok (.goto (-59), 3) := by decide +kernel
theorem dX2_handOfFirst_77 : decode cX2_handOfFirst 77 = .ok (.iload 6, 2) := by decide +kernel
theorem dX2_handOfFirst_79 : decode cX2_handOfFirst 79 = .ok (.ireturn, 1) := by decide +kernel
theorem dX2_inAll_0 : decode cX2_inAll 0 = .ok (.aload_n 0, 1) := by decide +kernel
theorem dX2_inAll_1 : decode cX2_inAll 1 = .ok (.iload_n 1, 1) := by decide +kernel
theorem dX2_inAll_2 : decode cX2_inAll 2 = .ok (.iload_n 2, 1) := by decide +kernel
theorem dX2_inAll_3 : decode cX2_inAll 3 = .ok (.iload_n 3, 1) := by decide +kernel
theorem dX2_inAll_4 : decode cX2_inAll 4 = .ok (.iload 4, 2) := by decide +kernel
theorem dX2_inAll_6 : decode cX2_inAll 6 = .ok (.iload 5, 2) := by decide +kernel
theorem dX2_inAll_8 : decode cX2_inAll 8 = .ok (.invokevirtual 70, 3) := by decide +kernel
theorem dX2_inAll_11 : decode cX2_inAll 11 = .ok (.istore 6, 2) := by decide +kernel
theorem dX2_inAll_13 : decode cX2_inAll 13 = .ok (.iload 6, 2) := by decide +kernel
theorem dX2_inAll_15 : decode cX2_inAll 15 = .ok (.ifCond .ne 7, 3) := by decide +kernel
theorem dX2_inAll_18 : decode cX2_inAll 18 = .ok (.iconst 0, 1) := by decide +kernel
theorem dX2_inAll_19 : decode cX2_inAll 19 = .ok (.goto 11, 3) := by decide +kernel
theorem dX2_inAll_22 : decode cX2_inAll 22 = .ok (.iload 6, 2) := by decide +kernel
theorem dX2_inAll_24 : decode cX2_inAll 24 = .ok (.iconst (-1), 1) := by decide +kernel
theorem dX2_inAll_25 : decode cX2_inAll 25 = .ok (.ixor, 1) := by decide +kernel
theorem dX2_inAll_26 : decode cX2_inAll 26 = .ok (.sipush 1023, 3) := by decide +kernel
theorem dX2_inAll_29 : decode cX2_inAll 29 = .ok (.iand, 1) := by decide +kernel
theorem dX2_inAll_30 : decode cX2_inAll 30 = .ok (.ireturn, 1) := by decide +kernel
theorem dX2_inSome_0 : decode cX2_inSome 0 = .ok (.aload_n 0, 1) := by decide +kernel
theorem dX2_inSome_1 : decode cX2_inSome 1 = .ok (.iload_n 1, 1) := by decide +kernel
theorem dX2_inSome_2 : decode cX2_inSome 2 = .ok (.iload_n 2, 1) := by decide +kernel
theorem dX2_inSome_3 : decode cX2_inSome 3 = .ok (.iload_n 3, 1) := by decide +kernel
theorem dX2_inSome_4 : decode cX2_inSome 4 = .ok (.iload 4, 2) := by decide +kernel
theorem dX2_inSome_6 : decode cX2_inSome 6 = .ok (.iload 5, 2) := by decide +kernel
theorem dX2_inSome_8 : decode cX2_inSome 8 = .ok (.invokevirtual 70, 3) := by decide +kernel
theorem dX2_inSome_11 : decode cX2_inSome 11 = .ok (.bipush 10, 2) := by decide +kernel
theorem dX2_inSome_13 : decode cX2_inSome 13 = .ok (.ishr, 1) := by decide +kernel
theorem dX2_inSome_14 : decode cX2_inSome 14 = .ok (.sipush 1023, 3) := by decide +kernel
theorem dX2_inSome_17 : decode cX2_inSome 17 = .ok (.iand, 1) := by decide +kernel
theorem dX2_inSome_18 : decode cX2_inSome 18 = .ok (.ireturn, 1) := by decide +kernel
theorem dX2_marksOf_0 : decode cX2_marksOf 0 = .ok (.aload_n 0, 1) := by decide +kernel
theorem dX2_marksOf_1 : decode cX2_marksOf 1 = .ok (.iload 5, 2) := by decide +kernel
theorem dX2_marksOf_3 : decode cX2_marksOf 3 = .ok (.invokevirtual 58, 3) := by decide +kernel
theorem dX2_marksOf_6 : decode cX2_marksOf 6 = .ok (.iload 4, 2) := by decide +kernel
theorem dX2_marksOf_8 : decode cX2_marksOf 8 = .ok (.ifCond .ne 17, 3) := by decide +kernel
theorem dX2_marksOf_11 : decode cX2_marksOf 11 = .ok (.iload_n 2, 1) := by decide +kernel
theorem dX2_marksOf_12 : decode cX2_marksOf 12 = .ok (.iload_n 3, 1) := by decide +kernel
theorem dX2_marksOf_13 : decode cX2_marksOf 13 = .ok (.invokestatic 74, 3) := by decide +kernel
theorem dX2_marksOf_16 : decode cX2_marksOf 16 = .ok (.ifCond .eq 9, 3) := by decide +kernel
theorem dX2_marksOf_19 : decode cX2_marksOf 19 = .ok (.sipush 1023, 3) := by decide +kernel
theorem dX2_marksOf_22 : decode cX2_marksOf 22 = .ok (.goto 4, 3) := by decide +kernel
theorem dX2_marksOf_25 : decode cX2_marksOf 25 = .ok (.iconst 0, 1) := by decide +kernel
theorem dX2_marksOf_26 : decode cX2_marksOf 26 = .ok (.istore 6, 2) := by decide +kernel
theorem dX2_marksOf_28 : decode cX2_marksOf 28 = .ok (.iload 4, 2) := by decide +kernel
theorem dX2_marksOf_30 : decode cX2_marksOf 30 = .ok (.iconst 1, 1) := by decide +kernel
theorem dX2_marksOf_31 : decode cX2_marksOf 31 = .ok (.invokestatic 21, 3) := by decide +kernel
theorem dX2_marksOf_34 : decode cX2_marksOf 34 = .ok (.istore 7, 2) := by decide +kernel
theorem dX2_marksOf_36 : decode cX2_marksOf 36 = .ok (.iload 7, 2) := by decide +kernel
theorem dX2_marksOf_38 : decode cX2_marksOf 38 = .ok (.iload 5, 2) := by decide +kernel
theorem dX2_marksOf_40 : decode cX2_marksOf 40 = .ok (.if_icmp .gt 67, 3) := by decide +kernel
theorem dX2_marksOf_43 : decode cX2_marksOf 43 = .ok (.iload 7, 2) := by decide +kernel
theorem dX2_marksOf_45 : decode cX2_marksOf 45 = .ok (.aload_n 0, 1) := by decide +kernel
theorem dX2_marksOf_46 : decode cX2_marksOf 46 = .ok (.getfield 24, 3) := by decide +kernel
theorem dX2_marksOf_49 : decode cX2_marksOf 49 = .ok (.if_icmp .gt 58, 3) := by decide +kernel
theorem dX2_marksOf_52 : decode cX2_marksOf 52 = .ok (.iload_n 2, 1) := by decide +kernel
theorem dX2_marksOf_53 : decode cX2_marksOf 53 = .ok (.iload_n 3, 1) := by decide +kernel
theorem dX2_marksOf_54 : decode cX2_marksOf 54 = .ok (.iadd, 1) := by decide +kernel
theorem dX2_marksOf_55 : decode cX2_marksOf 55 = .ok (.bipush 30, 2) := by decide +kernel
theorem dX2_marksOf_57 : decode cX2_marksOf 57 = .ok (.iload 7, 2) := by decide +kernel
theorem dX2_marksOf_59 : decode cX2_marksOf 59 = .ok (.imul, 1) := by decide +kernel
theorem dX2_marksOf_60 : decode cX2_marksOf 60 = .ok (.invokestatic 15, 3) := by decide +kernel
theorem dX2_marksOf_63 : decode cX2_marksOf 63 = .ok (.istore 8, 2) := by decide +kernel
theorem dX2_marksOf_65 : decode cX2_marksOf 65 = .ok (.iload_n 2, 1) := by decide +kernel
theorem dX2_marksOf_66 : decode cX2_marksOf 66 = .ok (.iload_n 3, 1) := by decide +kernel
theorem dX2_marksOf_67 : decode cX2_marksOf 67 = .ok (.isub, 1) := by decide +kernel
theorem dX2_marksOf_68 : decode cX2_marksOf 68 = .ok (.iconst 0, 1) := by decide +kernel
theorem dX2_marksOf_69 : decode cX2_marksOf 69 = .ok (.invokestatic 21, 3) := by decide +kernel
theorem dX2_marksOf_72 : decode cX2_marksOf 72 = .ok (.istore 9, 2) := by decide +kernel
theorem dX2_marksOf_74 : decode cX2_marksOf 74 = .ok (.iload 9, 2) := by decide +kernel
theorem dX2_marksOf_76 : decode cX2_marksOf 76 = .ok (.iload 8, 2) := by decide +kernel
theorem dX2_marksOf_78 : decode cX2_marksOf 78 = .ok (.if_icmp .gt 23, 3) := by decide +kernel
theorem dX2_marksOf_81 : decode cX2_marksOf 81 = .ok (.iload 6, 2) := by decide +kernel
theorem dX2_marksOf_83 : decode cX2_marksOf 83 = .ok (.aload_n 0, 1) := by decide +kernel
theorem dX2_marksOf_84 : decode cX2_marksOf 84 = .ok (.iload_n 1, 1) := by decide +kernel
theorem dX2_marksOf_85 : decode cX2_marksOf 85 = .ok (.iload 7, 2) := by decide +kernel
theorem dX2_marksOf_87 : decode cX2_marksOf 87 = .ok (.iload 9, 2) := by decide +kernel
theorem dX2_marksOf_89 : decode cX2_marksOf 89 = .ok (.invokevirtual 78, 3) := by decide +kernel
theorem dX2_marksOf_92 : decode cX2_marksOf 92 = .ok (.ior, 1) := by decide +kernel
theorem dX2_marksOf_93 : decode cX2_marksOf 93 = .ok (.istore 6, 2) := by decide +kernel
theorem dX2_marksOf_95 : decode cX2_marksOf 95 = .ok (.iinc 9 1, 3) := by decide +kernel
theorem dX2_marksOf_98 : decode cX2_marksOf 98 = .ok (.goto (-24), 3) := by decide +kernel
theorem dX2_marksOf_101 : decode cX2_marksOf 101 = .ok (.iinc 7 1, 3) := by decide +kernel
theorem dX2_marksOf_104 : decode cX2_marksOf 104 = .ok (.goto (-68), 3) := by decide +kernel
theorem dX2_marksOf_107 : decode cX2_marksOf 107 = .ok (.iload 6, 2) := by decide +kernel
theorem dX2_marksOf_109 : decode cX2_marksOf 109 = .ok (.ireturn, 1) := by decide +kernel
theorem dX2_marksAt_0 : decode cX2_marksAt 0 = .ok (.iconst 0, 1) := by decide +kernel
theorem dX2_marksAt_1 : decode cX2_marksAt 1 = .ok (.istore 4, 2) := by decide +kernel
theorem dX2_marksAt_3 : decode cX2_marksAt 3 = .ok (.iconst 0, 1) := by decide +kernel
theorem dX2_marksAt_4 : decode cX2_marksAt 4 = .ok (.istore 5, 2) := by decide +kernel
theorem dX2_marksAt_6 : decode cX2_marksAt 6 = .ok (.iload 5, 2) := by decide +kernel
theorem dX2_marksAt_8 : decode cX2_marksAt 8 = .ok (.aload_n 0, 1) := by decide +kernel
theorem dX2_marksAt_9 : decode cX2_marksAt 9 = .ok (.getfield 42, 3) := by decide +kernel
theorem dX2_marksAt_12 : decode cX2_marksAt 12 = .ok (.if_icmp .ge 52, 3) := by decide +kernel
theorem dX2_marksAt_15 : decode cX2_marksAt 15 = .ok (.aload_n 0, 1) := by decide +kernel
theorem dX2_marksAt_16 : decode cX2_marksAt 16 = .ok (.iload_n 2, 1) := by decide +kernel
theorem dX2_marksAt_17 : decode cX2_marksAt 17 = .ok (.iload 5, 2) := by decide +kernel
theorem dX2_marksAt_19 : decode cX2_marksAt 19 = .ok (.iload_n 3, 1) := by decide +kernel
theorem dX2_marksAt_20 : decode cX2_marksAt 20 = .ok (.invokevirtual 82, 3) := by decide +kernel
theorem dX2_marksAt_23 : decode cX2_marksAt 23 = .ok (.istore 6, 2) := by decide +kernel
theorem dX2_marksAt_25 : decode cX2_marksAt 25 = .ok (.iload 5, 2) := by decide +kernel
theorem dX2_marksAt_27 : decode cX2_marksAt 27 = .ok (.iload_n 1, 1) := by decide +kernel
theorem dX2_marksAt_28 : decode cX2_marksAt 28 = .ok (.if_icmp .eq 30, 3) := by decide +kernel
theorem dX2_marksAt_31 : decode cX2_marksAt 31 = .ok (.iload 6, 2) := by decide +kernel
theorem dX2_marksAt_33 : decode cX2_marksAt 33 = .ok (.ifCond .lt 25, 3) := by decide +kernel
theorem dX2_marksAt_36 : decode cX2_marksAt 36 = .ok (.iload 6, 2) := by decide +kernel
theorem dX2_marksAt_38 : decode cX2_marksAt 38 = .ok (.aload_n 0, 1) := by decide +kernel
theorem dX2_marksAt_39 : decode cX2_marksAt 39 = .ok (.getfield 36, 3) := by decide +kernel
theorem dX2_marksAt_42 : decode cX2_marksAt 42 = .ok (.arraylength, 1) := by decide +kernel
theorem dX2_marksAt_43 : decode cX2_marksAt 43 = .ok (.if_icmp .ge 15, 3) := by decide +kernel
theorem dX2_marksAt_46 : decode cX2_marksAt 46 = .ok (.iload 4, 2) := by decide +kernel
theorem dX2_marksAt_48 : decode cX2_marksAt 48 = .ok (.aload_n 0, 1) := by decide +kernel
theorem dX2_marksAt_49 : decode cX2_marksAt 49 = .ok (.getfield 36, 3) := by decide +kernel
theorem dX2_marksAt_52 : decode cX2_marksAt 52 = .ok (.iload 6, 2) := by decide +kernel
theorem dX2_marksAt_54 : decode cX2_marksAt 54 = .ok (.iaload, 1) := by decide +kernel
theorem dX2_marksAt_55 : decode cX2_marksAt 55 = .ok (.ior, 1) := by decide +kernel
theorem dX2_marksAt_56 : decode cX2_marksAt 56 = .ok (.istore 4, 2) := by decide +kernel
theorem dX2_marksAt_58 : decode cX2_marksAt 58 = .ok (.iinc 5 1, 3) := by decide +kernel
theorem dX2_marksAt_61 : decode cX2_marksAt 61 = .ok (.goto (-55), 3) := by decide +kernel
theorem dX2_marksAt_64 : decode cX2_marksAt 64 = .ok (.iload 4, 2) := by decide +kernel
theorem dX2_marksAt_66 : decode cX2_marksAt 66 = .ok (.ireturn, 1) := by decide +kernel
theorem dX2_isNear_0 : decode cX2_isNear 0 = .ok (.iload_n 0, 1) := by decide +kernel
theorem dX2_isNear_1 : decode cX2_isNear 1 = .ok (.iload_n 1, 1) := by decide +kernel
theorem dX2_isNear_2 : decode cX2_isNear 2 = .ok (.ineg, 1) := by decide +kernel
theorem dX2_isNear_3 : decode cX2_isNear 3 = .ok (.if_icmp .lt 12, 3) := by decide +kernel
theorem dX2_isNear_6 : decode cX2_isNear 6 = .ok (.iload_n 0, 1) := by decide +kernel
theorem dX2_isNear_7 : decode cX2_isNear 7 = .ok (.iload_n 1, 1) := by decide +kernel
theorem dX2_isNear_8 : decode cX2_isNear 8 = .ok (.if_icmp .gt 7, 3) := by decide +kernel
theorem dX2_isNear_11 : decode cX2_isNear 11 = .ok (.iconst 1, 1) := by decide +kernel
theorem dX2_isNear_12 : decode cX2_isNear 12 = .ok (.goto 4, 3) := by decide +kernel
theorem dX2_isNear_15 : decode cX2_isNear 15 = .ok (.iconst 0, 1) := by decide +kernel
theorem dX2_isNear_16 : decode cX2_isNear 16 = .ok (.ireturn, 1) := by decide +kernel
theorem dX2_ofLength_0 : decode cX2_ofLength 0 = .ok (.iload 4, 2) := by decide +kernel
theorem dX2_ofLength_2 : decode cX2_ofLength 2 = .ok (.ifCond .ne 17, 3) := by decide +kernel
theorem dX2_ofLength_5 : decode cX2_ofLength 5 = .ok (.iload_n 2, 1) := by decide +kernel
theorem dX2_ofLength_6 : decode cX2_ofLength 6 = .ok (.iload_n 3, 1) := by decide +kernel
theorem dX2_ofLength_7 : decode cX2_ofLength 7 = .ok (.invokestatic 74, 3) := by decide +kernel
theorem dX2_ofLength_10 : decode cX2_ofLength 10 = .ok (.ifCond .eq 7, 3) := by decide +kernel
theorem dX2_ofLength_13 : decode cX2_ofLength 13 = .ok (.lconst 1, 1) := by decide +kernel
theorem dX2_ofLength_14 : decode cX2_ofLength 14 = .ok (.goto 4, 3) := by decide +kernel
theorem dX2_ofLength_17 : decode cX2_ofLength 17 = .ok (.lconst 0, 1) := by decide +kernel
theorem dX2_ofLength_18 : decode cX2_ofLength 18 = .ok (.lreturn, 1) := by decide +kernel
theorem dX2_ofLength_19 : decode cX2_ofLength 19 = .ok (.lconst 0, 1) := by decide +kernel
theorem dX2_ofLength_20 : decode cX2_ofLength 20 = .ok (.lstore 5, 2) := by decide +kernel
theorem dX2_ofLength_22 : decode cX2_ofLength 22 = .ok (.iconst 0, 1) := by decide +kernel
theorem dX2_ofLength_23 : decode cX2_ofLength 23 = .ok (.istore 7, 2) := by decide +kernel
theorem dX2_ofLength_25 : decode cX2_ofLength 25 = .ok (.iload 7, 2) := by decide +kernel
theorem dX2_ofLength_27 : decode cX2_ofLength 27 = .ok (.aload_n 0, 1) := by decide +kernel
theorem dX2_ofLength_28 : decode cX2_ofLength 28 = .ok (.getfield 42, 3) := by decide +kernel
theorem dX2_ofLength_31 : decode cX2_ofLength 31 = .ok (.if_icmp .ge 30, 3) := by decide +kernel
theorem dX2_ofLength_34 : decode cX2_ofLength 34 = .ok (.iload 7, 2) := by decide +kernel
theorem dX2_ofLength_36 : decode cX2_ofLength 36 = .ok (.iload_n 1, 1) := by decide +kernel
theorem dX2_ofLength_37 : decode cX2_ofLength 37 = .ok (.if_icmp .eq 18, 3) := by decide +kernel
theorem dX2_ofLength_40 : decode cX2_ofLength 40 = .ok (.lload 5, 2) := by decide +kernel
theorem dX2_ofLength_42 : decode cX2_ofLength 42 = .ok (.aload_n 0, 1) := by decide +kernel
theorem dX2_ofLength_43 : decode cX2_ofLength 43 = .ok (.iload 7, 2) := by decide +kernel
theorem dX2_ofLength_45 : decode cX2_ofLength 45 = .ok (.iload_n 2, 1) := by decide +kernel
theorem dX2_ofLength_46 : decode cX2_ofLength 46 = .ok (.iload_n 3, 1) := by decide +kernel
theorem dX2_ofLength_47 : decode cX2_ofLength 47 = .ok (.iload 4, 2) := by decide +kernel
theorem dX2_ofLength_49 : decode cX2_ofLength 49 = .ok (.invokevirtual 85, 3) := by decide +kernel
theorem dX2_ofLength_52 : decode cX2_ofLength 52 = .ok (.ladd, 1) := by decide +kernel
theorem dX2_ofLength_53 : decode cX2_ofLength 53 = .ok (.lstore 5, 2) := by decide +kernel
theorem dX2_ofLength_55 : decode cX2_ofLength 55 = .ok (.iinc 7 1, 3) := by decide +kernel
theorem dX2_ofLength_58 : decode cX2_ofLength 58 = .ok (.goto (-33), 3) := by decide +kernel
theorem dX2_ofLength_61 : decode cX2_ofLength 61 = .ok (.lload 5, 2) := by decide +kernel
theorem dX2_ofLength_63 : decode cX2_ofLength 63 = .ok (.lreturn, 1) := by decide +kernel
theorem dX2_startingWith_0 : decode cX2_startingWith 0 = .ok (.lconst 0, 1) := by decide +kernel
theorem dX2_startingWith_1 : decode cX2_startingWith 1 = .ok (.lstore 5, 2) := by decide +kernel
theorem dX2_startingWith_3 : decode cX2_startingWith 3 = .ok (.iload_n 2, 1) := by decide +kernel
theorem dX2_startingWith_4 : decode cX2_startingWith 4 = .ok (.iload_n 3, 1) := by decide +kernel
theorem dX2_startingWith_5 : decode cX2_startingWith 5 = .ok (.iadd, 1) := by decide +kernel
theorem dX2_startingWith_6 : decode cX2_startingWith 6 = .ok (.bipush 30, 2) := by decide +kernel
theorem dX2_startingWith_8 : decode cX2_startingWith 8 = .ok (.iload 4, 2) := by decide +kernel
theorem dX2_startingWith_10 : decode cX2_startingWith 10 = .ok (.imul, 1) := by decide +kernel
theorem dX2_startingWith_11 : decode cX2_startingWith 11 = .ok (.invokestatic 15, 3) := by decide +kernel
theorem dX2_startingWith_14 : decode cX2_startingWith 14 = .ok (.istore 7, 2) := by decide +kernel
theorem dX2_startingWith_16 : decode cX2_startingWith 16 = .ok (.iload_n 2, 1) := by decide +kernel
theorem dX2_startingWith_17 : decode cX2_startingWith 17 = .ok (.iload_n 3, 1) := by decide +kernel
theorem dX2_startingWith_18 : decode cX2_startingWith 18 = .ok (.isub, 1) := by decide +kernel
theorem dX2_startingWith_19 : decode cX2_startingWith 19 = .ok (.iconst 0, 1) := by decide +kernel
theorem dX2_startingWith_20 : decode cX2_startingWith 20 = .ok (.invokestatic 21, 3) := by decide +kernel
theorem dX2_startingWith_23 : decode cX2_startingWith 23 = .ok (.istore 8, 2) := by decide +kernel
theorem dX2_startingWith_25 : decode cX2_startingWith 25 = .ok (.iload 8, 2) := by decide +kernel
theorem dX2_startingWith_27 : decode cX2_startingWith 27 = .ok (.iload 7, 2) := by decide +kernel
theorem dX2_startingWith_29 : decode cX2_startingWith 29 = .ok (.if_icmp .gt 51, 3) := by decide +kernel
theorem dX2_startingWith_32 : decode cX2_startingWith 32 = .ok (.aload_n 0, 1) := by decide +kernel
theorem dX2_startingWith_33 : decode cX2_startingWith 33 = .ok (.iload 4, 2) := by decide +kernel
theorem dX2_startingWith_35 : decode cX2_startingWith 35 = .ok (.iload_n 1, 1) := by decide +kernel
theorem dX2_startingWith_36 : decode cX2_startingWith 36 = .ok (.iload 8, 2) := by decide +kernel
theorem dX2_startingWith_38 : decode cX2_startingWith 38 = .ok (.invokevirtual 82, 3) := by decide +kernel
theorem dX2_startingWith_41 : decode cX2_startingWith 41 = .ok (.istore 9, 2) := by decide +kernel
theorem dX2_startingWith_43 : decode cX2_startingWith 43 = .ok (.lload 5, 2) := by decide +kernel
theorem dX2_startingWith_45 : decode cX2_startingWith 45 = .ok (.iload 9, 2) := by decide +kernel
theorem dX2_startingWith_47 : decode cX2_startingWith 47 = .ok (.ifCond .lt 23, 3) := by decide +kernel
theorem dX2_startingWith_50 : decode cX2_startingWith 50 = .ok (.iload 9, 2) := by decide +kernel
theorem dX2_startingWith_52 : decode cX2_startingWith 52 = .ok (.aload_n 0, 1) := by decide +kernel
theorem dX2_startingWith_53 : decode cX2_startingWith 53 = .ok (.getfield 32, 3) := by decide +kernel
theorem dX2_startingWith_56 : decode cX2_startingWith 56 = .ok (.arraylength, 1) := by decide +kernel
theorem dX2_startingWith_57 : decode cX2_startingWith 57 = .ok (.if_icmp .ge 13, 3) := by decide +kernel
theorem dX2_startingWith_60 : decode cX2_startingWith 60 = .ok (.aload_n 0, 1) := by decide +kernel
theorem dX2_startingWith_61 : decode cX2_startingWith 61 = .ok (.getfield 32, 3) := by decide +kernel
theorem dX2_startingWith_64 : decode cX2_startingWith 64 = .ok (.iload 9, 2) := by decide +kernel
theorem dX2_startingWith_66 : decode cX2_startingWith 66 = .ok (.laload, 1) := by decide +kernel
theorem dX2_startingWith_67 : decode cX2_startingWith 67 = .ok (.goto 4, 3) := by decide +kernel
theorem dX2_startingWith_70 : decode cX2_startingWith 70 = .ok (.lconst 0, 1) := by decide +kernel
theorem dX2_startingWith_71 : decode cX2_startingWith 71 = .ok (.ladd, 1) := by decide +kernel
theorem dX2_startingWith_72 : decode cX2_startingWith 72 = .ok (.lstore 5, 2) := by decide +kernel
theorem dX2_startingWith_74 : decode cX2_startingWith 74 = .ok (.iinc 8 1, 3) := by decide +kernel
theorem dX2_startingWith_77 : decode cX2_startingWith 77 = .ok (.goto (-52), 3) := by decide +kernel
theorem dX2_startingWith_80 : decode cX2_startingWith 80 = .ok (.lload 5, 2) := by decide +kernel
theorem dX2_startingWith_82 : decode cX2_startingWith 82 = .ok (.lreturn, 1) := by decide +kernel
theorem dX2_lowestFirst_0 : decode cX2_lowestFirst 0 = .ok (.iconst 0, 1) := by decide +kernel
theorem dX2_lowestFirst_1 : decode cX2_lowestFirst 1 = .ok (.istore 5, 2) := by decide +kernel
theorem dX2_lowestFirst_3 : decode cX2_lowestFirst 3 = .ok (.iload 5, 2) := by decide +kernel
theorem dX2_lowestFirst_5 : decode cX2_lowestFirst 5 = .ok (.aload_n 0, 1) := by decide +kernel
theorem dX2_lowestFirst_6 : decode cX2_lowestFirst 6 = .ok (.getfield 42, 3) := by decide +kernel
theorem dX2_lowestFirst_9 : decode cX2_lowestFirst 9 = .ok (.if_icmp .ge 33, 3) := by decide +kernel
theorem dX2_lowestFirst_12 : decode cX2_lowestFirst 12 = .ok (.iload 5, 2) := by decide +kernel
theorem dX2_lowestFirst_14 : decode cX2_lowestFirst 14 = .ok (.iload_n 1, 1) := by decide +kernel
theorem dX2_lowestFirst_15 : decode cX2_lowestFirst 15 = .ok (.if_icmp .eq 21, 3) := by decide +kernel
theorem dX2_lowestFirst_18 : decode cX2_lowestFirst 18 = .ok (.aload_n 0, 1) := by decide +kernel
theorem dX2_lowestFirst_19 : decode cX2_lowestFirst 19 = .ok (.iload 5, 2) := by decide +kernel
theorem dX2_lowestFirst_21 : decode cX2_lowestFirst 21 = .ok (.iload_n 2, 1) := by decide +kernel
theorem dX2_lowestFirst_22 : decode cX2_lowestFirst 22 = .ok (.iload_n 3, 1) := by decide +kernel
theorem dX2_lowestFirst_23 : decode cX2_lowestFirst 23 = .ok (.iload 4, 2) := by decide +kernel
theorem dX2_lowestFirst_25 : decode cX2_lowestFirst 25 = .ok (.invokevirtual 85, 3) := by decide +kernel
theorem dX2_lowestFirst_28 : decode cX2_lowestFirst 28 = .ok (.lconst 0, 1) := by decide +kernel
theorem dX2_lowestFirst_29 : decode cX2_lowestFirst 29 = .ok (.lcmp, 1) := by decide +kernel
theorem dX2_lowestFirst_30 : decode cX2_lowestFirst 30 = .ok (.ifCond .le 6, 3) := by decide +kernel
theorem dX2_lowestFirst_33 : decode cX2_lowestFirst 33 = .ok (.iload 5, 2) := by decide +kernel
theorem dX2_lowestFirst_35 : decode cX2_lowestFirst 35 = .ok (.ireturn, 1) := by decide +kernel
theorem dX2_lowestFirst_36 : decode cX2_lowestFirst 36 = .ok (.iinc 5 1, 3) := by decide +kernel
theorem dX2_lowestFirst_39 : decode cX2_lowestFirst 39 = .ok (.goto (-36), 3) := by decide +kernel
theorem dX2_lowestFirst_42 : decode cX2_lowestFirst 42 = .ok (.iconst (-1), 1) := by decide +kernel
theorem dX2_lowestFirst_43 : decode cX2_lowestFirst 43 = .ok (.ireturn, 1) := by decide +kernel
theorem dX2_build_0 : decode cX2_build 0 = .ok (.aload_n 0, 1) := by decide +kernel
theorem dX2_build_1 : decode cX2_build 1 = .ok (.getfield 55, 3) := by decide +kernel
theorem dX2_build_4 : decode cX2_build 4 = .ok (.iconst 1, 1) := by decide +kernel
theorem dX2_build_5 : decode cX2_build 5 = .ok (.iadd, 1) := by decide +kernel
theorem dX2_build_6 : decode cX2_build 6 = .ok (.istore_n 2, 1) := by decide +kernel
theorem dX2_build_7 : decode cX2_build 7 = .ok (.iload_n 2, 1) := by decide +kernel
theorem dX2_build_8 : decode cX2_build 8 = .ok (.iload_n 1, 1) := by decide +kernel
theorem dX2_build_9 : decode cX2_build 9 = .ok (.if_icmp .gt 60, 3) := by decide +kernel
theorem dX2_build_12 : decode cX2_build 12 = .ok (.iload_n 2, 1) := by decide +kernel
theorem dX2_build_13 : decode cX2_build 13 = .ok (.aload_n 0, 1) := by decide +kernel
theorem dX2_build_14 : decode cX2_build 14 = .ok (.getfield 24, 3) := by decide +kernel
theorem dX2_build_17 : decode cX2_build 17 = .ok (.if_icmp .gt 52, 3) := by decide +kernel
theorem dX2_build_20 : decode cX2_build 20 = .ok (.aload_n 0, 1) := by decide +kernel
theorem dX2_build_21 : decode cX2_build 21 = .ok (.iload_n 2, 1) := by decide +kernel
theorem dX2_build_22 : decode cX2_build 22 = .ok (.invokevirtual 88, 3) := by decide +kernel
theorem dX2_build_25 : decode cX2_build 25 = .ok (.iload_n 2, 1) := by decide +kernel
theorem dX2_build_26 : decode cX2_build 26 = .ok (.iconst 1, 1) := by decide +kernel
theorem dX2_build_27 : decode cX2_build 27 = .ok (.if_icmp .ne 7, 3) := by decide +kernel
theorem dX2_build_30 : decode cX2_build 30 = .ok (.aload_n 0, 1) := by decide +kernel
theorem dX2_build_31 : decode cX2_build 31 = .ok (.invokevirtual 91, 3) := by decide +kernel
theorem dX2_build_34 : decode cX2_build 34 = .ok (.iconst 0, 1) := by decide +kernel
theorem dX2_build_35 : decode cX2_build 35 = .ok (.istore_n 3, 1) := by decide +kernel
theorem dX2_build_36 : decode cX2_build 36 = .ok (.iload_n 3, 1) := by decide +kernel
theorem dX2_build_37 : decode cX2_build 37 = .ok (.bipush 30, 2) := by decide +kernel
theorem dX2_build_39 : decode cX2_build 39 = .ok (.iload_n 2, 1) := by decide +kernel
theorem dX2_build_40 : decode cX2_build 40 = .ok (.iconst 1, 1) := by decide +kernel
theorem dX2_build_41 : decode cX2_build 41 = .ok (.isub, 1) := by decide +kernel
theorem dX2_build_42 : decode cX2_build 42 = .ok (.imul, 1) := by decide +kernel
theorem dX2_build_43 : decode cX2_build 43 = .ok (.if_icmp .gt 15, 3) := by decide +kernel
theorem dX2_build_46 : decode cX2_build 46 = .ok (.aload_n 0, 1) := by decide +kernel
theorem dX2_build_47 : decode cX2_build 47 = .ok (.iload_n 2, 1) := by decide +kernel
theorem dX2_build_48 : decode cX2_build 48 = .ok (.iload_n 3, 1) := by decide +kernel
theorem dX2_build_49 : decode cX2_build 49 = .ok (.invokevirtual 94, 3) := by decide +kernel
theorem dX2_build_52 : decode cX2_build 52 = .ok (.iinc 3 1, 3) := by decide +kernel
theorem dX2_build_55 : decode cX2_build 55 = .ok (.goto (-19), 3) := by decide +kernel
theorem dX2_build_58 : decode cX2_build 58 = .ok (.aload_n 0, 1) := by decide +kernel
theorem dX2_build_59 : decode cX2_build 59 = .ok (.iload_n 2, 1) := by decide +kernel
theorem dX2_build_60 : decode cX2_build 60 = .ok (.putfield 55, 3) := by decide +kernel
theorem dX2_build_63 : decode cX2_build 63 = .ok (.iinc 2 1, 3) := by decide +kernel
theorem dX2_build_66 : decode cX2_build 66 = .ok (.goto (-59), 3) := by decide +kernel
theorem dX2_build_69 : decode cX2_build 69 = .ok (.return_, 1) := by decide +kernel
theorem dX2_clear_0 : decode cX2_clear 0 = .ok (.iload_n 1, 1) := by decide +kernel
theorem dX2_clear_1 : decode cX2_clear 1 = .ok (.iconst 1, 1) := by decide +kernel
theorem dX2_clear_2 : decode cX2_clear 2 = .ok (.iadd, 1) := by decide +kernel
theorem dX2_clear_3 : decode cX2_clear 3 = .ok (.invokestatic 28, 3) := by decide +kernel
theorem dX2_clear_6 : decode cX2_clear 6 = .ok (.aload_n 0, 1) := by decide +kernel
theorem dX2_clear_7 : decode cX2_clear 7 = .ok (.getfield 32, 3) := by decide +kernel
theorem dX2_clear_10 : decode cX2_clear 10 = .ok (.arraylength, 1) := by decide +kernel
theorem dX2_clear_11 : decode cX2_clear 11 = .ok (.aload_n 0, 1) := by decide +kernel
theorem dX2_clear_12 : decode cX2_clear 12 = .ok (.getfield 36, 3) := by decide +kernel
theorem dX2_clear_15 : decode cX2_clear 15 = .ok (.arraylength, 1) := by decide +kernel
theorem dX2_clear_16 : decode cX2_clear 16 = .ok (.invokestatic 15, 3) := by decide +kernel
theorem dX2_clear_19 : decode cX2_clear 19 = .ok (.invokestatic 15, 3) := by decide +kernel
theorem dX2_clear_22 : decode cX2_clear 22 = .ok (.istore_n 2, 1) := by decide +kernel
theorem dX2_clear_23 : decode cX2_clear 23 = .ok (.iload_n 1, 1) := by decide +kernel
theorem dX2_clear_24 : decode cX2_clear 24 = .ok (.invokestatic 28, 3) := by decide +kernel
theorem dX2_clear_27 : decode cX2_clear 27 = .ok (.iconst 0, 1) := by decide +kernel
theorem dX2_clear_28 : decode cX2_clear 28 = .ok (.invokestatic 21, 3) := by decide +kernel
theorem dX2_clear_31 : decode cX2_clear 31 = .ok (.istore_n 3, 1) := by decide +kernel
theorem dX2_clear_32 : decode cX2_clear 32 = .ok (.iload_n 3, 1) := by decide +kernel
theorem dX2_clear_33 : decode cX2_clear 33 = .ok (.iload_n 2, 1) := by decide +kernel
theorem dX2_clear_34 : decode cX2_clear 34 = .ok (.if_icmp .ge 23, 3) := by decide +kernel
theorem dX2_clear_37 : decode cX2_clear 37 = .ok (.aload_n 0, 1) := by decide +kernel
theorem dX2_clear_38 : decode cX2_clear 38 = .ok (.getfield 32, 3) := by decide +kernel
theorem dX2_clear_41 : decode cX2_clear 41 = .ok (.iload_n 3, 1) := by decide +kernel
theorem dX2_clear_42 : decode cX2_clear 42 = .ok (.lconst 0, 1) := by decide +kernel
theorem dX2_clear_43 : decode cX2_clear 43 = .ok (.lastore, 1) := by decide +kernel
theorem dX2_clear_44 : decode cX2_clear 44 = .ok (.aload_n 0, 1) := by decide +kernel
theorem dX2_clear_45 : decode cX2_clear 45 = .ok (.getfield 36, 3) := by decide +kernel
theorem dX2_clear_48 : decode cX2_clear 48 = .ok (.iload_n 3, 1) := by decide +kernel
theorem dX2_clear_49 : decode cX2_clear 49 = .ok (.iconst 0, 1) := by decide +kernel
theorem dX2_clear_50 : decode cX2_clear 50 = .ok (.iastore, 1) := by decide +kernel
theorem dX2_clear_51 : decode cX2_clear 51 = .ok (.iinc 3 1, 3) := by decide +kernel
theorem dX2_clear_54 : decode cX2_clear 54 = .ok (.goto (-22), 3) := by decide +kernel
theorem dX2_clear_57 : decode cX2_clear 57 = .ok (.return_, 1) := by decide +kernel
theorem dX2_buildSingle_0 : decode cX2_buildSingle 0 = .ok (.iconst 0, 1) := by decide +kernel
theorem dX2_buildSingle_1 : decode cX2_buildSingle 1 = .ok (.istore_n 1, 1) := by decide +kernel
theorem dX2_buildSingle_2 : decode cX2_buildSingle 2 = .ok (.iload_n 1, 1) := by decide +kernel
theorem dX2_buildSingle_3 : decode cX2_buildSingle 3 = .ok (.aload_n 0, 1) := by decide +kernel
theorem dX2_buildSingle_4 : decode cX2_buildSingle 4 = .ok (.getfield 42, 3) := by decide +kernel
theorem dX2_buildSingle_7 : decode cX2_buildSingle 7 = .ok (.if_icmp .ge 39, 3) := by decide +kernel
theorem dX2_buildSingle_10 : decode cX2_buildSingle 10 = .ok (.iload_n 1, 1) := by decide +kernel
theorem dX2_buildSingle_11 : decode cX2_buildSingle 11 = .ok (.bipush 10, 2) := by decide +kernel
theorem dX2_buildSingle_13 : decode cX2_buildSingle 13 = .ok (.if_icmp .ge 33, 3) := by decide +kernel
theorem dX2_buildSingle_16 : decode cX2_buildSingle 16 = .ok (.iload_n 1, 1) := by decide +kernel
theorem dX2_buildSingle_17 : decode cX2_buildSingle 17 = .ok (.aload_n 0, 1) := by decide +kernel
theorem dX2_buildSingle_18 : decode cX2_buildSingle 18 = .ok (.getfield 39, 3) := by decide +kernel
theorem dX2_buildSingle_21 : decode cX2_buildSingle 21 = .ok (.if_icmp .eq 19, 3) := by decide +kernel
theorem dX2_buildSingle_24 : decode cX2_buildSingle 24 = .ok (.aload_n 0, 1) := by decide +kernel
theorem dX2_buildSingle_25 : decode cX2_buildSingle 25 = .ok (.iconst 1, 1) := by decide +kernel
theorem dX2_buildSingle_26 : decode cX2_buildSingle 26 = .ok (.iload_n 1, 1) := by decide +kernel
theorem dX2_buildSingle_27 : decode cX2_buildSingle 27 = .ok (.aload_n 0, 1) := by decide +kernel
theorem dX2_buildSingle_28 : decode cX2_buildSingle 28 = .ok (.getfield 9, 3) := by decide +kernel
theorem dX2_buildSingle_31 : decode cX2_buildSingle 31 = .ok (.iload_n 1, 1) := by decide +kernel
theorem dX2_buildSingle_32 : decode cX2_buildSingle 32 = .ok (.iaload, 1) := by decide +kernel
theorem dX2_buildSingle_33 : decode cX2_buildSingle 33 = .ok (.lconst 1, 1) := by decide +kernel
theorem dX2_buildSingle_34 : decode cX2_buildSingle 34 = .ok (.sipush 1023, 3) := by decide +kernel
theorem dX2_buildSingle_37 : decode cX2_buildSingle 37 = .ok (.invokevirtual 98, 3) := by decide +kernel
theorem dX2_buildSingle_40 : decode cX2_buildSingle 40 = .ok (.iinc 1 1, 3) := by decide +kernel
theorem dX2_buildSingle_43 : decode cX2_buildSingle 43 = .ok (.goto (-41), 3) := by decide +kernel
theorem dX2_buildSingle_46 : decode cX2_buildSingle 46 = .ok (.return_, 1) := by decide +kernel
theorem dX2_lengthen_0 : decode cX2_lengthen 0 = .ok (.lconst 0, 1) := by decide +kernel
theorem dX2_lengthen_1 : decode cX2_lengthen 1 = .ok (.lstore_n 3, 1) := by decide +kernel
theorem dX2_lengthen_2 : decode cX2_lengthen 2 = .ok (.iconst 0, 1) := by decide +kernel
theorem dX2_lengthen_3 : decode cX2_lengthen 3 = .ok (.istore 5, 2) := by decide +kernel
theorem dX2_lengthen_5 : decode cX2_lengthen 5 = .ok (.iconst 0, 1) := by decide +kernel
theorem dX2_lengthen_6 : decode cX2_lengthen 6 = .ok (.istore 6, 2) := by decide +kernel
theorem dX2_lengthen_8 : decode cX2_lengthen 8 = .ok (.iconst 0, 1) := by decide +kernel
theorem dX2_lengthen_9 : decode cX2_lengthen 9 = .ok (.istore 7, 2) := by decide +kernel
theorem dX2_lengthen_11 : decode cX2_lengthen 11 = .ok (.iload 7, 2) := by decide +kernel
theorem dX2_lengthen_13 : decode cX2_lengthen 13 = .ok (.aload_n 0, 1) := by decide +kernel
theorem dX2_lengthen_14 : decode cX2_lengthen 14 = .ok (.getfield 42, 3) := by decide +kernel
theorem dX2_lengthen_17 : decode cX2_lengthen 17 = .ok (.if_icmp .ge 83, 3) := by decide +kernel
theorem dX2_lengthen_20 : decode cX2_lengthen 20 = .ok (.aload_n 0, 1) := by decide +kernel
theorem dX2_lengthen_21 : decode cX2_lengthen 21 = .ok (.iload_n 1, 1) := by decide +kernel
theorem dX2_lengthen_22 : decode cX2_lengthen 22 = .ok (.iconst 1, 1) := by decide +kernel
theorem dX2_lengthen_23 : decode cX2_lengthen 23 = .ok (.isub, 1) := by decide +kernel
theorem dX2_lengthen_24 : decode cX2_lengthen 24 = .ok (.iload 7, 2) := by decide +kernel
theorem dX2_lengthen_26 : decode cX2_lengthen 26 = .ok (.iload_n 2, 1) := by decide +kernel
theorem dX2_lengthen_27 : decode cX2_lengthen 27 = .ok (.invokevirtual 82, 3) := by decide +kernel
theorem dX2_lengthen_30 : decode cX2_lengthen 30 = .ok (.istore 8, 2) := by decide +kernel
theorem dX2_lengthen_32 : decode cX2_lengthen 32 = .ok (.iload 8, 2) := by decide +kernel
theorem dX2_lengthen_34 : decode cX2_lengthen 34 = .ok (.ifCond .lt 60, 3) := by decide +kernel
theorem dX2_lengthen_37 : decode cX2_lengthen 37 = .ok (.iload 8, 2) := by decide +kernel
theorem dX2_lengthen_39 : decode cX2_lengthen 39 = .ok (.aload_n 0, 1) := by decide +kernel
theorem dX2_lengthen_40 : decode cX2_lengthen 40 = .ok (.getfield 32, 3) := by decide +kernel
theorem dX2_lengthen_43 : decode cX2_lengthen 43 = .ok (.arraylength, 1) := by decide +kernel
theorem dX2_lengthen_44 : decode cX2_lengthen 44 = .ok (.if_icmp .ge 50, 3) := by decide +kernel
theorem dX2_lengthen_47 : decode cX2_lengthen 47 = .ok (.iload 8, 2) := by decide +kernel
theorem dX2_lengthen_49 : decode cX2_lengthen 49 = .ok (.aload_n 0, 1) := by decide +kernel
theorem dX2_lengthen_50 : decode cX2_lengthen 50 = .ok (.getfield 36, 3) := by decide +kernel
theorem dX2_lengthen_53 : decode cX2_lengthen 53 = .ok (.arraylength, 1) := by decide +kernel
theorem dX2_lengthen_54 : decode cX2_lengthen 54 = .ok (.if_icmp .ge 40, 3) := by decide +kernel
theorem dX2_lengthen_57 : decode cX2_lengthen 57 = .ok (.lload_n 3, 1) := by decide +kernel
theorem dX2_lengthen_58 : decode cX2_lengthen 58 = .ok (.aload_n 0, 1) := by decide +kernel
theorem dX2_lengthen_59 : decode cX2_lengthen 59 = .ok (.getfield 32, 3) := by decide +kernel
theorem dX2_lengthen_62 : decode cX2_lengthen 62 = .ok (.iload 8, 2) := by decide +kernel
theorem dX2_lengthen_64 : decode cX2_lengthen 64 = .ok (.laload, 1) := by decide +kernel
theorem dX2_lengthen_65 : decode cX2_lengthen 65 = .ok (.ladd, 1) := by decide +kernel
theorem dX2_lengthen_66 : decode cX2_lengthen 66 = .ok (.lstore_n 3, 1) := by decide +kernel
theorem dX2_lengthen_67 : decode cX2_lengthen 67 = .ok (.iload 6, 2) := by decide +kernel
theorem dX2_lengthen_69 : decode cX2_lengthen 69 = .ok (.iload 5, 2) := by decide +kernel
theorem dX2_lengthen_71 : decode cX2_lengthen 71 = .ok (.aload_n 0, 1) := by decide +kernel
theorem dX2_lengthen_72 : decode cX2_lengthen 72 = .ok (.getfield 36, 3) := by decide +kernel
theorem dX2_lengthen_75 : decode cX2_lengthen 75 = .ok (.iload 8, 2) := by decide +kernel
theorem dX2_lengthen_77 : decode cX2_lengthen 77 = .ok (.iaload, 1) := by decide +kernel
theorem dX2_lengthen_78 : decode cX2_lengthen 78 = .ok (.iand, 1) := by decide +kernel
theorem dX2_lengthen_79 : decode cX2_lengthen 79 = .ok (.ior, 1) := by decide +kernel
theorem dX2_lengthen_80 : decode cX2_lengthen 80 = .ok (.istore 6, 2) := by decide +kernel
theorem dX2_lengthen_82 : decode cX2_lengthen 82 = .ok (.iload 5, 2) := by decide +kernel
theorem dX2_lengthen_84 : decode cX2_lengthen 84 = .ok (.aload_n 0, 1) := by decide +kernel
theorem dX2_lengthen_85 : decode cX2_lengthen 85 = .ok (.getfield 36, 3) := by decide +kernel
theorem dX2_lengthen_88 : decode cX2_lengthen 88 = .ok (.iload 8, 2) := by decide +kernel
theorem dX2_lengthen_90 : decode cX2_lengthen 90 = .ok (.iaload, 1) := by decide +kernel
theorem dX2_lengthen_91 : decode cX2_lengthen 91 = .ok (.ior, 1) := by decide +kernel
theorem dX2_lengthen_92 : decode cX2_lengthen 92 = .ok (.istore 5, 2) := by decide +kernel
theorem dX2_lengthen_94 : decode cX2_lengthen 94 = .ok (.iinc 7 1, 3) := by decide +kernel
theorem dX2_lengthen_97 : decode cX2_lengthen 97 = .ok (.goto (-86), 3) := by decide +kernel
theorem dX2_lengthen_100 : decode cX2_lengthen 100 = .ok (.iconst 0, 1) := by decide +kernel
theorem dX2_lengthen_101 : decode cX2_lengthen 101 = .ok (.istore 7, 2) := by decide +kernel
theorem dX2_lengthen_103 : decode cX2_lengthen 103 = .ok (.iload 7, 2) := by decide +kernel
theorem dX2_lengthen_105 : decode cX2_lengthen 105 = .ok (.aload_n 0, 1) := by decide +kernel
theorem dX2_lengthen_106 : decode cX2_lengthen 106 = .ok (.getfield 42, 3) := by decide +kernel
theorem dX2_lengthen_109 : decode cX2_lengthen 109 = .ok (.if_icmp .ge 108, 3) := by decide +kernel
theorem dX2_lengthen_112 : decode cX2_lengthen 112 = .ok (.iload 7, 2) := by decide +kernel
theorem dX2_lengthen_114 : decode cX2_lengthen 114 = .ok (.bipush 10, 2) := by decide +kernel
theorem dX2_lengthen_116 : decode cX2_lengthen 116 = .ok (.if_icmp .ge 101, 3) := by decide +kernel
theorem dX2_lengthen_119 : decode cX2_lengthen 119 = .ok (.lload_n 3, 1) := by decide +kernel
theorem dX2_lengthen_120 : decode cX2_lengthen 120 = .ok (.lconst 0, 1) := by decide +kernel
theorem dX2_lengthen_121 : decode cX2_lengthen 121 = .ok (.lcmp, 1) := by decide +kernel
theorem dX2_lengthen_122 : decode cX2_lengthen 122 = .ok (.ifCond .le 95, 3) := by decide +kernel
theorem dX2_lengthen_125 : decode cX2_lengthen 125 = .ok (.aload_n 0, 1) := by decide +kernel
theorem dX2_lengthen_126 : decode cX2_lengthen 126 = .ok (.iload_n 1, 1) := by decide +kernel
theorem dX2_lengthen_127 : decode cX2_lengthen 127 = .ok (.iconst 1, 1) := by decide +kernel
theorem dX2_lengthen_128 : decode cX2_lengthen 128 = .ok (.isub, 1) := by decide +kernel
theorem dX2_lengthen_129 : decode cX2_lengthen 129 = .ok (.iload 7, 2) := by decide +kernel
theorem dX2_lengthen_131 : decode cX2_lengthen 131 = .ok (.iload_n 2, 1) := by decide +kernel
theorem dX2_lengthen_132 : decode cX2_lengthen 132 = .ok (.invokevirtual 82, 3) := by decide +kernel
theorem dX2_lengthen_135 : decode cX2_lengthen 135 = .ok (.istore 8, 2) := by decide +kernel
theorem dX2_lengthen_137 : decode cX2_lengthen 137 = .ok (.iload 7, 2) := by decide +kernel
theorem dX2_lengthen_139 : decode cX2_lengthen 139 = .ok (.aload_n 0, 1) := by decide +kernel
theorem dX2_lengthen_140 : decode cX2_lengthen 140 = .ok (.getfield 39, 3) := by decide +kernel
theorem dX2_lengthen_143 : decode cX2_lengthen 143 = .ok (.if_icmp .eq 68, 3) := by decide +kernel
theorem dX2_lengthen_146 : decode cX2_lengthen 146 = .ok (.iload 8, 2) := by decide +kernel
theorem dX2_lengthen_148 : decode cX2_lengthen 148 = .ok (.ifCond .lt 63, 3) := by decide +kernel
theorem dX2_lengthen_151 : decode cX2_lengthen 151 = .ok (.iload 8, 2) := by decide +kernel
theorem dX2_lengthen_153 : decode cX2_lengthen 153 = .ok (.aload_n 0, 1) := by decide +kernel
theorem dX2_lengthen_154 : decode cX2_lengthen 154 = .ok (.getfield 32, 3) := by decide +kernel
theorem dX2_lengthen_157 : decode cX2_lengthen 157 = .ok (.arraylength, 1) := by decide +kernel
theorem dX2_lengthen_158 : decode cX2_lengthen 158 = .ok (.if_icmp .ge 53, 3) := by decide +kernel
theorem dX2_lengthen_161 : decode cX2_lengthen 161 = .ok (.iload 8, 2) := by decide +kernel
theorem dX2_lengthen_163 : decode cX2_lengthen 163 = .ok (.aload_n 0, 1) := by decide +kernel
theorem dX2_lengthen_164 : decode cX2_lengthen 164 = .ok (.getfield 36, 3) := by decide +kernel
theorem dX2_lengthen_167 : decode cX2_lengthen 167 = .ok (.arraylength, 1) := by decide +kernel
theorem dX2_lengthen_168 : decode cX2_lengthen 168 = .ok (.if_icmp .ge 43, 3) := by decide +kernel
theorem dX2_lengthen_171 : decode cX2_lengthen 171 = .ok (.aload_n 0, 1) := by decide +kernel
theorem dX2_lengthen_172 : decode cX2_lengthen 172 = .ok (.iload_n 1, 1) := by decide +kernel
theorem dX2_lengthen_173 : decode cX2_lengthen 173 = .ok (.iload 7, 2) := by decide +kernel
theorem dX2_lengthen_175 : decode cX2_lengthen 175 = .ok (.iload_n 2, 1) := by decide +kernel
theorem dX2_lengthen_176 : decode cX2_lengthen 176 = .ok (.aload_n 0, 1) := by decide +kernel
theorem dX2_lengthen_177 : decode cX2_lengthen 177 = .ok (.getfield 9, 3) := by decide +kernel
theorem dX2_lengthen_180 : decode cX2_lengthen 180 = .ok (.iload 7, 2) := by decide +kernel
theorem dX2_lengthen_182 : decode cX2_lengthen 182 = .ok (.iaload, 1) := by decide +kernel
theorem dX2_lengthen_183 : decode cX2_lengthen 183 = .ok (.iadd, 1) := by decide +kernel
theorem dX2_lengthen_184 : decode cX2_lengthen 184 = .ok (.lload_n 3, 1) := by decide +kernel
theorem dX2_lengthen_185 : decode cX2_lengthen 185 = .ok (.aload_n 0, 1) := by decide +kernel
theorem dX2_lengthen_186 : decode cX2_lengthen 186 = .ok (.getfield 32, 3) := by decide +kernel
theorem dX2_lengthen_189 : decode cX2_lengthen 189 = .ok (.iload 8, 2) := by decide +kernel
theorem dX2_lengthen_191 : decode cX2_lengthen 191 = .ok (.laload, 1) := by decide +kernel
theorem dX2_lengthen_192 : decode cX2_lengthen 192 = .ok (.lsub, 1) := by decide +kernel
theorem dX2_lengthen_193 : decode cX2_lengthen 193 = .ok (.iload 6, 2) := by decide +kernel
theorem dX2_lengthen_195 : decode cX2_lengthen 195 = .ok (.iload 5, 2) := by decide +kernel
theorem dX2_lengthen_197 : decode cX2_lengthen 197 = .ok (.aload_n 0, 1) := by decide +kernel
theorem dX2_lengthen_198 : decode cX2_lengthen 198 = .ok (.getfield 36, 3) := by decide +kernel
theorem dX2_lengthen_201 : decode cX2_lengthen 201 = .ok (.iload 8, 2) := by decide +kernel
theorem dX2_lengthen_203 : decode cX2_lengthen 203 = .ok (.iaload, 1) := by decide +kernel
theorem dX2_lengthen_204 : decode cX2_lengthen 204 = .ok (.iconst (-1), 1) := by decide +kernel
theorem dX2_lengthen_205 : decode cX2_lengthen 205 = .ok (.ixor, 1) := by decide +kernel
theorem dX2_lengthen_206 : decode cX2_lengthen 206 = .ok (.iand, 1) := by decide +kernel
theorem dX2_lengthen_207 : decode cX2_lengthen 207 = .ok (.ior, 1) := by decide +kernel
theorem dX2_lengthen_208 : decode cX2_lengthen 208 = .ok (.invokevirtual 98, 3) := by decide +kernel
theorem dX2_lengthen_211 : decode cX2_lengthen 211 = .ok (.iinc 7 1, 3) := by decide +kernel
theorem dX2_lengthen_214 : decode cX2_lengthen 214 = .ok (.goto (-111), 3) := by decide +kernel
theorem dX2_lengthen_217 : decode cX2_lengthen 217 = .ok (.return_, 1) := by decide +kernel
theorem dX2_put_0 : decode cX2_put 0 = .ok (.aload_n 0, 1) := by decide +kernel
theorem dX2_put_1 : decode cX2_put 1 = .ok (.iload_n 1, 1) := by decide +kernel
theorem dX2_put_2 : decode cX2_put 2 = .ok (.iload_n 2, 1) := by decide +kernel
theorem dX2_put_3 : decode cX2_put 3 = .ok (.iload_n 3, 1) := by decide +kernel
theorem dX2_put_4 : decode cX2_put 4 = .ok (.invokevirtual 82, 3) := by decide +kernel
theorem dX2_put_7 : decode cX2_put 7 = .ok (.istore 7, 2) := by decide +kernel
theorem dX2_put_9 : decode cX2_put 9 = .ok (.lload 4, 2) := by decide +kernel
theorem dX2_put_11 : decode cX2_put 11 = .ok (.lconst 0, 1) := by decide +kernel
theorem dX2_put_12 : decode cX2_put 12 = .ok (.lcmp, 1) := by decide +kernel
theorem dX2_put_13 : decode cX2_put 13 = .ok (.ifCond .le 59, 3) := by decide +kernel
theorem dX2_put_16 : decode cX2_put 16 = .ok (.iload 7, 2) := by decide +kernel
theorem dX2_put_18 : decode cX2_put 18 = .ok (.ifCond .lt 54, 3) := by decide +kernel
theorem dX2_put_21 : decode cX2_put 21 = .ok (.iload 7, 2) := by decide +kernel
theorem dX2_put_23 : decode cX2_put 23 = .ok (.aload_n 0, 1) := by decide +kernel
theorem dX2_put_24 : decode cX2_put 24 = .ok (.getfield 32, 3) := by decide +kernel
theorem dX2_put_27 : decode cX2_put 27 = .ok (.arraylength, 1) := by decide +kernel
theorem dX2_put_28 : decode cX2_put 28 = .ok (.if_icmp .ge 44, 3) := by decide +kernel
theorem dX2_put_31 : decode cX2_put 31 = .ok (.iload 7, 2) := by decide +kernel
theorem dX2_put_33 : decode cX2_put 33 = .ok (.aload_n 0, 1) := by decide +kernel
theorem dX2_put_34 : decode cX2_put 34 = .ok (.getfield 36, 3) := by decide +kernel
theorem dX2_put_37 : decode cX2_put 37 = .ok (.arraylength, 1) := by decide +kernel
theorem dX2_put_38 : decode cX2_put 38 = .ok (.if_icmp .ge 34, 3) := by decide +kernel
theorem dX2_put_41 : decode cX2_put 41 = .ok (.aload_n 0, 1) := by decide +kernel
theorem dX2_put_42 : decode cX2_put 42 = .ok (.getfield 32, 3) := by decide +kernel
theorem dX2_put_45 : decode cX2_put 45 = .ok (.iload 7, 2) := by decide +kernel
theorem dX2_put_47 : decode cX2_put 47 = .ok (.lload 4, 2) := by decide +kernel
theorem dX2_put_49 : decode cX2_put 49 = .ok (.lastore, 1) := by decide +kernel
theorem dX2_put_50 : decode cX2_put 50 = .ok (.aload_n 0, 1) := by decide +kernel
theorem dX2_put_51 : decode cX2_put 51 = .ok (.getfield 36, 3) := by decide +kernel
theorem dX2_put_54 : decode cX2_put 54 = .ok (.iload 7, 2) := by decide +kernel
theorem dX2_put_56 : decode cX2_put 56 = .ok (.iload 6, 2) := by decide +kernel
theorem dX2_put_58 : decode cX2_put 58 = .ok (.iconst 1, 1) := by decide +kernel
theorem dX2_put_59 : decode cX2_put 59 = .ok (.iload_n 2, 1) := by decide +kernel
theorem dX2_put_60 : decode cX2_put 60 = .ok (.ishl, 1) := by decide +kernel
theorem dX2_put_61 : decode cX2_put 61 = .ok (.iconst (-1), 1) := by decide +kernel
theorem dX2_put_62 : decode cX2_put 62 = .ok (.ixor, 1) := by decide +kernel
theorem dX2_put_63 : decode cX2_put 63 = .ok (.iand, 1) := by decide +kernel
theorem dX2_put_64 : decode cX2_put 64 = .ok (.iconst 1, 1) := by decide +kernel
theorem dX2_put_65 : decode cX2_put 65 = .ok (.iload_n 2, 1) := by decide +kernel
theorem dX2_put_66 : decode cX2_put 66 = .ok (.bipush 10, 2) := by decide +kernel
theorem dX2_put_68 : decode cX2_put 68 = .ok (.iadd, 1) := by decide +kernel
theorem dX2_put_69 : decode cX2_put 69 = .ok (.ishl, 1) := by decide +kernel
theorem dX2_put_70 : decode cX2_put 70 = .ok (.ior, 1) := by decide +kernel
theorem dX2_put_71 : decode cX2_put 71 = .ok (.iastore, 1) := by decide +kernel
theorem dX2_put_72 : decode cX2_put 72 = .ok (.return_, 1) := by decide +kernel
theorem dX2_start_0 : decode cX2_start 0 = .ok (.bipush 10, 2) := by decide +kernel
theorem dX2_start_2 : decode cX2_start 2 = .ok (.iload_n 0, 1) := by decide +kernel
theorem dX2_start_3 : decode cX2_start 3 = .ok (.iconst 1, 1) := by decide +kernel
theorem dX2_start_4 : decode cX2_start 4 = .ok (.isub, 1) := by decide +kernel
theorem dX2_start_5 : decode cX2_start 5 = .ok (.imul, 1) := by decide +kernel
theorem dX2_start_6 : decode cX2_start 6 = .ok (.bipush 15, 2) := by decide +kernel
theorem dX2_start_8 : decode cX2_start 8 = .ok (.iload_n 0, 1) := by decide +kernel
theorem dX2_start_9 : decode cX2_start 9 = .ok (.imul, 1) := by decide +kernel
theorem dX2_start_10 : decode cX2_start 10 = .ok (.iconst 1, 1) := by decide +kernel
theorem dX2_start_11 : decode cX2_start 11 = .ok (.iadd, 1) := by decide +kernel
theorem dX2_start_12 : decode cX2_start 12 = .ok (.imul, 1) := by decide +kernel
theorem dX2_start_13 : decode cX2_start 13 = .ok (.ireturn, 1) := by decide +kernel
theorem dX2_cell_0 : decode cX2_cell 0 = .ok (.bipush 30, 2) := by decide +kernel
theorem dX2_cell_2 : decode cX2_cell 2 = .ok (.iload_n 1, 1) := by decide +kernel
theorem dX2_cell_3 : decode cX2_cell 3 = .ok (.imul, 1) := by decide +kernel
theorem dX2_cell_4 : decode cX2_cell 4 = .ok (.istore 4, 2) := by decide +kernel
theorem dX2_cell_6 : decode cX2_cell 6 = .ok (.iload_n 1, 1) := by decide +kernel
theorem dX2_cell_7 : decode cX2_cell 7 = .ok (.iconst 1, 1) := by decide +kernel
theorem dX2_cell_8 : decode cX2_cell 8 = .ok (.if_icmp .lt 31, 3) := by decide +kernel
theorem dX2_cell_11 : decode cX2_cell 11 = .ok (.iload_n 1, 1) := by decide +kernel
theorem dX2_cell_12 : decode cX2_cell 12 = .ok (.aload_n 0, 1) := by decide +kernel
theorem dX2_cell_13 : decode cX2_cell 13 = .ok (.getfield 24, 3) := by decide +kernel
theorem dX2_cell_16 : decode cX2_cell 16 = .ok (.if_icmp .gt 23, 3) := by decide +kernel
theorem dX2_cell_19 : decode cX2_cell 19 = .ok (.iload_n 2, 1) := by decide +kernel
theorem dX2_cell_20 : decode cX2_cell 20 = .ok (.ifCond .lt 19, 3) := by decide +kernel
theorem dX2_cell_23 : decode cX2_cell 23 = .ok (.iload_n 2, 1) := by decide +kernel
theorem dX2_cell_24 : decode cX2_cell 24 = .ok (.bipush 10, 2) := by decide +kernel
theorem dX2_cell_26 : decode cX2_cell 26 = .ok (.if_icmp .ge 13, 3) := by decide +kernel
theorem dX2_cell_29 : decode cX2_cell 29 = .ok (.iload_n 3, 1) := by decide +kernel
theorem dX2_cell_30 : decode cX2_cell 30 = .ok (.ifCond .lt 9, 3) := by decide +kernel
theorem dX2_cell_33 : decode cX2_cell 33 = .ok (.iload_n 3, 1) := by decide +kernel
theorem dX2_cell_34 : decode cX2_cell 34 = .ok (.iload 4, 2) := by decide +kernel
theorem dX2_cell_36 : decode cX2_cell 36 = .ok (.if_icmp .le 5, 3) := by decide +kernel
theorem dX2_cell_39 : decode cX2_cell 39 = .ok (.iconst (-1), 1) := by decide +kernel
theorem dX2_cell_40 : decode cX2_cell 40 = .ok (.ireturn, 1) := by decide +kernel
theorem dX2_cell_41 : decode cX2_cell 41 = .ok (.iload_n 1, 1) := by decide +kernel
theorem dX2_cell_42 : decode cX2_cell 42 = .ok (.invokestatic 28, 3) := by decide +kernel
theorem dX2_cell_45 : decode cX2_cell 45 = .ok (.iload_n 2, 1) := by decide +kernel
theorem dX2_cell_46 : decode cX2_cell 46 = .ok (.iload 4, 2) := by decide +kernel
theorem dX2_cell_48 : decode cX2_cell 48 = .ok (.iconst 1, 1) := by decide +kernel
theorem dX2_cell_49 : decode cX2_cell 49 = .ok (.iadd, 1) := by decide +kernel
theorem dX2_cell_50 : decode cX2_cell 50 = .ok (.imul, 1) := by decide +kernel
theorem dX2_cell_51 : decode cX2_cell 51 = .ok (.iadd, 1) := by decide +kernel
theorem dX2_cell_52 : decode cX2_cell 52 = .ok (.iload_n 3, 1) := by decide +kernel
theorem dX2_cell_53 : decode cX2_cell 53 = .ok (.iadd, 1) := by decide +kernel
theorem dX2_cell_54 : decode cX2_cell 54 = .ok (.ireturn, 1) := by decide +kernel
theorem dX3_init_0 : decode cX3_init 0 = .ok (.aload_n 0, 1) := by decide +kernel
theorem dX3_init_1 : decode cX3_init 1 = .ok (.invokespecial 3, 3) := by decide +kernel
theorem dX3_init_4 : decode cX3_init 4 = .ok (.aload_n 0, 1) := by decide +kernel
theorem dX3_init_5 : decode cX3_init 5 = .ok (.bipush 32, 2) := by decide +kernel
theorem dX3_init_7 : decode cX3_init 7 = .ok (.newarray .int, 2) := by decide +kernel
theorem dX3_init_9 : decode cX3_init 9 = .ok (.putfield 11, 3) := by decide +kernel
theorem dX3_init_12 : decode cX3_init 12 = .ok (.return_, 1) := by decide +kernel
theorem dX3_given_0 : decode cX3_given 0 = .ok (.aload_n 1, 1) := by decide +kernel
theorem dX3_given_1 : decode cX3_given 1 = .ok (.iload_n 3, 1) := by decide +kernel
theorem dX3_given_2 : decode cX3_given 2 = .ok (.invokevirtual 15, 3) := by decide +kernel
theorem dX3_given_5 : decode cX3_given 5 = .ok (.ifCond .eq 12, 3) := by decide +kernel
theorem dX3_given_8 : decode cX3_given 8 = .ok (.aload_n 1, 1) := by decide +kernel
theorem dX3_given_9 : decode cX3_given 9 = .ok (.iload 4, 2) := by decide +kernel
theorem dX3_given_11 : decode cX3_given 11 = .ok (.invokevirtual 21, 3) := by decide +kernel
theorem dX3_given_14 : decode cX3_given 14 = .ok (.ifCond .ne 5, 3) := by decide +kernel
theorem dX3_given_17 : decode cX3_given 17 = .ok (.iconst 0, 1) := by decide +kernel
theorem dX3_given_18 : decode cX3_given 18 = .ok (.ireturn, 1) := by decide +kernel
theorem dX3_given_19 : decode cX3_given 19 = .ok (.aload_n 2, 1) := by decide +kernel
theorem dX3_given_20 : decode cX3_given 20 = .ok (.ifnonnull 10, 3) := by decide +kernel
theorem dX3_given_23 : decode cX3_given 23 = .ok (.aload_n 1, 1) := by decide +kernel
theorem dX3_given_24 : decode cX3_given 24 = .ok (.getfield 24, 3) := by decide +kernel
theorem dX3_given_27 : decode cX3_given 27 = .ok (.iload_n 3, 1) := by decide +kernel
theorem dX3_given_28 : decode cX3_given 28 = .ok (.iaload, 1) := by decide +kernel
theorem dX3_given_29 : decode cX3_given 29 = .ok (.ireturn, 1) := by decide +kernel
theorem dX3_given_30 : decode cX3_given 30 = .ok (.aload_n 2, 1) := by decide +kernel
theorem dX3_given_31 : decode cX3_given 31 = .ok (.invokevirtual 27, 3) := by decide +kernel
theorem dX3_given_34 : decode cX3_given 34 = .ok (.ifCond .eq 25, 3) := by decide +kernel
theorem dX3_given_37 : decode cX3_given 37 = .ok (.aload_n 0, 1) := by decide +kernel
theorem dX3_given_38 : decode cX3_given 38 = .ok (.aload_n 2, 1) := by decide +kernel
theorem dX3_given_39 : decode cX3_given 39 = .ok (.aload_n 2, 1) := by decide +kernel
theorem dX3_given_40 : decode cX3_given 40 = .ok (.getfield 33, 3) := by decide +kernel
theorem dX3_given_43 : decode cX3_given 43 = .ok (.aload_n 2, 1) := by decide +kernel
theorem dX3_given_44 : decode cX3_given 44 = .ok (.getfield 37, 3) := by decide +kernel
theorem dX3_given_47 : decode cX3_given 47 = .ok (.aload_n 1, 1) := by decide +kernel
theorem dX3_given_48 : decode cX3_given 48 = .ok (.iload_n 3, 1) := by decide +kernel
theorem dX3_given_49 : decode cX3_given 49 = .ok (.iload 4, 2) := by decide +kernel
theorem dX3_given_51 : decode cX3_given 51 = .ok (.invokevirtual 40, 3) := by decide +kernel
theorem dX3_given_54 : decode cX3_given 54 = .ok (.ifCond .eq 5, 3) := by decide +kernel
theorem dX3_given_57 : decode cX3_given 57 = .ok (.iconst 0, 1) := by decide +kernel
theorem dX3_given_58 : decode cX3_given 58 = .ok (.ireturn, 1) := by decide +kernel
theorem dX3_given_59 : decode cX3_given 59 = .ok (.aload_n 2, 1) := by decide +kernel
theorem dX3_given_60 : decode cX3_given 60 = .ok (.invokevirtual 44, 3) := by decide +kernel
theorem dX3_given_63 : decode cX3_given 63 = .ok (.ifCond .ne 10, 3) := by decide +kernel
theorem dX3_given_66 : decode cX3_given 66 = .ok (.aload_n 1, 1) := by decide +kernel
theorem dX3_given_67 : decode cX3_given 67 = .ok (.getfield 24, 3) := by decide +kernel
theorem dX3_given_70 : decode cX3_given 70 = .ok (.iload_n 3, 1) := by decide +kernel
theorem dX3_given_71 : decode cX3_given 71 = .ok (.iaload, 1) := by decide +kernel
theorem dX3_given_72 : decode cX3_given 72 = .ok (.ireturn, 1) := by decide +kernel
theorem dX3_given_73 : decode cX3_given 73 = .ok (.aload_n 0, 1) := by decide +kernel
theorem dX3_given_74 : decode cX3_given 74 = .ok (.aload_n 2, 1) := by decide +kernel
theorem dX3_given_75 : decode cX3_given 75 = .ok (.aload_n 2, 1) := by decide +kernel
theorem dX3_given_76 : decode cX3_given 76 = .ok (.getfield 47, 3) := by decide +kernel
theorem dX3_given_79 : decode cX3_given 79 = .ok (.aload_n 2, 1) := by decide +kernel
theorem dX3_given_80 : decode cX3_given 80 = .ok (.getfield 50, 3) := by decide +kernel
theorem dX3_given_83 : decode cX3_given 83 = .ok (.aload_n 1, 1) := by decide +kernel
theorem dX3_given_84 : decode cX3_given 84 = .ok (.iload_n 3, 1) := by decide +kernel
theorem dX3_given_85 : decode cX3_given 85 = .ok (.iload 4, 2) := by decide +kernel
theorem dX3_given_87 : decode cX3_given 87 = .ok (.invokevirtual 40, 3) := by decide +kernel
theorem dX3_given_90 : decode cX3_given 90 = .ok (.istore 5, 2) := by decide +kernel
theorem dX3_given_92 : decode cX3_given 92 = .ok (.iconst 0, 1) := by decide +kernel
theorem dX3_given_93 : decode cX3_given 93 = .ok (.iload 5, 2) := by decide +kernel
theorem dX3_given_95 : decode cX3_given 95 = .ok (.bipush 99, 2) := by decide +kernel
theorem dX3_given_97 : decode cX3_given 97 = .ok (.invokestatic 53, 3) := by decide +kernel
theorem dX3_given_100 : decode cX3_given 100 = .ok (.invokestatic 59, 3) := by decide +kernel
theorem dX3_given_103 : decode cX3_given 103 = .ok (.ireturn, 1) := by decide +kernel
theorem dX3_worth_0 : decode cX3_worth 0 = .ok (.aload_n 0, 1) := by decide +kernel
theorem dX3_worth_1 : decode cX3_worth 1 = .ok (.iconst 0, 1) := by decide +kernel
theorem dX3_worth_2 : decode cX3_worth 2 = .ok (.putfield 62, 3) := by decide +kernel
theorem dX3_worth_5 : decode cX3_worth 5 = .ok (.iload_n 2, 1) := by decide +kernel
theorem dX3_worth_6 : decode cX3_worth 6 = .ok (.iconst 0, 1) := by decide +kernel
theorem dX3_worth_7 : decode cX3_worth 7 = .ok (.invokestatic 59, 3) := by decide +kernel
theorem dX3_worth_10 : decode cX3_worth 10 = .ok (.istore 7, 2) := by decide +kernel
theorem dX3_worth_12 : decode cX3_worth 12 = .ok (.iload 7, 2) := by decide +kernel
theorem dX3_worth_14 : decode cX3_worth 14 = .ok (.iload_n 3, 1) := by decide +kernel
theorem dX3_worth_15 : decode cX3_worth 15 = .ok (.if_icmp .ge 81, 3) := by decide +kernel
theorem dX3_worth_18 : decode cX3_worth 18 = .ok (.iload 7, 2) := by decide +kernel
theorem dX3_worth_20 : decode cX3_worth 20 = .ok (.sipush 300, 3) := by decide +kernel
theorem dX3_worth_23 : decode cX3_worth 23 = .ok (.if_icmp .ge 73, 3) := by decide +kernel
theorem dX3_worth_26 : decode cX3_worth 26 = .ok (.aload_n 1, 1) := by decide +kernel
theorem dX3_worth_27 : decode cX3_worth 27 = .ok (.getfield 65, 3) := by decide +kernel
theorem dX3_worth_30 : decode cX3_worth 30 = .ok (.iload 7, 2) := by decide +kernel
theorem dX3_worth_32 : decode cX3_worth 32 = .ok (.iaload, 1) := by decide +kernel
theorem dX3_worth_33 : decode cX3_worth 33 = .ok (.istore 8, 2) := by decide +kernel
theorem dX3_worth_35 : decode cX3_worth 35 = .ok (.iload 8, 2) := by decide +kernel
theorem dX3_worth_37 : decode cX3_worth 37 = .ok (.ifCond .lt 13, 3) := by decide +kernel
theorem dX3_worth_40 : decode cX3_worth 40 = .ok (.aload_n 0, 1) := by decide +kernel
theorem dX3_worth_41 : decode cX3_worth 41 = .ok (.iload 8, 2) := by decide +kernel
theorem dX3_worth_43 : decode cX3_worth 43 = .ok (.i2l, 1) := by decide +kernel
theorem dX3_worth_44 : decode cX3_worth 44 = .ok (.invokevirtual 68, 3) := by decide +kernel
theorem dX3_worth_47 : decode cX3_worth 47 = .ok (.goto 43, 3) := by decide +kernel
theorem dX3_worth_50 : decode cX3_worth 50 = .ok (.iload 8, 2) := by decide +kernel
theorem dX3_worth_52 : decode cX3_worth 52 = .ok (.ineg, 1) := by decide +kernel
theorem dX3_worth_53 : decode cX3_worth 53 = .ok (.bipush 13, 2) := by decide +kernel
theorem dX3_worth_55 : decode cX3_worth 55 = .ok (.bipush 19, 2) := by decide +kernel
theorem dX3_worth_57 : decode cX3_worth 57 = .ok (.invokestatic 72, 3) := by decide +kernel
theorem dX3_worth_60 : decode cX3_worth 60 = .ok (.ifCond .eq 23, 3) := by decide +kernel
theorem dX3_worth_63 : decode cX3_worth 63 = .ok (.aload_n 0, 1) := by decide +kernel
theorem dX3_worth_64 : decode cX3_worth 64 = .ok (.iload 8, 2) := by decide +kernel
theorem dX3_worth_66 : decode cX3_worth 66 = .ok (.ineg, 1) := by decide +kernel
theorem dX3_worth_67 : decode cX3_worth 67 = .ok (.aload 4, 2) := by decide +kernel
theorem dX3_worth_69 : decode cX3_worth 69 = .ok (.iload 5, 2) := by decide +kernel
theorem dX3_worth_71 : decode cX3_worth 71 = .ok (.iload 6, 2) := by decide +kernel
theorem dX3_worth_73 : decode cX3_worth 73 = .ok (.invokestatic 76, 3) := by decide +kernel
theorem dX3_worth_76 : decode cX3_worth 76 = .ok (.i2l, 1) := by decide +kernel
theorem dX3_worth_77 : decode cX3_worth 77 = .ok (.invokevirtual 68, 3) := by decide +kernel
theorem dX3_worth_80 : decode cX3_worth 80 = .ok (.goto 10, 3) := by decide +kernel
theorem dX3_worth_83 : decode cX3_worth 83 = .ok (.aload_n 0, 1) := by decide +kernel
theorem dX3_worth_84 : decode cX3_worth 84 = .ok (.iload 8, 2) := by decide +kernel
theorem dX3_worth_86 : decode cX3_worth 86 = .ok (.ineg, 1) := by decide +kernel
theorem dX3_worth_87 : decode cX3_worth 87 = .ok (.invokevirtual 80, 3) := by decide +kernel
theorem dX3_worth_90 : decode cX3_worth 90 = .ok (.iinc 7 1, 3) := by decide +kernel
theorem dX3_worth_93 : decode cX3_worth 93 = .ok (.goto (-81), 3) := by decide +kernel
theorem dX3_worth_96 : decode cX3_worth 96 = .ok (.aload_n 0, 1) := by decide +kernel
theorem dX3_worth_97 : decode cX3_worth 97 = .ok (.invokevirtual 84, 3) := by decide +kernel
theorem dX3_worth_100 : decode cX3_worth 100 = .ok (.ireturn, 1) := by decide +kernel
theorem dX3_push_0 : decode cX3_push 0 = .ok (.aload_n 0, 1) := by decide +kernel
theorem dX3_push_1 : decode cX3_push 1 = .ok (.getfield 62, 3) := by decide +kernel
theorem dX3_push_4 : decode cX3_push 4 = .ok (.ifCond .lt 45, 3) := by decide +kernel
theorem dX3_push_7 : decode cX3_push 7 = .ok (.aload_n 0, 1) := by decide +kernel
theorem dX3_push_8 : decode cX3_push 8 = .ok (.getfield 62, 3) := by decide +kernel
theorem dX3_push_11 : decode cX3_push 11 = .ok (.bipush 32, 2) := by decide +kernel
theorem dX3_push_13 : decode cX3_push 13 = .ok (.if_icmp .ge 36, 3) := by decide +kernel
theorem dX3_push_16 : decode cX3_push 16 = .ok (.aload_n 0, 1) := by decide +kernel
theorem dX3_push_17 : decode cX3_push 17 = .ok (.getfield 11, 3) := by decide +kernel
theorem dX3_push_20 : decode cX3_push 20 = .ok (.aload_n 0, 1) := by decide +kernel
theorem dX3_push_21 : decode cX3_push 21 = .ok (.getfield 62, 3) := by decide +kernel
theorem dX3_push_24 : decode cX3_push 24 = .ok (.ldc2_w 88, 3) := by decide +kernel
theorem dX3_push_27 : decode cX3_push 27 = .ok (.lload_n 1, 1) := by decide +kernel
theorem dX3_push_28 : decode cX3_push 28 = .ok (.ldc2_w 90, 3) := by decide +kernel
theorem dX3_push_31 : decode cX3_push 31 = .ok (.invokestatic 92, 3) := by decide +kernel
theorem dX3_push_34 : decode cX3_push 34 = .ok (.invokestatic 95, 3) := by decide +kernel
theorem dX3_push_37 : decode cX3_push 37 = .ok (.l2i, 1) := by decide +kernel
theorem dX3_push_38 : decode cX3_push 38 = .ok (.iastore, 1) := by decide +kernel
theorem dX3_push_39 : decode cX3_push 39 = .ok (.aload_n 0, 1) := by decide +kernel
theorem dX3_push_40 : decode cX3_push 40 = .ok (.dup, 1) := by decide +kernel
theorem dX3_push_41 : decode cX3_push 41 = .ok (.getfield 62, 3) := by decide +kernel
theorem dX3_push_44 : decode cX3_push 44 = .ok (.iconst 1, 1) := by decide +kernel
theorem dX3_push_45 : decode cX3_push 45 = .ok (.iadd, 1) := by decide +kernel
theorem dX3_push_46 : decode cX3_push 46 = .ok (.putfield 62, 3) := by decide +kernel
theorem dX3_push_49 : decode cX3_push 49 = .ok (.return_, 1) := by decide +kernel
theorem dX3_pop_0 : decode cX3_pop 0 = .ok (.aload_n 0, 1) := by decide +kernel
theorem dX3_pop_1 : decode cX3_pop 1 = .ok (.getfield 62, 3) := by decide +kernel
theorem dX3_pop_4 : decode cX3_pop 4 = .ok (.iconst 1, 1) := by decide +kernel
theorem dX3_pop_5 : decode cX3_pop 5 = .ok (.if_icmp .lt 12, 3) := by decide +kernel
theorem dX3_pop_8 : decode cX3_pop 8 = .ok (.aload_n 0, 1) := by decide +kernel
theorem dX3_pop_9 : decode cX3_pop 9 = .ok (.getfield 62, 3) := by decide +kernel
theorem dX3_pop_12 : decode cX3_pop 12 = .ok (.bipush 32, 2) := by decide +kernel
theorem dX3_pop_14 : decode cX3_pop 14 = .ok (.if_icmp .le 5, 3) := by decide +kernel
theorem dX3_pop_17 : decode cX3_pop 17 = .ok (.iconst 0, 1) := by decide +kernel
theorem dX3_pop_18 : decode cX3_pop 18 = .ok (.ireturn, 1) := by decide +kernel
theorem dX3_pop_19 : decode cX3_pop 19 = .ok (.aload_n 0, 1) := by decide +kernel
theorem dX3_pop_20 : decode cX3_pop 20 = .ok (.dup, 1) := by decide +kernel
theorem dX3_pop_21 : decode cX3_pop 21 = .ok (.getfield 62, 3) := by decide +kernel
theorem dX3_pop_24 : decode cX3_pop 24 = .ok (.iconst 1, 1) := by decide +kernel
theorem dX3_pop_25 : decode cX3_pop 25 = .ok (.isub, 1) := by decide +kernel
theorem dX3_pop_26 : decode cX3_pop 26 = .ok (.putfield 62, 3) := by decide +kernel
theorem dX3_pop_29 : decode cX3_pop 29 = .ok (.aload_n 0, 1) := by decide +kernel
theorem dX3_pop_30 : decode cX3_pop 30 = .ok (.getfield 11, 3) := by decide +kernel
theorem dX3_pop_33 : decode cX3_pop 33 = .ok (.aload_n 0, 1) := by decide +kernel
theorem dX3_pop_34 : decode cX3_pop 34 = .ok (.getfield 62, 3) := by decide +kernel
theorem dX3_pop_37 : decode cX3_pop 37 = .ok (.iaload, 1) := by decide +kernel
theorem dX3_pop_38 : decode cX3_pop 38 = .ok (.ireturn, 1) := by decide +kernel
theorem dX3_named_0 : decode cX3_named 0 = .ok (.aload_n 1, 1) := by decide +kernel
theorem dX3_named_1 : decode cX3_named 1 = .ok (.iload_n 2, 1) := by decide +kernel
theorem dX3_named_2 : decode cX3_named 2 = .ok (.invokevirtual 15, 3) := by decide +kernel
theorem dX3_named_5 : decode cX3_named 5 = .ok (.ifCond .eq 11, 3) := by decide +kernel
theorem dX3_named_8 : decode cX3_named 8 = .ok (.aload_n 1, 1) := by decide +kernel
theorem dX3_named_9 : decode cX3_named 9 = .ok (.iload_n 3, 1) := by decide +kernel
theorem dX3_named_10 : decode cX3_named 10 = .ok (.invokevirtual 21, 3) := by decide +kernel
theorem dX3_named_13 : decode cX3_named 13 = .ok (.ifCond .ne 5, 3) := by decide +kernel
theorem dX3_named_16 : decode cX3_named 16 = .ok (.iconst 0, 1) := by decide +kernel
theorem dX3_named_17 : decode cX3_named 17 = .ok (.ireturn, 1) := by decide +kernel
theorem dX3_named_18 : decode cX3_named 18 = .ok (.iload_n 0, 1) := by decide +kernel
theorem dX3_named_19 : decode cX3_named 19 = .ok (.tableswitch 92 13 19 #[41, 43, 50, 58, 71, 78, 85], 41) := by decide +kernel
theorem dX3_named_60 : decode cX3_named 60 = .ok (.iload_n 2, 1) := by decide +kernel
theorem dX3_named_61 : decode cX3_named 61 = .ok (.ireturn, 1) := by decide +kernel
theorem dX3_named_62 : decode cX3_named 62 = .ok (.aload_n 1, 1) := by decide +kernel
theorem dX3_named_63 : decode cX3_named 63 = .ok (.getfield 24, 3) := by decide +kernel
theorem dX3_named_66 : decode cX3_named 66 = .ok (.iload_n 2, 1) := by decide +kernel
theorem dX3_named_67 : decode cX3_named 67 = .ok (.iaload, 1) := by decide +kernel
theorem dX3_named_68 : decode cX3_named 68 = .ok (.ireturn, 1) := by decide +kernel
theorem dX3_named_69 : decode cX3_named 69 = .ok (.aload_n 1, 1) := by decide +kernel
theorem dX3_named_70 : decode cX3_named 70 = .ok (.getfield 97, 3) := by decide +kernel
theorem dX3_named_73 : decode cX3_named 73 = .ok (.bipush 24, 2) := by decide +kernel
theorem dX3_named_75 : decode cX3_named 75 = .ok (.irem, 1) := by decide +kernel
theorem dX3_named_76 : decode cX3_named 76 = .ok (.ireturn, 1) := by decide +kernel
theorem dX3_named_77 : decode cX3_named 77 = .ok (.aload_n 1, 1) := by decide +kernel
theorem dX3_named_78 : decode cX3_named 78 = .ok (.invokevirtual 100, 3) := by decide +kernel
theorem dX3_named_81 : decode cX3_named 81 = .ok (.ifCond .eq 7, 3) := by decide +kernel
theorem dX3_named_84 : decode cX3_named 84 = .ok (.iconst 1, 1) := by decide +kernel
theorem dX3_named_85 : decode cX3_named 85 = .ok (.goto 4, 3) := by decide +kernel
theorem dX3_named_88 : decode cX3_named 88 = .ok (.iconst 0, 1) := by decide +kernel
theorem dX3_named_89 : decode cX3_named 89 = .ok (.ireturn, 1) := by decide +kernel
theorem dX3_named_90 : decode cX3_named 90 = .ok (.aload_n 1, 1) := by decide +kernel
theorem dX3_named_91 : decode cX3_named 91 = .ok (.getfield 103, 3) := by decide +kernel
theorem dX3_named_94 : decode cX3_named 94 = .ok (.iload_n 3, 1) := by decide +kernel
theorem dX3_named_95 : decode cX3_named 95 = .ok (.iaload, 1) := by decide +kernel
theorem dX3_named_96 : decode cX3_named 96 = .ok (.ireturn, 1) := by decide +kernel
theorem dX3_named_97 : decode cX3_named 97 = .ok (.aload_n 1, 1) := by decide +kernel
theorem dX3_named_98 : decode cX3_named 98 = .ok (.getfield 106, 3) := by decide +kernel
theorem dX3_named_101 : decode cX3_named 101 = .ok (.iload_n 3, 1) := by decide +kernel
theorem dX3_named_102 : decode cX3_named 102 = .ok (.iaload, 1) := by decide +kernel
theorem dX3_named_103 : decode cX3_named 103 = .ok (.ireturn, 1) := by decide +kernel
theorem dX3_named_104 : decode cX3_named 104 = .ok (.aload_n 1, 1) := by decide +kernel
theorem dX3_named_105 : decode cX3_named 105 = .ok (.getfield 109, 3) := by decide +kernel
theorem dX3_named_108 : decode cX3_named 108 = .ok (.iload_n 3, 1) := by decide +kernel
theorem dX3_named_109 : decode cX3_named 109 = .ok (.iaload, 1) := by decide +kernel
theorem dX3_named_110 : decode cX3_named 110 = .ok (.ireturn, 1) := by decide +kernel
theorem dX3_named_111 : decode cX3_named 111 = .ok (.iconst 0, 1) := by decide +kernel
theorem dX3_named_112 : decode cX3_named 112 = .ok (.ireturn, 1) := by decide +kernel
theorem dX3_work_0 : decode cX3_work 0 = .ok (.aload_n 0, 1) := by decide +kernel
theorem dX3_work_1 : decode cX3_work 1 = .ok (.invokevirtual 84, 3) := by decide +kernel
theorem dX3_work_4 : decode cX3_work 4 = .ok (.i2l, 1) := by decide +kernel
theorem dX3_work_5 : decode cX3_work 5 = .ok (.lstore_n 2, 1) := by decide +kernel
theorem dX3_work_6 : decode cX3_work 6 = .ok (.iload_n 1, 1) := by decide +kernel
theorem dX3_work_7 : decode cX3_work 7 = .ok (.bipush 33, 2) := by decide +kernel
theorem dX3_work_9 : decode cX3_work 9 = .ok (.if_icmp .ne 10, 3) := by decide +kernel
theorem dX3_work_12 : decode cX3_work 12 = .ok (.aload_n 0, 1) := by decide +kernel
theorem dX3_work_13 : decode cX3_work 13 = .ok (.lload_n 2, 1) := by decide +kernel
theorem dX3_work_14 : decode cX3_work 14 = .ok (.lneg, 1) := by decide +kernel
theorem dX3_work_15 : decode cX3_work 15 = .ok (.invokevirtual 68, 3) := by decide +kernel
theorem dX3_work_18 : decode cX3_work 18 = .ok (.return_, 1) := by decide +kernel
theorem dX3_work_19 : decode cX3_work 19 = .ok (.iload_n 1, 1) := by decide +kernel
theorem dX3_work_20 : decode cX3_work 20 = .ok (.bipush 12, 2) := by decide +kernel
theorem dX3_work_22 : decode cX3_work 22 = .ok (.if_icmp .ne 19, 3) := by decide +kernel
theorem dX3_work_25 : decode cX3_work 25 = .ok (.aload_n 0, 1) := by decide +kernel
theorem dX3_work_26 : decode cX3_work 26 = .ok (.lload_n 2, 1) := by decide +kernel
theorem dX3_work_27 : decode cX3_work 27 = .ok (.lconst 0, 1) := by decide +kernel
theorem dX3_work_28 : decode cX3_work 28 = .ok (.lcmp, 1) := by decide +kernel
theorem dX3_work_29 : decode cX3_work 29 = .ok (.ifCond .ne 7, 3) := by decide +kernel
theorem dX3_work_32 : decode cX3_work 32 = .ok (.lconst 1, 1) := by decide +kernel
theorem dX3_work_33 : decode cX3_work 33 = .ok (.goto 4, 3) := by decide +kernel
theorem dX3_work_36 : decode cX3_work 36 = .ok (.lconst 0, 1) := by decide +kernel
theorem dX3_work_37 : decode cX3_work 37 = .ok (.invokevirtual 68, 3) := by decide +kernel
theorem dX3_work_40 : decode cX3_work 40 = .ok (.return_, 1) := by decide +kernel
theorem dX3_work_41 : decode cX3_work 41 = .ok (.aload_n 0, 1) := by decide +kernel
theorem dX3_work_42 : decode cX3_work 42 = .ok (.invokevirtual 84, 3) := by decide +kernel
theorem dX3_work_45 : decode cX3_work 45 = .ok (.i2l, 1) := by decide +kernel
theorem dX3_work_46 : decode cX3_work 46 = .ok (.lstore 4, 2) := by decide +kernel
theorem dX3_work_48 : decode cX3_work 48 = .ok (.iload_n 1, 1) := by decide +kernel
theorem dX3_work_49 : decode cX3_work 49 = .ok (.bipush 26, 2) := by decide +kernel
theorem dX3_work_51 : decode cX3_work 51 = .ok (.bipush 29, 2) := by decide +kernel
theorem dX3_work_53 : decode cX3_work 53 = .ok (.invokestatic 72, 3) := by decide +kernel
theorem dX3_work_56 : decode cX3_work 56 = .ok (.ifCond .eq 17, 3) := by decide +kernel
theorem dX3_work_59 : decode cX3_work 59 = .ok (.aload_n 0, 1) := by decide +kernel
theorem dX3_work_60 : decode cX3_work 60 = .ok (.iload_n 1, 1) := by decide +kernel
theorem dX3_work_61 : decode cX3_work 61 = .ok (.lload 4, 2) := by decide +kernel
theorem dX3_work_63 : decode cX3_work 63 = .ok (.lload_n 2, 1) := by decide +kernel
theorem dX3_work_64 : decode cX3_work 64 = .ok (.invokestatic 112, 3) := by decide +kernel
theorem dX3_work_67 : decode cX3_work 67 = .ok (.invokevirtual 68, 3) := by decide +kernel
theorem dX3_work_70 : decode cX3_work 70 = .ok (.goto 22, 3) := by decide +kernel
theorem dX3_work_73 : decode cX3_work 73 = .ok (.aload_n 0, 1) := by decide +kernel
theorem dX3_work_74 : decode cX3_work 74 = .ok (.iload_n 1, 1) := by decide +kernel
theorem dX3_work_75 : decode cX3_work 75 = .ok (.lload 4, 2) := by decide +kernel
theorem dX3_work_77 : decode cX3_work 77 = .ok (.lload_n 2, 1) := by decide +kernel
theorem dX3_work_78 : decode cX3_work 78 = .ok (.invokestatic 116, 3) := by decide +kernel
theorem dX3_work_81 : decode cX3_work 81 = .ok (.ifCond .eq 7, 3) := by decide +kernel
theorem dX3_work_84 : decode cX3_work 84 = .ok (.lconst 1, 1) := by decide +kernel
theorem dX3_work_85 : decode cX3_work 85 = .ok (.goto 4, 3) := by decide +kernel
theorem dX3_work_88 : decode cX3_work 88 = .ok (.lconst 0, 1) := by decide +kernel
theorem dX3_work_89 : decode cX3_work 89 = .ok (.invokevirtual 68, 3) := by decide +kernel
theorem dX3_work_92 : decode cX3_work 92 = .ok (.return_, 1) := by decide +kernel
theorem dX3_reckoned_0 : decode cX3_reckoned 0 = .ok (.iload_n 0, 1) := by decide +kernel
theorem dX3_reckoned_1 : decode cX3_reckoned 1 = .ok (.tableswitch 39 26 28 #[27, 31, 35], 27) := by decide +kernel
theorem dX3_reckoned_28 : decode cX3_reckoned 28 = .ok (.lload_n 1, 1) := by decide +kernel
theorem dX3_reckoned_29 : decode cX3_reckoned 29 = .ok (.lload_n 3, 1) := by decide +kernel
theorem dX3_reckoned_30 : decode cX3_reckoned 30 = .ok (.ladd, 1) := by decide +kernel
theorem dX3_reckoned_31 : decode cX3_reckoned 31 = .ok (.lreturn, 1) := by decide +kernel
theorem dX3_reckoned_32 : decode cX3_reckoned 32 = .ok (.lload_n 1, 1) := by decide +kernel
theorem dX3_reckoned_33 : decode cX3_reckoned 33 = .ok (.lload_n 3, 1) := by decide +kernel
theorem dX3_reckoned_34 : decode cX3_reckoned 34 = .ok (.lsub, 1) := by decide +kernel
theorem dX3_reckoned_35 : decode cX3_reckoned 35 = .ok (.lreturn, 1) := by decide +kernel
theorem dX3_reckoned_36 : decode cX3_reckoned 36 = .ok (.lload_n 1, 1) := by decide +kernel
theorem dX3_reckoned_37 : decode cX3_reckoned 37 = .ok (.lload_n 3, 1) := by decide +kernel
theorem dX3_reckoned_38 : decode cX3_reckoned 38 = .ok (.lmul, 1) := by decide +kernel
theorem dX3_reckoned_39 : decode cX3_reckoned 39 = .ok (.lreturn, 1) := by decide +kernel
theorem dX3_reckoned_40 : decode cX3_reckoned 40 = .ok (.lload_n 3, 1) := by decide +kernel
theorem dX3_reckoned_41 : decode cX3_reckoned 41 = .ok (.lconst 0, 1) := by decide +kernel
theorem dX3_reckoned_42 : decode cX3_reckoned 42 = .ok (.lcmp, 1) := by decide +kernel
theorem dX3_reckoned_43 : decode cX3_reckoned 43 = .ok (.ifCond .ne 7, 3) := by decide +kernel
theorem dX3_reckoned_46 : decode cX3_reckoned 46 = .ok (.lconst 0, 1) := by decide +kernel
theorem dX3_reckoned_47 : decode cX3_reckoned 47 = .ok (.goto 6, 3) := by decide +kernel
theorem dX3_reckoned_50 : decode cX3_reckoned 50 = .ok (.lload_n 1, 1) := by decide +kernel
theorem dX3_reckoned_51 : decode cX3_reckoned 51 = .ok (.lload_n 3, 1) := by decide +kernel
theorem dX3_reckoned_52 : decode cX3_reckoned 52 = .ok (.ldiv, 1) := by decide +kernel
theorem dX3_reckoned_53 : decode cX3_reckoned 53 = .ok (.lreturn, 1) := by decide +kernel
theorem dX3_isSo_0 : decode cX3_isSo 0 = .ok (.iload_n 0, 1) := by decide +kernel
theorem dX3_isSo_1 : decode cX3_isSo 1 = .ok (.tableswitch 171 10 24 #[75, 93, 171, 171, 171, 171, 171, 171, 171, 171, 111, 123, 135, 147, 159], 75) := by decide +kernel
theorem dX3_isSo_76 : decode cX3_isSo 76 = .ok (.lload_n 1, 1) := by decide +kernel
theorem dX3_isSo_77 : decode cX3_isSo 77 = .ok (.lconst 0, 1) := by decide +kernel
theorem dX3_isSo_78 : decode cX3_isSo 78 = .ok (.lcmp, 1) := by decide +kernel
theorem dX3_isSo_79 : decode cX3_isSo 79 = .ok (.ifCond .ne 9, 3) := by decide +kernel
theorem dX3_isSo_82 : decode cX3_isSo 82 = .ok (.lload_n 3, 1) := by decide +kernel
theorem dX3_isSo_83 : decode cX3_isSo 83 = .ok (.lconst 0, 1) := by decide +kernel
theorem dX3_isSo_84 : decode cX3_isSo 84 = .ok (.lcmp, 1) := by decide +kernel
theorem dX3_isSo_85 : decode cX3_isSo 85 = .ok (.ifCond .eq 7, 3) := by decide +kernel
theorem dX3_isSo_88 : decode cX3_isSo 88 = .ok (.iconst 1, 1) := by decide +kernel
theorem dX3_isSo_89 : decode cX3_isSo 89 = .ok (.goto 4, 3) := by decide +kernel
theorem dX3_isSo_92 : decode cX3_isSo 92 = .ok (.iconst 0, 1) := by decide +kernel
theorem dX3_isSo_93 : decode cX3_isSo 93 = .ok (.ireturn, 1) := by decide +kernel
theorem dX3_isSo_94 : decode cX3_isSo 94 = .ok (.lload_n 1, 1) := by decide +kernel
theorem dX3_isSo_95 : decode cX3_isSo 95 = .ok (.lconst 0, 1) := by decide +kernel
theorem dX3_isSo_96 : decode cX3_isSo 96 = .ok (.lcmp, 1) := by decide +kernel
theorem dX3_isSo_97 : decode cX3_isSo 97 = .ok (.ifCond .eq 13, 3) := by decide +kernel
theorem dX3_isSo_100 : decode cX3_isSo 100 = .ok (.lload_n 3, 1) := by decide +kernel
theorem dX3_isSo_101 : decode cX3_isSo 101 = .ok (.lconst 0, 1) := by decide +kernel
theorem dX3_isSo_102 : decode cX3_isSo 102 = .ok (.lcmp, 1) := by decide +kernel
theorem dX3_isSo_103 : decode cX3_isSo 103 = .ok (.ifCond .eq 7, 3) := by decide +kernel
theorem dX3_isSo_106 : decode cX3_isSo 106 = .ok (.iconst 1, 1) := by decide +kernel
theorem dX3_isSo_107 : decode cX3_isSo 107 = .ok (.goto 4, 3) := by decide +kernel
theorem dX3_isSo_110 : decode cX3_isSo 110 = .ok (.iconst 0, 1) := by decide +kernel
theorem dX3_isSo_111 : decode cX3_isSo 111 = .ok (.ireturn, 1) := by decide +kernel
theorem dX3_isSo_112 : decode cX3_isSo 112 = .ok (.lload_n 1, 1) := by decide +kernel
theorem dX3_isSo_113 : decode cX3_isSo 113 = .ok (.lload_n 3, 1) := by decide +kernel
theorem dX3_isSo_114 : decode cX3_isSo 114 = .ok (.lcmp, 1) := by decide +kernel
theorem dX3_isSo_115 : decode cX3_isSo 115 = .ok (.ifCond .ge 7, 3) := by decide +kernel
theorem dX3_isSo_118 : decode cX3_isSo 118 = .ok (.iconst 1, 1) := by decide +kernel
theorem dX3_isSo_119 : decode cX3_isSo 119 = .ok (.goto 4, 3) := by decide +kernel
theorem dX3_isSo_122 : decode cX3_isSo 122 = .ok (.iconst 0, 1) := by decide +kernel
theorem dX3_isSo_123 : decode cX3_isSo 123 = .ok (.ireturn, 1) := by decide +kernel
theorem dX3_isSo_124 : decode cX3_isSo 124 = .ok (.lload_n 1, 1) := by decide +kernel
theorem dX3_isSo_125 : decode cX3_isSo 125 = .ok (.lload_n 3, 1) := by decide +kernel
theorem dX3_isSo_126 : decode cX3_isSo 126 = .ok (.lcmp, 1) := by decide +kernel
theorem dX3_isSo_127 : decode cX3_isSo 127 = .ok (.ifCond .gt 7, 3) := by decide +kernel
theorem dX3_isSo_130 : decode cX3_isSo 130 = .ok (.iconst 1, 1) := by decide +kernel
theorem dX3_isSo_131 : decode cX3_isSo 131 = .ok (.goto 4, 3) := by decide +kernel
theorem dX3_isSo_134 : decode cX3_isSo 134 = .ok (.iconst 0, 1) := by decide +kernel
theorem dX3_isSo_135 : decode cX3_isSo 135 = .ok (.ireturn, 1) := by decide +kernel
theorem dX3_isSo_136 : decode cX3_isSo 136 = .ok (.lload_n 1, 1) := by decide +kernel
theorem dX3_isSo_137 : decode cX3_isSo 137 = .ok (.lload_n 3, 1) := by decide +kernel
theorem dX3_isSo_138 : decode cX3_isSo 138 = .ok (.lcmp, 1) := by decide +kernel
theorem dX3_isSo_139 : decode cX3_isSo 139 = .ok (.ifCond .le 7, 3) := by decide +kernel
theorem dX3_isSo_142 : decode cX3_isSo 142 = .ok (.iconst 1, 1) := by decide +kernel
theorem dX3_isSo_143 : decode cX3_isSo 143 = .ok (.goto 4, 3) := by decide +kernel
theorem dX3_isSo_146 : decode cX3_isSo 146 = .ok (.iconst 0, 1) := by decide +kernel
theorem dX3_isSo_147 : decode cX3_isSo 147 = .ok (.ireturn, 1) := by decide +kernel
theorem dX3_isSo_148 : decode cX3_isSo 148 = .ok (.lload_n 1, 1) := by decide +kernel
theorem dX3_isSo_149 : decode cX3_isSo 149 = .ok (.lload_n 3, 1) := by decide +kernel
theorem dX3_isSo_150 : decode cX3_isSo 150 = .ok (.lcmp, 1) := by decide +kernel
theorem dX3_isSo_151 : decode cX3_isSo 151 = .ok (.ifCond .lt 7, 3) := by decide +kernel
theorem dX3_isSo_154 : decode cX3_isSo 154 = .ok (.iconst 1, 1) := by decide +kernel
theorem dX3_isSo_155 : decode cX3_isSo 155 = .ok (.goto 4, 3) := by decide +kernel
theorem dX3_isSo_158 : decode cX3_isSo 158 = .ok (.iconst 0, 1) := by decide +kernel
theorem dX3_isSo_159 : decode cX3_isSo 159 = .ok (.ireturn, 1) := by decide +kernel
theorem dX3_isSo_160 : decode cX3_isSo 160 = .ok (.lload_n 1, 1) := by decide +kernel
theorem dX3_isSo_161 : decode cX3_isSo 161 = .ok (.lload_n 3, 1) := by decide +kernel
theorem dX3_isSo_162 : decode cX3_isSo 162 = .ok (.lcmp, 1) := by decide +kernel
theorem dX3_isSo_163 : decode cX3_isSo 163 = .ok (.ifCond .ne 7, 3) := by decide +kernel
theorem dX3_isSo_166 : decode cX3_isSo 166 = .ok (.iconst 1, 1) := by decide +kernel
theorem dX3_isSo_167 : decode cX3_isSo 167 = .ok (.goto 4, 3) := by decide +kernel
theorem dX3_isSo_170 : decode cX3_isSo 170 = .ok (.iconst 0, 1) := by decide +kernel
theorem dX3_isSo_171 : decode cX3_isSo 171 = .ok (.ireturn, 1) := by decide +kernel
theorem dX3_isSo_172 : decode cX3_isSo 172 = .ok (.lload_n 1, 1) := by decide +kernel
theorem dX3_isSo_173 : decode cX3_isSo 173 = .ok (.lload_n 3, 1) := by decide +kernel
theorem dX3_isSo_174 : decode cX3_isSo 174 = .ok (.lcmp, 1) := by decide +kernel
theorem dX3_isSo_175 : decode cX3_isSo 175 = .ok (.ifCond .eq 7, 3) := by decide +kernel
theorem dX3_isSo_178 : decode cX3_isSo 178 = .ok (.iconst 1, 1) := by decide +kernel
theorem dX3_isSo_179 : decode cX3_isSo 179 = .ok (.goto 4, 3) := by decide +kernel
theorem dX3_isSo_182 : decode cX3_isSo 182 = .ok (.iconst 0, 1) := by decide +kernel
theorem dX3_isSo_183 : decode cX3_isSo 183 = .ok (.ireturn, 1) := by decide +kernel
theorem dX4_init_0 : decode cX4_init 0 = .ok (.aload_n 0, 1) := by decide +kernel
theorem dX4_init_1 : decode cX4_init 1 = .ok (.invokespecial 3, 3) := by decide +kernel
theorem dX4_init_4 : decode cX4_init 4 = .ok (.aload_n 0, 1) := by decide +kernel
theorem dX4_init_5 : decode cX4_init 5 = .ok (.bipush 10, 2) := by decide +kernel
theorem dX4_init_7 : decode cX4_init 7 = .ok (.newarray .int, 2) := by decide +kernel
theorem dX4_init_9 : decode cX4_init 9 = .ok (.putfield 9, 3) := by decide +kernel
theorem dX4_init_12 : decode cX4_init 12 = .ok (.aload_n 0, 1) := by decide +kernel
theorem dX4_init_13 : decode cX4_init 13 = .ok (.bipush 20, 2) := by decide +kernel
theorem dX4_init_15 : decode cX4_init 15 = .ok (.newarray .int, 2) := by decide +kernel
theorem dX4_init_17 : decode cX4_init 17 = .ok (.putfield 15, 3) := by decide +kernel
theorem dX4_init_20 : decode cX4_init 20 = .ok (.aload_n 0, 1) := by decide +kernel
theorem dX4_init_21 : decode cX4_init 21 = .ok (.bipush 20, 2) := by decide +kernel
theorem dX4_init_23 : decode cX4_init 23 = .ok (.newarray .int, 2) := by decide +kernel
theorem dX4_init_25 : decode cX4_init 25 = .ok (.putfield 18, 3) := by decide +kernel
theorem dX4_init_28 : decode cX4_init 28 = .ok (.aload_n 0, 1) := by decide +kernel
theorem dX4_init_29 : decode cX4_init 29 = .ok (.bipush 20, 2) := by decide +kernel
theorem dX4_init_31 : decode cX4_init 31 = .ok (.newarray .int, 2) := by decide +kernel
theorem dX4_init_33 : decode cX4_init 33 = .ok (.putfield 21, 3) := by decide +kernel
theorem dX4_init_36 : decode cX4_init 36 = .ok (.aload_n 0, 1) := by decide +kernel
theorem dX4_init_37 : decode cX4_init 37 = .ok (.bipush 20, 2) := by decide +kernel
theorem dX4_init_39 : decode cX4_init 39 = .ok (.newarray .int, 2) := by decide +kernel
theorem dX4_init_41 : decode cX4_init 41 = .ok (.putfield 24, 3) := by decide +kernel
theorem dX4_init_44 : decode cX4_init 44 = .ok (.aload_n 0, 1) := by decide +kernel
theorem dX4_init_45 : decode cX4_init 45 = .ok (.bipush 20, 2) := by decide +kernel
theorem dX4_init_47 : decode cX4_init 47 = .ok (.newarray .int, 2) := by decide +kernel
theorem dX4_init_49 : decode cX4_init 49 = .ok (.putfield 27, 3) := by decide +kernel
theorem dX4_init_52 : decode cX4_init 52 = .ok (.aload_n 0, 1) := by decide +kernel
theorem dX4_init_53 : decode cX4_init 53 = .ok (.iconst 3, 1) := by decide +kernel
theorem dX4_init_54 : decode cX4_init 54 = .ok (.putfield 30, 3) := by decide +kernel
theorem dX4_init_57 : decode cX4_init 57 = .ok (.aload_n 0, 1) := by decide +kernel
theorem dX4_init_58 : decode cX4_init 58 = .ok (.iconst (-1), 1) := by decide +kernel
theorem dX4_init_59 : decode cX4_init 59 = .ok (.putfield 34, 3) := by decide +kernel
theorem dX4_init_62 : decode cX4_init 62 = .ok (.aload_n 0, 1) := by decide +kernel
theorem dX4_init_63 : decode cX4_init 63 = .ok (.new 37, 3) := by decide +kernel
theorem dX4_init_66 : decode cX4_init 66 = .ok (.dup, 1) := by decide +kernel
theorem dX4_init_67 : decode cX4_init 67 = .ok (.invokespecial 39, 3) := by decide +kernel
theorem dX4_init_70 : decode cX4_init 70 = .ok (.putfield 40, 3) := by decide +kernel
theorem dX4_init_73 : decode cX4_init 73 = .ok (.aload_n 0, 1) := by decide +kernel
theorem dX4_init_74 : decode cX4_init 74 = .ok (.iconst 4, 1) := by decide +kernel
theorem dX4_init_75 : decode cX4_init 75 = .ok (.newarray .int, 2) := by decide +kernel
theorem dX4_init_77 : decode cX4_init 77 = .ok (.putfield 44, 3) := by decide +kernel
theorem dX4_init_80 : decode cX4_init 80 = .ok (.aload_n 0, 1) := by decide +kernel
theorem dX4_init_81 : decode cX4_init 81 = .ok (.iconst 4, 1) := by decide +kernel
theorem dX4_init_82 : decode cX4_init 82 = .ok (.newarray .int, 2) := by decide +kernel
theorem dX4_init_84 : decode cX4_init 84 = .ok (.putfield 47, 3) := by decide +kernel
theorem dX4_init_87 : decode cX4_init 87 = .ok (.return_, 1) := by decide +kernel
theorem dX4_copyOf_0 : decode cX4_copyOf 0 = .ok (.aload_n 1, 1) := by decide +kernel
theorem dX4_copyOf_1 : decode cX4_copyOf 1 = .ok (.getfield 9, 3) := by decide +kernel
theorem dX4_copyOf_4 : decode cX4_copyOf 4 = .ok (.iconst 0, 1) := by decide +kernel
theorem dX4_copyOf_5 : decode cX4_copyOf 5 = .ok (.aload_n 0, 1) := by decide +kernel
theorem dX4_copyOf_6 : decode cX4_copyOf 6 = .ok (.getfield 9, 3) := by decide +kernel
theorem dX4_copyOf_9 : decode cX4_copyOf 9 = .ok (.iconst 0, 1) := by decide +kernel
theorem dX4_copyOf_10 : decode cX4_copyOf 10 = .ok (.bipush 10, 2) := by decide +kernel
theorem dX4_copyOf_12 : decode cX4_copyOf 12 = .ok (.invokestatic 50, 3) := by decide +kernel
theorem dX4_copyOf_15 : decode cX4_copyOf 15 = .ok (.aload_n 1, 1) := by decide +kernel
theorem dX4_copyOf_16 : decode cX4_copyOf 16 = .ok (.getfield 15, 3) := by decide +kernel
theorem dX4_copyOf_19 : decode cX4_copyOf 19 = .ok (.iconst 0, 1) := by decide +kernel
theorem dX4_copyOf_20 : decode cX4_copyOf 20 = .ok (.aload_n 0, 1) := by decide +kernel
theorem dX4_copyOf_21 : decode cX4_copyOf 21 = .ok (.getfield 15, 3) := by decide +kernel
theorem dX4_copyOf_24 : decode cX4_copyOf 24 = .ok (.iconst 0, 1) := by decide +kernel
theorem dX4_copyOf_25 : decode cX4_copyOf 25 = .ok (.bipush 20, 2) := by decide +kernel
theorem dX4_copyOf_27 : decode cX4_copyOf 27 = .ok (.invokestatic 50, 3) := by decide +kernel
theorem dX4_copyOf_30 : decode cX4_copyOf 30 = .ok (.aload_n 1, 1) := by decide +kernel
theorem dX4_copyOf_31 : decode cX4_copyOf 31 = .ok (.getfield 18, 3) := by decide +kernel
theorem dX4_copyOf_34 : decode cX4_copyOf 34 = .ok (.iconst 0, 1) := by decide +kernel
theorem dX4_copyOf_35 : decode cX4_copyOf 35 = .ok (.aload_n 0, 1) := by decide +kernel
theorem dX4_copyOf_36 : decode cX4_copyOf 36 = .ok (.getfield 18, 3) := by decide +kernel
theorem dX4_copyOf_39 : decode cX4_copyOf 39 = .ok (.iconst 0, 1) := by decide +kernel
theorem dX4_copyOf_40 : decode cX4_copyOf 40 = .ok (.bipush 20, 2) := by decide +kernel
theorem dX4_copyOf_42 : decode cX4_copyOf 42 = .ok (.invokestatic 50, 3) := by decide +kernel
theorem dX4_copyOf_45 : decode cX4_copyOf 45 = .ok (.aload_n 1, 1) := by decide +kernel
theorem dX4_copyOf_46 : decode cX4_copyOf 46 = .ok (.getfield 21, 3) := by decide +kernel
theorem dX4_copyOf_49 : decode cX4_copyOf 49 = .ok (.iconst 0, 1) := by decide +kernel
theorem dX4_copyOf_50 : decode cX4_copyOf 50 = .ok (.aload_n 0, 1) := by decide +kernel
theorem dX4_copyOf_51 : decode cX4_copyOf 51 = .ok (.getfield 21, 3) := by decide +kernel
theorem dX4_copyOf_54 : decode cX4_copyOf 54 = .ok (.iconst 0, 1) := by decide +kernel
theorem dX4_copyOf_55 : decode cX4_copyOf 55 = .ok (.bipush 20, 2) := by decide +kernel
theorem dX4_copyOf_57 : decode cX4_copyOf 57 = .ok (.invokestatic 50, 3) := by decide +kernel
theorem dX4_copyOf_60 : decode cX4_copyOf 60 = .ok (.aload_n 1, 1) := by decide +kernel
theorem dX4_copyOf_61 : decode cX4_copyOf 61 = .ok (.getfield 24, 3) := by decide +kernel
theorem dX4_copyOf_64 : decode cX4_copyOf 64 = .ok (.iconst 0, 1) := by decide +kernel
theorem dX4_copyOf_65 : decode cX4_copyOf 65 = .ok (.aload_n 0, 1) := by decide +kernel
theorem dX4_copyOf_66 : decode cX4_copyOf 66 = .ok (.getfield 24, 3) := by decide +kernel
theorem dX4_copyOf_69 : decode cX4_copyOf 69 = .ok (.iconst 0, 1) := by decide +kernel
theorem dX4_copyOf_70 : decode cX4_copyOf 70 = .ok (.bipush 20, 2) := by decide +kernel
theorem dX4_copyOf_72 : decode cX4_copyOf 72 = .ok (.invokestatic 50, 3) := by decide +kernel
theorem dX4_copyOf_75 : decode cX4_copyOf 75 = .ok (.aload_n 1, 1) := by decide +kernel
theorem dX4_copyOf_76 : decode cX4_copyOf 76 = .ok (.getfield 27, 3) := by decide +kernel
theorem dX4_copyOf_79 : decode cX4_copyOf 79 = .ok (.iconst 0, 1) := by decide +kernel
theorem dX4_copyOf_80 : decode cX4_copyOf 80 = .ok (.aload_n 0, 1) := by decide +kernel
theorem dX4_copyOf_81 : decode cX4_copyOf 81 = .ok (.getfield 27, 3) := by decide +kernel
theorem dX4_copyOf_84 : decode cX4_copyOf 84 = .ok (.iconst 0, 1) := by decide +kernel
theorem dX4_copyOf_85 : decode cX4_copyOf 85 = .ok (.bipush 20, 2) := by decide +kernel
theorem dX4_copyOf_87 : decode cX4_copyOf 87 = .ok (.invokestatic 50, 3) := by decide +kernel
theorem dX4_copyOf_90 : decode cX4_copyOf 90 = .ok (.aload_n 1, 1) := by decide +kernel
theorem dX4_copyOf_91 : decode cX4_copyOf 91 = .ok (.getfield 44, 3) := by decide +kernel
theorem dX4_copyOf_94 : decode cX4_copyOf 94 = .ok (.iconst 0, 1) := by decide +kernel
theorem dX4_copyOf_95 : decode cX4_copyOf 95 = .ok (.aload_n 0, 1) := by decide +kernel
theorem dX4_copyOf_96 : decode cX4_copyOf 96 = .ok (.getfield 44, 3) := by decide +kernel
theorem dX4_copyOf_99 : decode cX4_copyOf 99 = .ok (.iconst 0, 1) := by decide +kernel
theorem dX4_copyOf_100 : decode cX4_copyOf 100 = .ok (.iconst 4, 1) := by decide +kernel
theorem dX4_copyOf_101 : decode cX4_copyOf 101 = .ok (.invokestatic 50, 3) := by decide +kernel
theorem dX4_copyOf_104 : decode cX4_copyOf 104 = .ok (.aload_n 1, 1) := by decide +kernel
theorem dX4_copyOf_105 : decode cX4_copyOf 105 = .ok (.getfield 47, 3) := by decide +kernel
theorem dX4_copyOf_108 : decode cX4_copyOf 108 = .ok (.iconst 0, 1) := by decide +kernel
theorem dX4_copyOf_109 : decode cX4_copyOf 109 = .ok (.aload_n 0, 1) := by decide +kernel
theorem dX4_copyOf_110 : decode cX4_copyOf 110 = .ok (.getfield 47, 3) := by decide +kernel
theorem dX4_copyOf_113 : decode cX4_copyOf 113 = .ok (.iconst 0, 1) := by decide +kernel
theorem dX4_copyOf_114 : decode cX4_copyOf 114 = .ok (.iconst 4, 1) := by decide +kernel
theorem dX4_copyOf_115 : decode cX4_copyOf 115 = .ok (.invokestatic 50, 3) := by decide +kernel
theorem dX4_copyOf_118 : decode cX4_copyOf 118 = .ok (.aload_n 0, 1) := by decide +kernel
theorem dX4_copyOf_119 : decode cX4_copyOf 119 = .ok (.getfield 40, 3) := by decide +kernel
theorem dX4_copyOf_122 : decode cX4_copyOf 122 = .ok (.aload_n 1, 1) := by decide +kernel
theorem dX4_copyOf_123 : decode cX4_copyOf 123 = .ok (.getfield 40, 3) := by decide +kernel
theorem dX4_copyOf_126 : decode cX4_copyOf 126 = .ok (.invokevirtual 56, 3) := by decide +kernel
theorem dX4_copyOf_129 : decode cX4_copyOf 129 = .ok (.aload_n 0, 1) := by decide +kernel
theorem dX4_copyOf_130 : decode cX4_copyOf 130 = .ok (.aload_n 1, 1) := by decide +kernel
theorem dX4_copyOf_131 : decode cX4_copyOf 131 = .ok (.getfield 60, 3) := by decide +kernel
theorem dX4_copyOf_134 : decode cX4_copyOf 134 = .ok (.putfield 60, 3) := by decide +kernel
theorem dX4_copyOf_137 : decode cX4_copyOf 137 = .ok (.aload_n 0, 1) := by decide +kernel
theorem dX4_copyOf_138 : decode cX4_copyOf 138 = .ok (.aload_n 1, 1) := by decide +kernel
theorem dX4_copyOf_139 : decode cX4_copyOf 139 = .ok (.getfield 63, 3) := by decide +kernel
theorem dX4_copyOf_142 : decode cX4_copyOf 142 = .ok (.putfield 63, 3) := by decide +kernel
theorem dX4_copyOf_145 : decode cX4_copyOf 145 = .ok (.aload_n 0, 1) := by decide +kernel
theorem dX4_copyOf_146 : decode cX4_copyOf 146 = .ok (.aload_n 1, 1) := by decide +kernel
theorem dX4_copyOf_147 : decode cX4_copyOf 147 = .ok (.getfield 66, 3) := by decide +kernel
theorem dX4_copyOf_150 : decode cX4_copyOf 150 = .ok (.putfield 66, 3) := by decide +kernel
theorem dX4_copyOf_153 : decode cX4_copyOf 153 = .ok (.aload_n 0, 1) := by decide +kernel
theorem dX4_copyOf_154 : decode cX4_copyOf 154 = .ok (.aload_n 1, 1) := by decide +kernel
theorem dX4_copyOf_155 : decode cX4_copyOf 155 = .ok (.getfield 69, 3) := by decide +kernel
theorem dX4_copyOf_158 : decode cX4_copyOf 158 = .ok (.putfield 69, 3) := by decide +kernel
theorem dX4_copyOf_161 : decode cX4_copyOf 161 = .ok (.aload_n 0, 1) := by decide +kernel
theorem dX4_copyOf_162 : decode cX4_copyOf 162 = .ok (.aload_n 1, 1) := by decide +kernel
theorem dX4_copyOf_163 : decode cX4_copyOf 163 = .ok (.getfield 30, 3) := by decide +kernel
theorem dX4_copyOf_166 : decode cX4_copyOf 166 = .ok (.putfield 30, 3) := by decide +kernel
theorem dX4_copyOf_169 : decode cX4_copyOf 169 = .ok (.aload_n 0, 1) := by decide +kernel
theorem dX4_copyOf_170 : decode cX4_copyOf 170 = .ok (.aload_n 1, 1) := by decide +kernel
theorem dX4_copyOf_171 : decode cX4_copyOf 171 = .ok (.getfield 72, 3) := by decide +kernel
theorem dX4_copyOf_174 : decode cX4_copyOf 174 = .ok (.putfield 72, 3) := by decide +kernel
theorem dX4_copyOf_177 : decode cX4_copyOf 177 = .ok (.aload_n 0, 1) := by decide +kernel
theorem dX4_copyOf_178 : decode cX4_copyOf 178 = .ok (.aload_n 1, 1) := by decide +kernel
theorem dX4_copyOf_179 : decode cX4_copyOf 179 = .ok (.getfield 34, 3) := by decide +kernel
theorem dX4_copyOf_182 : decode cX4_copyOf 182 = .ok (.putfield 34, 3) := by decide +kernel
theorem dX4_copyOf_185 : decode cX4_copyOf 185 = .ok (.aload_n 0, 1) := by decide +kernel
theorem dX4_copyOf_186 : decode cX4_copyOf 186 = .ok (.aload_n 1, 1) := by decide +kernel
theorem dX4_copyOf_187 : decode cX4_copyOf 187 = .ok (.getfield 75, 3) := by decide +kernel
theorem dX4_copyOf_190 : decode cX4_copyOf 190 = .ok (.putfield 75, 3) := by decide +kernel
theorem dX4_copyOf_193 : decode cX4_copyOf 193 = .ok (.return_, 1) := by decide +kernel
theorem dX4_isHand_0 : decode cX4_isHand 0 = .ok (.iload_n 1, 1) := by decide +kernel
theorem dX4_isHand_1 : decode cX4_isHand 1 = .ok (.ifCond .lt 21, 3) := by decide +kernel
theorem dX4_isHand_4 : decode cX4_isHand 4 = .ok (.iload_n 1, 1) := by decide +kernel
theorem dX4_isHand_5 : decode cX4_isHand 5 = .ok (.aload_n 0, 1) := by decide +kernel
theorem dX4_isHand_6 : decode cX4_isHand 6 = .ok (.getfield 60, 3) := by decide +kernel
theorem dX4_isHand_9 : decode cX4_isHand 9 = .ok (.if_icmp .ge 13, 3) := by decide +kernel
theorem dX4_isHand_12 : decode cX4_isHand 12 = .ok (.iload_n 1, 1) := by decide +kernel
theorem dX4_isHand_13 : decode cX4_isHand 13 = .ok (.bipush 10, 2) := by decide +kernel
theorem dX4_isHand_15 : decode cX4_isHand 15 = .ok (.if_icmp .ge 7, 3) := by decide +kernel
theorem dX4_isHand_18 : decode cX4_isHand 18 = .ok (.iconst 1, 1) := by decide +kernel
theorem dX4_isHand_19 : decode cX4_isHand 19 = .ok (.goto 4, 3) := by decide +kernel
theorem dX4_isHand_22 : decode cX4_isHand 22 = .ok (.iconst 0, 1) := by decide +kernel
theorem dX4_isHand_23 : decode cX4_isHand 23 = .ok (.ireturn, 1) := by decide +kernel
theorem dX4_isCoin_0 : decode cX4_isCoin 0 = .ok (.iload_n 1, 1) := by decide +kernel
theorem dX4_isCoin_1 : decode cX4_isCoin 1 = .ok (.ifCond .lt 21, 3) := by decide +kernel
theorem dX4_isCoin_4 : decode cX4_isCoin 4 = .ok (.iload_n 1, 1) := by decide +kernel
theorem dX4_isCoin_5 : decode cX4_isCoin 5 = .ok (.aload_n 0, 1) := by decide +kernel
theorem dX4_isCoin_6 : decode cX4_isCoin 6 = .ok (.getfield 63, 3) := by decide +kernel
