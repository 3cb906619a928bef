theorem dX9_init_1 : decode cX9_init 1 = .ok (.invokespecial 3, 3) := by decide +kernel
theorem dX9_init_4 : decode cX9_init 4 = .ok (.aload_n 0, 1) := by decide +kernel
theorem dX9_init_5 : decode cX9_init 5 = .ok (.bipush 6, 2) := by decide +kernel
theorem dX9_init_7 : decode cX9_init 7 = .ok (.newarray .int, 2) := by decide +kernel
theorem dX9_init_9 : decode cX9_init 9 = .ok (.putfield 9, 3) := by decide +kernel
theorem dX9_init_12 : decode cX9_init 12 = .ok (.aload_n 0, 1) := by decide +kernel
theorem dX9_init_13 : decode cX9_init 13 = .ok (.bipush 21, 2) := by decide +kernel
theorem dX9_init_15 : decode cX9_init 15 = .ok (.newarray .int, 2) := by decide +kernel
theorem dX9_init_17 : decode cX9_init 17 = .ok (.putfield 15, 3) := by decide +kernel
theorem dX9_init_20 : decode cX9_init 20 = .ok (.aload_n 0, 1) := by decide +kernel
theorem dX9_init_21 : decode cX9_init 21 = .ok (.bipush 126, 2) := by decide +kernel
theorem dX9_init_23 : decode cX9_init 23 = .ok (.newarray .int, 2) := by decide +kernel
theorem dX9_init_25 : decode cX9_init 25 = .ok (.putfield 18, 3) := by decide +kernel
theorem dX9_init_28 : decode cX9_init 28 = .ok (.aload_n 0, 1) := by decide +kernel
theorem dX9_init_29 : decode cX9_init 29 = .ok (.sipush 132, 3) := by decide +kernel
theorem dX9_init_32 : decode cX9_init 32 = .ok (.newarray .int, 2) := by decide +kernel
theorem dX9_init_34 : decode cX9_init 34 = .ok (.putfield 21, 3) := by decide +kernel
theorem dX9_init_37 : decode cX9_init 37 = .ok (.return_, 1) := by decide +kernel
theorem dX9_arrange_0 : decode cX9_arrange 0 = .ok (.aload_n 0, 1) := by decide +kernel
theorem dX9_arrange_1 : decode cX9_arrange 1 = .ok (.aload_n 1, 1) := by decide +kernel
theorem dX9_arrange_2 : decode cX9_arrange 2 = .ok (.invokevirtual 24, 3) := by decide +kernel
theorem dX9_arrange_5 : decode cX9_arrange 5 = .ok (.aload_n 0, 1) := by decide +kernel
theorem dX9_arrange_6 : decode cX9_arrange 6 = .ok (.aload_n 1, 1) := by decide +kernel
theorem dX9_arrange_7 : decode cX9_arrange 7 = .ok (.iload_n 2, 1) := by decide +kernel
theorem dX9_arrange_8 : decode cX9_arrange 8 = .ok (.invokevirtual 28, 3) := by decide +kernel
theorem dX9_arrange_11 : decode cX9_arrange 11 = .ok (.aload_n 0, 1) := by decide +kernel
theorem dX9_arrange_12 : decode cX9_arrange 12 = .ok (.iload_n 2, 1) := by decide +kernel
theorem dX9_arrange_13 : decode cX9_arrange 13 = .ok (.invokevirtual 32, 3) := by decide +kernel
theorem dX9_arrange_16 : decode cX9_arrange 16 = .ok (.aload_n 0, 1) := by decide +kernel
theorem dX9_arrange_17 : decode cX9_arrange 17 = .ok (.iload_n 2, 1) := by decide +kernel
theorem dX9_arrange_18 : decode cX9_arrange 18 = .ok (.invokevirtual 36, 3) := by decide +kernel
theorem dX9_arrange_21 : decode cX9_arrange 21 = .ok (.aload_n 0, 1) := by decide +kernel
theorem dX9_arrange_22 : decode cX9_arrange 22 = .ok (.getfield 21, 3) := by decide +kernel
theorem dX9_arrange_25 : decode cX9_arrange 25 = .ok (.iconst 0, 1) := by decide +kernel
theorem dX9_arrange_26 : decode cX9_arrange 26 = .ok (.iaload, 1) := by decide +kernel
theorem dX9_arrange_27 : decode cX9_arrange 27 = .ok (.ireturn, 1) := by decide +kernel
theorem dX9_findEdges_0 : decode cX9_findEdges 0 = .ok (.aload_n 0, 1) := by decide +kernel
theorem dX9_findEdges_1 : decode cX9_findEdges 1 = .ok (.getfield 15, 3) := by decide +kernel
theorem dX9_findEdges_4 : decode cX9_findEdges 4 = .ok (.iconst 0, 1) := by decide +kernel
theorem dX9_findEdges_5 : decode cX9_findEdges 5 = .ok (.iconst 0, 1) := by decide +kernel
theorem dX9_findEdges_6 : decode cX9_findEdges 6 = .ok (.iastore, 1) := by decide +kernel
theorem dX9_findEdges_7 : decode cX9_findEdges 7 = .ok (.aload_n 0, 1) := by decide +kernel
theorem dX9_findEdges_8 : decode cX9_findEdges 8 = .ok (.iconst 1, 1) := by decide +kernel
theorem dX9_findEdges_9 : decode cX9_findEdges 9 = .ok (.putfield 39, 3) := by decide +kernel
theorem dX9_findEdges_12 : decode cX9_findEdges 12 = .ok (.iconst 0, 1) := by decide +kernel
theorem dX9_findEdges_13 : decode cX9_findEdges 13 = .ok (.istore_n 2, 1) := by decide +kernel
theorem dX9_findEdges_14 : decode cX9_findEdges 14 = .ok (.iload_n 2, 1) := by decide +kernel
theorem dX9_findEdges_15 : decode cX9_findEdges 15 = .ok (.aload_n 1, 1) := by decide +kernel
theorem dX9_findEdges_16 : decode cX9_findEdges 16 = .ok (.getfield 43, 3) := by decide +kernel
theorem dX9_findEdges_19 : decode cX9_findEdges 19 = .ok (.if_icmp .ge 49, 3) := by decide +kernel
theorem dX9_findEdges_22 : decode cX9_findEdges 22 = .ok (.iload_n 2, 1) := by decide +kernel
theorem dX9_findEdges_23 : decode cX9_findEdges 23 = .ok (.bipush 20, 2) := by decide +kernel
theorem dX9_findEdges_25 : decode cX9_findEdges 25 = .ok (.if_icmp .ge 43, 3) := by decide +kernel
theorem dX9_findEdges_28 : decode cX9_findEdges 28 = .ok (.aload_n 1, 1) := by decide +kernel
theorem dX9_findEdges_29 : decode cX9_findEdges 29 = .ok (.getfield 48, 3) := by decide +kernel
theorem dX9_findEdges_32 : decode cX9_findEdges 32 = .ok (.iload_n 2, 1) := by decide +kernel
theorem dX9_findEdges_33 : decode cX9_findEdges 33 = .ok (.iaload, 1) := by decide +kernel
theorem dX9_findEdges_34 : decode cX9_findEdges 34 = .ok (.iconst (-1), 1) := by decide +kernel
theorem dX9_findEdges_35 : decode cX9_findEdges 35 = .ok (.if_icmp .eq 27, 3) := by decide +kernel
theorem dX9_findEdges_38 : decode cX9_findEdges 38 = .ok (.aload_n 1, 1) := by decide +kernel
theorem dX9_findEdges_39 : decode cX9_findEdges 39 = .ok (.getfield 51, 3) := by decide +kernel
theorem dX9_findEdges_42 : decode cX9_findEdges 42 = .ok (.iload_n 2, 1) := by decide +kernel
theorem dX9_findEdges_43 : decode cX9_findEdges 43 = .ok (.iaload, 1) := by decide +kernel
theorem dX9_findEdges_44 : decode cX9_findEdges 44 = .ok (.sipush 999, 3) := by decide +kernel
theorem dX9_findEdges_47 : decode cX9_findEdges 47 = .ok (.if_icmp .ge 15, 3) := by decide +kernel
theorem dX9_findEdges_50 : decode cX9_findEdges 50 = .ok (.aload_n 0, 1) := by decide +kernel
theorem dX9_findEdges_51 : decode cX9_findEdges 51 = .ok (.aload_n 1, 1) := by decide +kernel
theorem dX9_findEdges_52 : decode cX9_findEdges 52 = .ok (.getfield 51, 3) := by decide +kernel
theorem dX9_findEdges_55 : decode cX9_findEdges 55 = .ok (.iload_n 2, 1) := by decide +kernel
theorem dX9_findEdges_56 : decode cX9_findEdges 56 = .ok (.iaload, 1) := by decide +kernel
theorem dX9_findEdges_57 : decode cX9_findEdges 57 = .ok (.iconst 1, 1) := by decide +kernel
theorem dX9_findEdges_58 : decode cX9_findEdges 58 = .ok (.iadd, 1) := by decide +kernel
theorem dX9_findEdges_59 : decode cX9_findEdges 59 = .ok (.invokevirtual 54, 3) := by decide +kernel
theorem dX9_findEdges_62 : decode cX9_findEdges 62 = .ok (.iinc 2 1, 3) := by decide +kernel
theorem dX9_findEdges_65 : decode cX9_findEdges 65 = .ok (.goto (-51), 3) := by decide +kernel
theorem dX9_findEdges_68 : decode cX9_findEdges 68 = .ok (.return_, 1) := by decide +kernel
theorem dX9_addEdge_0 : decode cX9_addEdge 0 = .ok (.aload_n 0, 1) := by decide +kernel
theorem dX9_addEdge_1 : decode cX9_addEdge 1 = .ok (.iload_n 1, 1) := by decide +kernel
theorem dX9_addEdge_2 : decode cX9_addEdge 2 = .ok (.iconst 1, 1) := by decide +kernel
theorem dX9_addEdge_3 : decode cX9_addEdge 3 = .ok (.isub, 1) := by decide +kernel
theorem dX9_addEdge_4 : decode cX9_addEdge 4 = .ok (.invokevirtual 57, 3) := by decide +kernel
theorem dX9_addEdge_7 : decode cX9_addEdge 7 = .ok (.iconst 1, 1) := by decide +kernel
theorem dX9_addEdge_8 : decode cX9_addEdge 8 = .ok (.iadd, 1) := by decide +kernel
theorem dX9_addEdge_9 : decode cX9_addEdge 9 = .ok (.istore_n 2, 1) := by decide +kernel
theorem dX9_addEdge_10 : decode cX9_addEdge 10 = .ok (.aload_n 0, 1) := by decide +kernel
theorem dX9_addEdge_11 : decode cX9_addEdge 11 = .ok (.getfield 39, 3) := by decide +kernel
theorem dX9_addEdge_14 : decode cX9_addEdge 14 = .ok (.bipush 21, 2) := by decide +kernel
theorem dX9_addEdge_16 : decode cX9_addEdge 16 = .ok (.if_icmp .ge 25, 3) := by decide +kernel
theorem dX9_addEdge_19 : decode cX9_addEdge 19 = .ok (.iload_n 2, 1) := by decide +kernel
theorem dX9_addEdge_20 : decode cX9_addEdge 20 = .ok (.ifCond .lt 21, 3) := by decide +kernel
theorem dX9_addEdge_23 : decode cX9_addEdge 23 = .ok (.iload_n 2, 1) := by decide +kernel
theorem dX9_addEdge_24 : decode cX9_addEdge 24 = .ok (.aload_n 0, 1) := by decide +kernel
theorem dX9_addEdge_25 : decode cX9_addEdge 25 = .ok (.getfield 39, 3) := by decide +kernel
theorem dX9_addEdge_28 : decode cX9_addEdge 28 = .ok (.if_icmp .ge 14, 3) := by decide +kernel
theorem dX9_addEdge_31 : decode cX9_addEdge 31 = .ok (.aload_n 0, 1) := by decide +kernel
theorem dX9_addEdge_32 : decode cX9_addEdge 32 = .ok (.getfield 15, 3) := by decide +kernel
theorem dX9_addEdge_35 : decode cX9_addEdge 35 = .ok (.iload_n 2, 1) := by decide +kernel
theorem dX9_addEdge_36 : decode cX9_addEdge 36 = .ok (.iaload, 1) := by decide +kernel
theorem dX9_addEdge_37 : decode cX9_addEdge 37 = .ok (.iload_n 1, 1) := by decide +kernel
theorem dX9_addEdge_38 : decode cX9_addEdge 38 = .ok (.if_icmp .ne 4, 3) := by decide +kernel
theorem dX9_addEdge_41 : decode cX9_addEdge 41 = .ok (.return_, 1) := by decide +kernel
theorem dX9_addEdge_42 : decode cX9_addEdge 42 = .ok (.aload_n 0, 1) := by decide +kernel
theorem dX9_addEdge_43 : decode cX9_addEdge 43 = .ok (.getfield 39, 3) := by decide +kernel
theorem dX9_addEdge_46 : decode cX9_addEdge 46 = .ok (.istore_n 3, 1) := by decide +kernel
theorem dX9_addEdge_47 : decode cX9_addEdge 47 = .ok (.iload_n 3, 1) := by decide +kernel
theorem dX9_addEdge_48 : decode cX9_addEdge 48 = .ok (.iload_n 2, 1) := by decide +kernel
theorem dX9_addEdge_49 : decode cX9_addEdge 49 = .ok (.if_icmp .le 23, 3) := by decide +kernel
theorem dX9_addEdge_52 : decode cX9_addEdge 52 = .ok (.aload_n 0, 1) := by decide +kernel
theorem dX9_addEdge_53 : decode cX9_addEdge 53 = .ok (.getfield 15, 3) := by decide +kernel
theorem dX9_addEdge_56 : decode cX9_addEdge 56 = .ok (.iload_n 3, 1) := by decide +kernel
theorem dX9_addEdge_57 : decode cX9_addEdge 57 = .ok (.aload_n 0, 1) := by decide +kernel
theorem dX9_addEdge_58 : decode cX9_addEdge 58 = .ok (.getfield 15, 3) := by decide +kernel
theorem dX9_addEdge_61 : decode cX9_addEdge 61 = .ok (.iload_n 3, 1) := by decide +kernel
theorem dX9_addEdge_62 : decode cX9_addEdge 62 = .ok (.iconst 1, 1) := by decide +kernel
theorem dX9_addEdge_63 : decode cX9_addEdge 63 = .ok (.isub, 1) := by decide +kernel
theorem dX9_addEdge_64 : decode cX9_addEdge 64 = .ok (.iaload, 1) := by decide +kernel
theorem dX9_addEdge_65 : decode cX9_addEdge 65 = .ok (.iastore, 1) := by decide +kernel
theorem dX9_addEdge_66 : decode cX9_addEdge 66 = .ok (.iinc 3 (-1), 3) := by decide +kernel
theorem dX9_addEdge_69 : decode cX9_addEdge 69 = .ok (.goto (-22), 3) := by decide +kernel
theorem dX9_addEdge_72 : decode cX9_addEdge 72 = .ok (.aload_n 0, 1) := by decide +kernel
theorem dX9_addEdge_73 : decode cX9_addEdge 73 = .ok (.getfield 15, 3) := by decide +kernel
theorem dX9_addEdge_76 : decode cX9_addEdge 76 = .ok (.iload_n 2, 1) := by decide +kernel
theorem dX9_addEdge_77 : decode cX9_addEdge 77 = .ok (.iload_n 1, 1) := by decide +kernel
theorem dX9_addEdge_78 : decode cX9_addEdge 78 = .ok (.iastore, 1) := by decide +kernel
theorem dX9_addEdge_79 : decode cX9_addEdge 79 = .ok (.aload_n 0, 1) := by decide +kernel
theorem dX9_addEdge_80 : decode cX9_addEdge 80 = .ok (.dup, 1) := by decide +kernel
theorem dX9_addEdge_81 : decode cX9_addEdge 81 = .ok (.getfield 39, 3) := by decide +kernel
theorem dX9_addEdge_84 : decode cX9_addEdge 84 = .ok (.iconst 1, 1) := by decide +kernel
theorem dX9_addEdge_85 : decode cX9_addEdge 85 = .ok (.iadd, 1) := by decide +kernel
theorem dX9_addEdge_86 : decode cX9_addEdge 86 = .ok (.putfield 39, 3) := by decide +kernel
theorem dX9_addEdge_89 : decode cX9_addEdge 89 = .ok (.return_, 1) := by decide +kernel
theorem dX9_edgeBelow_0 : decode cX9_edgeBelow 0 = .ok (.iconst 0, 1) := by decide +kernel
theorem dX9_edgeBelow_1 : decode cX9_edgeBelow 1 = .ok (.istore_n 2, 1) := by decide +kernel
theorem dX9_edgeBelow_2 : decode cX9_edgeBelow 2 = .ok (.iconst 0, 1) := by decide +kernel
theorem dX9_edgeBelow_3 : decode cX9_edgeBelow 3 = .ok (.istore_n 3, 1) := by decide +kernel
theorem dX9_edgeBelow_4 : decode cX9_edgeBelow 4 = .ok (.iload_n 3, 1) := by decide +kernel
theorem dX9_edgeBelow_5 : decode cX9_edgeBelow 5 = .ok (.aload_n 0, 1) := by decide +kernel
theorem dX9_edgeBelow_6 : decode cX9_edgeBelow 6 = .ok (.getfield 39, 3) := by decide +kernel
theorem dX9_edgeBelow_9 : decode cX9_edgeBelow 9 = .ok (.if_icmp .ge 27, 3) := by decide +kernel
theorem dX9_edgeBelow_12 : decode cX9_edgeBelow 12 = .ok (.iload_n 3, 1) := by decide +kernel
theorem dX9_edgeBelow_13 : decode cX9_edgeBelow 13 = .ok (.bipush 21, 2) := by decide +kernel
theorem dX9_edgeBelow_15 : decode cX9_edgeBelow 15 = .ok (.if_icmp .ge 21, 3) := by decide +kernel
theorem dX9_edgeBelow_18 : decode cX9_edgeBelow 18 = .ok (.aload_n 0, 1) := by decide +kernel
theorem dX9_edgeBelow_19 : decode cX9_edgeBelow 19 = .ok (.getfield 15, 3) := by decide +kernel
theorem dX9_edgeBelow_22 : decode cX9_edgeBelow 22 = .ok (.iload_n 3, 1) := by decide +kernel
theorem dX9_edgeBelow_23 : decode cX9_edgeBelow 23 = .ok (.iaload, 1) := by decide +kernel
theorem dX9_edgeBelow_24 : decode cX9_edgeBelow 24 = .ok (.iload_n 1, 1) := by decide +kernel
theorem dX9_edgeBelow_25 : decode cX9_edgeBelow 25 = .ok (.if_icmp .gt 5, 3) := by decide +kernel
theorem dX9_edgeBelow_28 : decode cX9_edgeBelow 28 = .ok (.iload_n 3, 1) := by decide +kernel
theorem dX9_edgeBelow_29 : decode cX9_edgeBelow 29 = .ok (.istore_n 2, 1) := by decide +kernel
theorem dX9_edgeBelow_30 : decode cX9_edgeBelow 30 = .ok (.iinc 3 1, 3) := by decide +kernel
theorem dX9_edgeBelow_33 : decode cX9_edgeBelow 33 = .ok (.goto (-29), 3) := by decide +kernel
theorem dX9_edgeBelow_36 : decode cX9_edgeBelow 36 = .ok (.iload_n 2, 1) := by decide +kernel
theorem dX9_edgeBelow_37 : decode cX9_edgeBelow 37 = .ok (.ireturn, 1) := by decide +kernel
theorem dX9_countWrong_0 : decode cX9_countWrong 0 = .ok (.iconst 0, 1) := by decide +kernel
theorem dX9_countWrong_1 : decode cX9_countWrong 1 = .ok (.istore_n 3, 1) := by decide +kernel
theorem dX9_countWrong_2 : decode cX9_countWrong 2 = .ok (.iload_n 3, 1) := by decide +kernel
theorem dX9_countWrong_3 : decode cX9_countWrong 3 = .ok (.aload_n 0, 1) := by decide +kernel
theorem dX9_countWrong_4 : decode cX9_countWrong 4 = .ok (.getfield 18, 3) := by decide +kernel
theorem dX9_countWrong_7 : decode cX9_countWrong 7 = .ok (.arraylength, 1) := by decide +kernel
theorem dX9_countWrong_8 : decode cX9_countWrong 8 = .ok (.if_icmp .ge 16, 3) := by decide +kernel
theorem dX9_countWrong_11 : decode cX9_countWrong 11 = .ok (.aload_n 0, 1) := by decide +kernel
theorem dX9_countWrong_12 : decode cX9_countWrong 12 = .ok (.getfield 18, 3) := by decide +kernel
theorem dX9_countWrong_15 : decode cX9_countWrong 15 = .ok (.iload_n 3, 1) := by decide +kernel
theorem dX9_countWrong_16 : decode cX9_countWrong 16 = .ok (.iconst 0, 1) := by decide +kernel
theorem dX9_countWrong_17 : decode cX9_countWrong 17 = .ok (.iastore, 1) := by decide +kernel
theorem dX9_countWrong_18 : decode cX9_countWrong 18 = .ok (.iinc 3 1, 3) := by decide +kernel
theorem dX9_countWrong_21 : decode cX9_countWrong 21 = .ok (.goto (-19), 3) := by decide +kernel
theorem dX9_countWrong_24 : decode cX9_countWrong 24 = .ok (.iconst 0, 1) := by decide +kernel
theorem dX9_countWrong_25 : decode cX9_countWrong 25 = .ok (.istore_n 3, 1) := by decide +kernel
theorem dX9_countWrong_26 : decode cX9_countWrong 26 = .ok (.iload_n 3, 1) := by decide +kernel
theorem dX9_countWrong_27 : decode cX9_countWrong 27 = .ok (.aload_n 1, 1) := by decide +kernel
theorem dX9_countWrong_28 : decode cX9_countWrong 28 = .ok (.getfield 43, 3) := by decide +kernel
theorem dX9_countWrong_31 : decode cX9_countWrong 31 = .ok (.if_icmp .ge 100, 3) := by decide +kernel
theorem dX9_countWrong_34 : decode cX9_countWrong 34 = .ok (.iload_n 3, 1) := by decide +kernel
theorem dX9_countWrong_35 : decode cX9_countWrong 35 = .ok (.bipush 20, 2) := by decide +kernel
theorem dX9_countWrong_37 : decode cX9_countWrong 37 = .ok (.if_icmp .ge 94, 3) := by decide +kernel
theorem dX9_countWrong_40 : decode cX9_countWrong 40 = .ok (.aload_n 0, 1) := by decide +kernel
theorem dX9_countWrong_41 : decode cX9_countWrong 41 = .ok (.aload_n 1, 1) := by decide +kernel
theorem dX9_countWrong_42 : decode cX9_countWrong 42 = .ok (.getfield 51, 3) := by decide +kernel
theorem dX9_countWrong_45 : decode cX9_countWrong 45 = .ok (.iload_n 3, 1) := by decide +kernel
theorem dX9_countWrong_46 : decode cX9_countWrong 46 = .ok (.iaload, 1) := by decide +kernel
theorem dX9_countWrong_47 : decode cX9_countWrong 47 = .ok (.invokevirtual 57, 3) := by decide +kernel
theorem dX9_countWrong_50 : decode cX9_countWrong 50 = .ok (.bipush 6, 2) := by decide +kernel
theorem dX9_countWrong_52 : decode cX9_countWrong 52 = .ok (.imul, 1) := by decide +kernel
theorem dX9_countWrong_53 : decode cX9_countWrong 53 = .ok (.istore 4, 2) := by decide +kernel
theorem dX9_countWrong_55 : decode cX9_countWrong 55 = .ok (.iconst 0, 1) := by decide +kernel
theorem dX9_countWrong_56 : decode cX9_countWrong 56 = .ok (.istore 5, 2) := by decide +kernel
theorem dX9_countWrong_58 : decode cX9_countWrong 58 = .ok (.iload 5, 2) := by decide +kernel
theorem dX9_countWrong_60 : decode cX9_countWrong 60 = .ok (.iload_n 2, 1) := by decide +kernel
theorem dX9_countWrong_61 : decode cX9_countWrong 61 = .ok (.if_icmp .ge 64, 3) := by decide +kernel
theorem dX9_countWrong_64 : decode cX9_countWrong 64 = .ok (.iload 5, 2) := by decide +kernel
theorem dX9_countWrong_66 : decode cX9_countWrong 66 = .ok (.bipush 6, 2) := by decide +kernel
theorem dX9_countWrong_68 : decode cX9_countWrong 68 = .ok (.if_icmp .ge 57, 3) := by decide +kernel
theorem dX9_countWrong_71 : decode cX9_countWrong 71 = .ok (.aload_n 1, 1) := by decide +kernel
theorem dX9_countWrong_72 : decode cX9_countWrong 72 = .ok (.getfield 48, 3) := by decide +kernel
theorem dX9_countWrong_75 : decode cX9_countWrong 75 = .ok (.iload_n 3, 1) := by decide +kernel
theorem dX9_countWrong_76 : decode cX9_countWrong 76 = .ok (.iaload, 1) := by decide +kernel
theorem dX9_countWrong_77 : decode cX9_countWrong 77 = .ok (.iconst (-1), 1) := by decide +kernel
theorem dX9_countWrong_78 : decode cX9_countWrong 78 = .ok (.if_icmp .eq 41, 3) := by decide +kernel
theorem dX9_countWrong_81 : decode cX9_countWrong 81 = .ok (.aload_n 1, 1) := by decide +kernel
theorem dX9_countWrong_82 : decode cX9_countWrong 82 = .ok (.getfield 48, 3) := by decide +kernel
theorem dX9_countWrong_85 : decode cX9_countWrong 85 = .ok (.iload_n 3, 1) := by decide +kernel
theorem dX9_countWrong_86 : decode cX9_countWrong 86 = .ok (.iaload, 1) := by decide +kernel
theorem dX9_countWrong_87 : decode cX9_countWrong 87 = .ok (.iload 5, 2) := by decide +kernel
theorem dX9_countWrong_89 : decode cX9_countWrong 89 = .ok (.if_icmp .eq 30, 3) := by decide +kernel
theorem dX9_countWrong_92 : decode cX9_countWrong 92 = .ok (.iload 4, 2) := by decide +kernel
theorem dX9_countWrong_94 : decode cX9_countWrong 94 = .ok (.iload 5, 2) := by decide +kernel
theorem dX9_countWrong_96 : decode cX9_countWrong 96 = .ok (.iadd, 1) := by decide +kernel
theorem dX9_countWrong_97 : decode cX9_countWrong 97 = .ok (.aload_n 0, 1) := by decide +kernel
theorem dX9_countWrong_98 : decode cX9_countWrong 98 = .ok (.getfield 18, 3) := by decide +kernel
theorem dX9_countWrong_101 : decode cX9_countWrong 101 = .ok (.arraylength, 1) := by decide +kernel
theorem dX9_countWrong_102 : decode cX9_countWrong 102 = .ok (.if_icmp .ge 17, 3) := by decide +kernel
theorem dX9_countWrong_105 : decode cX9_countWrong 105 = .ok (.aload_n 0, 1) := by decide +kernel
theorem dX9_countWrong_106 : decode cX9_countWrong 106 = .ok (.getfield 18, 3) := by decide +kernel
theorem dX9_countWrong_109 : decode cX9_countWrong 109 = .ok (.iload 4, 2) := by decide +kernel
theorem dX9_countWrong_111 : decode cX9_countWrong 111 = .ok (.iload 5, 2) := by decide +kernel
theorem dX9_countWrong_113 : decode cX9_countWrong 113 = .ok (.iadd, 1) := by decide +kernel
theorem dX9_countWrong_114 : decode cX9_countWrong 114 = .ok (.dup2, 1) := by decide +kernel
theorem dX9_countWrong_115 : decode cX9_countWrong 115 = .ok (.iaload, 1) := by decide +kernel
theorem dX9_countWrong_116 : decode cX9_countWrong 116 = .ok (.iconst 1, 1) := by decide +kernel
theorem dX9_countWrong_117 : decode cX9_countWrong 117 = .ok (.iadd, 1) := by decide +kernel
theorem dX9_countWrong_118 : decode cX9_countWrong 118 = .ok (.iastore, 1) := by decide +kernel
theorem dX9_countWrong_119 : decode cX9_countWrong 119 = .ok (.iinc 5 1, 3) := by decide +kernel
theorem dX9_countWrong_122 : decode cX9_countWrong 122 = .ok (.goto (-64), 3) := by decide +kernel
theorem dX9_countWrong_125 : decode cX9_countWrong 125 = .ok (.iinc 3 1, 3) := by decide +kernel
theorem dX9_countWrong_128 : decode cX9_countWrong 128 = .ok (.goto (-102), 3) := by decide +kernel
theorem dX9_countWrong_131 : decode cX9_countWrong 131 = .ok (.return_, 1) := by decide +kernel
theorem dX9_findLeast_0 : decode cX9_findLeast 0 = .ok (.iconst 0, 1) := by decide +kernel
theorem dX9_findLeast_1 : decode cX9_findLeast 1 = .ok (.istore_n 2, 1) := by decide +kernel
theorem dX9_findLeast_2 : decode cX9_findLeast 2 = .ok (.iload_n 2, 1) := by decide +kernel
theorem dX9_findLeast_3 : decode cX9_findLeast 3 = .ok (.iload_n 1, 1) := by decide +kernel
theorem dX9_findLeast_4 : decode cX9_findLeast 4 = .ok (.if_icmp .ge 38, 3) := by decide +kernel
theorem dX9_findLeast_7 : decode cX9_findLeast 7 = .ok (.iload_n 2, 1) := by decide +kernel
theorem dX9_findLeast_8 : decode cX9_findLeast 8 = .ok (.bipush 6, 2) := by decide +kernel
theorem dX9_findLeast_10 : decode cX9_findLeast 10 = .ok (.if_icmp .ge 32, 3) := by decide +kernel
theorem dX9_findLeast_13 : decode cX9_findLeast 13 = .ok (.aload_n 0, 1) := by decide +kernel
theorem dX9_findLeast_14 : decode cX9_findLeast 14 = .ok (.aload_n 0, 1) := by decide +kernel
theorem dX9_findLeast_15 : decode cX9_findLeast 15 = .ok (.getfield 39, 3) := by decide +kernel
theorem dX9_findLeast_18 : decode cX9_findLeast 18 = .ok (.iload_n 2, 1) := by decide +kernel
theorem dX9_findLeast_19 : decode cX9_findLeast 19 = .ok (.iload_n 2, 1) := by decide +kernel
theorem dX9_findLeast_20 : decode cX9_findLeast 20 = .ok (.iload_n 1, 1) := by decide +kernel
theorem dX9_findLeast_21 : decode cX9_findLeast 21 = .ok (.iconst 1, 1) := by decide +kernel
theorem dX9_findLeast_22 : decode cX9_findLeast 22 = .ok (.isub, 1) := by decide +kernel
theorem dX9_findLeast_23 : decode cX9_findLeast 23 = .ok (.if_icmp .ne 7, 3) := by decide +kernel
theorem dX9_findLeast_26 : decode cX9_findLeast 26 = .ok (.iconst 0, 1) := by decide +kernel
theorem dX9_findLeast_27 : decode cX9_findLeast 27 = .ok (.goto 6, 3) := by decide +kernel
theorem dX9_findLeast_30 : decode cX9_findLeast 30 = .ok (.sipush 1000, 3) := by decide +kernel
theorem dX9_findLeast_33 : decode cX9_findLeast 33 = .ok (.invokevirtual 61, 3) := by decide +kernel
theorem dX9_findLeast_36 : decode cX9_findLeast 36 = .ok (.iinc 2 1, 3) := by decide +kernel
theorem dX9_findLeast_39 : decode cX9_findLeast 39 = .ok (.goto (-37), 3) := by decide +kernel
theorem dX9_findLeast_42 : decode cX9_findLeast 42 = .ok (.aload_n 0, 1) := by decide +kernel
theorem dX9_findLeast_43 : decode cX9_findLeast 43 = .ok (.getfield 39, 3) := by decide +kernel
theorem dX9_findLeast_46 : decode cX9_findLeast 46 = .ok (.iconst 1, 1) := by decide +kernel
theorem dX9_findLeast_47 : decode cX9_findLeast 47 = .ok (.isub, 1) := by decide +kernel
theorem dX9_findLeast_48 : decode cX9_findLeast 48 = .ok (.istore_n 2, 1) := by decide +kernel
theorem dX9_findLeast_49 : decode cX9_findLeast 49 = .ok (.iload_n 2, 1) := by decide +kernel
theorem dX9_findLeast_50 : decode cX9_findLeast 50 = .ok (.ifCond .lt 64, 3) := by decide +kernel
theorem dX9_findLeast_53 : decode cX9_findLeast 53 = .ok (.iconst 0, 1) := by decide +kernel
theorem dX9_findLeast_54 : decode cX9_findLeast 54 = .ok (.istore_n 3, 1) := by decide +kernel
theorem dX9_findLeast_55 : decode cX9_findLeast 55 = .ok (.iload_n 3, 1) := by decide +kernel
theorem dX9_findLeast_56 : decode cX9_findLeast 56 = .ok (.iload_n 1, 1) := by decide +kernel
theorem dX9_findLeast_57 : decode cX9_findLeast 57 = .ok (.if_icmp .ge 51, 3) := by decide +kernel
theorem dX9_findLeast_60 : decode cX9_findLeast 60 = .ok (.sipush 1000, 3) := by decide +kernel
theorem dX9_findLeast_63 : decode cX9_findLeast 63 = .ok (.istore 4, 2) := by decide +kernel
theorem dX9_findLeast_65 : decode cX9_findLeast 65 = .ok (.iload_n 3, 1) := by decide +kernel
theorem dX9_findLeast_66 : decode cX9_findLeast 66 = .ok (.istore 5, 2) := by decide +kernel
theorem dX9_findLeast_68 : decode cX9_findLeast 68 = .ok (.iload 5, 2) := by decide +kernel
theorem dX9_findLeast_70 : decode cX9_findLeast 70 = .ok (.iload_n 1, 1) := by decide +kernel
theorem dX9_findLeast_71 : decode cX9_findLeast 71 = .ok (.if_icmp .ge 23, 3) := by decide +kernel
theorem dX9_findLeast_74 : decode cX9_findLeast 74 = .ok (.iload 4, 2) := by decide +kernel
theorem dX9_findLeast_76 : decode cX9_findLeast 76 = .ok (.aload_n 0, 1) := by decide +kernel
theorem dX9_findLeast_77 : decode cX9_findLeast 77 = .ok (.iload_n 2, 1) := by decide +kernel
theorem dX9_findLeast_78 : decode cX9_findLeast 78 = .ok (.iload 5, 2) := by decide +kernel
theorem dX9_findLeast_80 : decode cX9_findLeast 80 = .ok (.invokevirtual 65, 3) := by decide +kernel
theorem dX9_findLeast_83 : decode cX9_findLeast 83 = .ok (.invokestatic 69, 3) := by decide +kernel
theorem dX9_findLeast_86 : decode cX9_findLeast 86 = .ok (.istore 4, 2) := by decide +kernel
theorem dX9_findLeast_88 : decode cX9_findLeast 88 = .ok (.iinc 5 1, 3) := by decide +kernel
theorem dX9_findLeast_91 : decode cX9_findLeast 91 = .ok (.goto (-23), 3) := by decide +kernel
theorem dX9_findLeast_94 : decode cX9_findLeast 94 = .ok (.aload_n 0, 1) := by decide +kernel
theorem dX9_findLeast_95 : decode cX9_findLeast 95 = .ok (.iload_n 2, 1) := by decide +kernel
theorem dX9_findLeast_96 : decode cX9_findLeast 96 = .ok (.iload_n 3, 1) := by decide +kernel
theorem dX9_findLeast_97 : decode cX9_findLeast 97 = .ok (.iload 4, 2) := by decide +kernel
theorem dX9_findLeast_99 : decode cX9_findLeast 99 = .ok (.invokevirtual 61, 3) := by decide +kernel
theorem dX9_findLeast_102 : decode cX9_findLeast 102 = .ok (.iinc 3 1, 3) := by decide +kernel
theorem dX9_findLeast_105 : decode cX9_findLeast 105 = .ok (.goto (-50), 3) := by decide +kernel
theorem dX9_findLeast_108 : decode cX9_findLeast 108 = .ok (.iinc 2 (-1), 3) := by decide +kernel
theorem dX9_findLeast_111 : decode cX9_findLeast 111 = .ok (.goto (-62), 3) := by decide +kernel
theorem dX9_findLeast_114 : decode cX9_findLeast 114 = .ok (.return_, 1) := by decide +kernel
theorem dX9_wrongBy_0 : decode cX9_wrongBy 0 = .ok (.iload_n 1, 1) := by decide +kernel
theorem dX9_wrongBy_1 : decode cX9_wrongBy 1 = .ok (.bipush 6, 2) := by decide +kernel
theorem dX9_wrongBy_3 : decode cX9_wrongBy 3 = .ok (.imul, 1) := by decide +kernel
theorem dX9_wrongBy_4 : decode cX9_wrongBy 4 = .ok (.iload_n 2, 1) := by decide +kernel
theorem dX9_wrongBy_5 : decode cX9_wrongBy 5 = .ok (.iadd, 1) := by decide +kernel
theorem dX9_wrongBy_6 : decode cX9_wrongBy 6 = .ok (.istore_n 3, 1) := by decide +kernel
theorem dX9_wrongBy_7 : decode cX9_wrongBy 7 = .ok (.iload_n 3, 1) := by decide +kernel
theorem dX9_wrongBy_8 : decode cX9_wrongBy 8 = .ok (.bipush 6, 2) := by decide +kernel
theorem dX9_wrongBy_10 : decode cX9_wrongBy 10 = .ok (.iadd, 1) := by decide +kernel
theorem dX9_wrongBy_11 : decode cX9_wrongBy 11 = .ok (.istore 4, 2) := by decide +kernel
theorem dX9_wrongBy_13 : decode cX9_wrongBy 13 = .ok (.iload_n 3, 1) := by decide +kernel
theorem dX9_wrongBy_14 : decode cX9_wrongBy 14 = .ok (.ifCond .lt 22, 3) := by decide +kernel
theorem dX9_wrongBy_17 : decode cX9_wrongBy 17 = .ok (.iload_n 3, 1) := by decide +kernel
theorem dX9_wrongBy_18 : decode cX9_wrongBy 18 = .ok (.aload_n 0, 1) := by decide +kernel
theorem dX9_wrongBy_19 : decode cX9_wrongBy 19 = .ok (.getfield 18, 3) := by decide +kernel
theorem dX9_wrongBy_22 : decode cX9_wrongBy 22 = .ok (.arraylength, 1) := by decide +kernel
theorem dX9_wrongBy_23 : decode cX9_wrongBy 23 = .ok (.if_icmp .ge 13, 3) := by decide +kernel
theorem dX9_wrongBy_26 : decode cX9_wrongBy 26 = .ok (.iload 4, 2) := by decide +kernel
theorem dX9_wrongBy_28 : decode cX9_wrongBy 28 = .ok (.aload_n 0, 1) := by decide +kernel
theorem dX9_wrongBy_29 : decode cX9_wrongBy 29 = .ok (.getfield 21, 3) := by decide +kernel
theorem dX9_wrongBy_32 : decode cX9_wrongBy 32 = .ok (.arraylength, 1) := by decide +kernel
theorem dX9_wrongBy_33 : decode cX9_wrongBy 33 = .ok (.if_icmp .lt 7, 3) := by decide +kernel
theorem dX9_wrongBy_36 : decode cX9_wrongBy 36 = .ok (.sipush 1000, 3) := by decide +kernel
theorem dX9_wrongBy_39 : decode cX9_wrongBy 39 = .ok (.ireturn, 1) := by decide +kernel
theorem dX9_wrongBy_40 : decode cX9_wrongBy 40 = .ok (.aload_n 0, 1) := by decide +kernel
theorem dX9_wrongBy_41 : decode cX9_wrongBy 41 = .ok (.getfield 18, 3) := by decide +kernel
theorem dX9_wrongBy_44 : decode cX9_wrongBy 44 = .ok (.iload_n 3, 1) := by decide +kernel
theorem dX9_wrongBy_45 : decode cX9_wrongBy 45 = .ok (.iaload, 1) := by decide +kernel
theorem dX9_wrongBy_46 : decode cX9_wrongBy 46 = .ok (.aload_n 0, 1) := by decide +kernel
theorem dX9_wrongBy_47 : decode cX9_wrongBy 47 = .ok (.getfield 21, 3) := by decide +kernel
theorem dX9_wrongBy_50 : decode cX9_wrongBy 50 = .ok (.iload 4, 2) := by decide +kernel
theorem dX9_wrongBy_52 : decode cX9_wrongBy 52 = .ok (.iaload, 1) := by decide +kernel
theorem dX9_wrongBy_53 : decode cX9_wrongBy 53 = .ok (.iadd, 1) := by decide +kernel
theorem dX9_wrongBy_54 : decode cX9_wrongBy 54 = .ok (.sipush 1000, 3) := by decide +kernel
theorem dX9_wrongBy_57 : decode cX9_wrongBy 57 = .ok (.invokestatic 69, 3) := by decide +kernel
theorem dX9_wrongBy_60 : decode cX9_wrongBy 60 = .ok (.ireturn, 1) := by decide +kernel
theorem dX9_setLeast_0 : decode cX9_setLeast 0 = .ok (.iload_n 1, 1) := by decide +kernel
theorem dX9_setLeast_1 : decode cX9_setLeast 1 = .ok (.bipush 6, 2) := by decide +kernel
theorem dX9_setLeast_3 : decode cX9_setLeast 3 = .ok (.imul, 1) := by decide +kernel
theorem dX9_setLeast_4 : decode cX9_setLeast 4 = .ok (.iload_n 2, 1) := by decide +kernel
theorem dX9_setLeast_5 : decode cX9_setLeast 5 = .ok (.iadd, 1) := by decide +kernel
theorem dX9_setLeast_6 : decode cX9_setLeast 6 = .ok (.istore 4, 2) := by decide +kernel
theorem dX9_setLeast_8 : decode cX9_setLeast 8 = .ok (.iload 4, 2) := by decide +kernel
theorem dX9_setLeast_10 : decode cX9_setLeast 10 = .ok (.ifCond .lt 21, 3) := by decide +kernel
theorem dX9_setLeast_13 : decode cX9_setLeast 13 = .ok (.iload 4, 2) := by decide +kernel
theorem dX9_setLeast_15 : decode cX9_setLeast 15 = .ok (.aload_n 0, 1) := by decide +kernel
theorem dX9_setLeast_16 : decode cX9_setLeast 16 = .ok (.getfield 21, 3) := by decide +kernel
theorem dX9_setLeast_19 : decode cX9_setLeast 19 = .ok (.arraylength, 1) := by decide +kernel
theorem dX9_setLeast_20 : decode cX9_setLeast 20 = .ok (.if_icmp .ge 11, 3) := by decide +kernel
theorem dX9_setLeast_23 : decode cX9_setLeast 23 = .ok (.aload_n 0, 1) := by decide +kernel
theorem dX9_setLeast_24 : decode cX9_setLeast 24 = .ok (.getfield 21, 3) := by decide +kernel
theorem dX9_setLeast_27 : decode cX9_setLeast 27 = .ok (.iload 4, 2) := by decide +kernel
theorem dX9_setLeast_29 : decode cX9_setLeast 29 = .ok (.iload_n 3, 1) := by decide +kernel
theorem dX9_setLeast_30 : decode cX9_setLeast 30 = .ok (.iastore, 1) := by decide +kernel
theorem dX9_setLeast_31 : decode cX9_setLeast 31 = .ok (.return_, 1) := by decide +kernel
theorem dX9_placeCuts_0 : decode cX9_placeCuts 0 = .ok (.iconst 0, 1) := by decide +kernel
theorem dX9_placeCuts_1 : decode cX9_placeCuts 1 = .ok (.istore_n 2, 1) := by decide +kernel
theorem dX9_placeCuts_2 : decode cX9_placeCuts 2 = .ok (.iconst 0, 1) := by decide +kernel
theorem dX9_placeCuts_3 : decode cX9_placeCuts 3 = .ok (.istore_n 3, 1) := by decide +kernel
theorem dX9_placeCuts_4 : decode cX9_placeCuts 4 = .ok (.iload_n 3, 1) := by decide +kernel
theorem dX9_placeCuts_5 : decode cX9_placeCuts 5 = .ok (.aload_n 0, 1) := by decide +kernel
theorem dX9_placeCuts_6 : decode cX9_placeCuts 6 = .ok (.getfield 39, 3) := by decide +kernel
theorem dX9_placeCuts_9 : decode cX9_placeCuts 9 = .ok (.if_icmp .ge 65, 3) := by decide +kernel
theorem dX9_placeCuts_12 : decode cX9_placeCuts 12 = .ok (.iload_n 3, 1) := by decide +kernel
theorem dX9_placeCuts_13 : decode cX9_placeCuts 13 = .ok (.bipush 21, 2) := by decide +kernel
theorem dX9_placeCuts_15 : decode cX9_placeCuts 15 = .ok (.if_icmp .ge 59, 3) := by decide +kernel
theorem dX9_placeCuts_18 : decode cX9_placeCuts 18 = .ok (.aload_n 0, 1) := by decide +kernel
theorem dX9_placeCuts_19 : decode cX9_placeCuts 19 = .ok (.iload_n 3, 1) := by decide +kernel
theorem dX9_placeCuts_20 : decode cX9_placeCuts 20 = .ok (.iload_n 2, 1) := by decide +kernel
theorem dX9_placeCuts_21 : decode cX9_placeCuts 21 = .ok (.iload_n 1, 1) := by decide +kernel
theorem dX9_placeCuts_22 : decode cX9_placeCuts 22 = .ok (.invokevirtual 74, 3) := by decide +kernel
theorem dX9_placeCuts_25 : decode cX9_placeCuts 25 = .ok (.istore 4, 2) := by decide +kernel
theorem dX9_placeCuts_27 : decode cX9_placeCuts 27 = .ok (.iload_n 2, 1) := by decide +kernel
theorem dX9_placeCuts_28 : decode cX9_placeCuts 28 = .ok (.iconst 1, 1) := by decide +kernel
theorem dX9_placeCuts_29 : decode cX9_placeCuts 29 = .ok (.iadd, 1) := by decide +kernel
theorem dX9_placeCuts_30 : decode cX9_placeCuts 30 = .ok (.istore 5, 2) := by decide +kernel
theorem dX9_placeCuts_32 : decode cX9_placeCuts 32 = .ok (.iload 5, 2) := by decide +kernel
theorem dX9_placeCuts_34 : decode cX9_placeCuts 34 = .ok (.iload 4, 2) := by decide +kernel
theorem dX9_placeCuts_36 : decode cX9_placeCuts 36 = .ok (.if_icmp .gt 29, 3) := by decide +kernel
theorem dX9_placeCuts_39 : decode cX9_placeCuts 39 = .ok (.iload 5, 2) := by decide +kernel
theorem dX9_placeCuts_41 : decode cX9_placeCuts 41 = .ok (.bipush 6, 2) := by decide +kernel
theorem dX9_placeCuts_43 : decode cX9_placeCuts 43 = .ok (.if_icmp .ge 22, 3) := by decide +kernel
theorem dX9_placeCuts_46 : decode cX9_placeCuts 46 = .ok (.aload_n 0, 1) := by decide +kernel
theorem dX9_placeCuts_47 : decode cX9_placeCuts 47 = .ok (.getfield 9, 3) := by decide +kernel
theorem dX9_placeCuts_50 : decode cX9_placeCuts 50 = .ok (.iload 5, 2) := by decide +kernel
theorem dX9_placeCuts_52 : decode cX9_placeCuts 52 = .ok (.aload_n 0, 1) := by decide +kernel
theorem dX9_placeCuts_53 : decode cX9_placeCuts 53 = .ok (.getfield 15, 3) := by decide +kernel
theorem dX9_placeCuts_56 : decode cX9_placeCuts 56 = .ok (.iload_n 3, 1) := by decide +kernel
theorem dX9_placeCuts_57 : decode cX9_placeCuts 57 = .ok (.iaload, 1) := by decide +kernel
theorem dX9_placeCuts_58 : decode cX9_placeCuts 58 = .ok (.iastore, 1) := by decide +kernel
theorem dX9_placeCuts_59 : decode cX9_placeCuts 59 = .ok (.iinc 5 1, 3) := by decide +kernel
theorem dX9_placeCuts_62 : decode cX9_placeCuts 62 = .ok (.goto (-30), 3) := by decide +kernel
theorem dX9_placeCuts_65 : decode cX9_placeCuts 65 = .ok (.iload 4, 2) := by decide +kernel
theorem dX9_placeCuts_67 : decode cX9_placeCuts 67 = .ok (.istore_n 2, 1) := by decide +kernel
theorem dX9_placeCuts_68 : decode cX9_placeCuts 68 = .ok (.iinc 3 1, 3) := by decide +kernel
theorem dX9_placeCuts_71 : decode cX9_placeCuts 71 = .ok (.goto (-67), 3) := by decide +kernel
theorem dX9_placeCuts_74 : decode cX9_placeCuts 74 = .ok (.return_, 1) := by decide +kernel
theorem dX9_mostCuts_0 : decode cX9_mostCuts 0 = .ok (.iload_n 2, 1) := by decide +kernel
theorem dX9_mostCuts_1 : decode cX9_mostCuts 1 = .ok (.istore 4, 2) := by decide +kernel
theorem dX9_mostCuts_3 : decode cX9_mostCuts 3 = .ok (.iload_n 2, 1) := by decide +kernel
theorem dX9_mostCuts_4 : decode cX9_mostCuts 4 = .ok (.iconst 1, 1) := by decide +kernel
theorem dX9_mostCuts_5 : decode cX9_mostCuts 5 = .ok (.iadd, 1) := by decide +kernel
theorem dX9_mostCuts_6 : decode cX9_mostCuts 6 = .ok (.istore 5, 2) := by decide +kernel
theorem dX9_mostCuts_8 : decode cX9_mostCuts 8 = .ok (.iload 5, 2) := by decide +kernel
theorem dX9_mostCuts_10 : decode cX9_mostCuts 10 = .ok (.iload_n 3, 1) := by decide +kernel
theorem dX9_mostCuts_11 : decode cX9_mostCuts 11 = .ok (.if_icmp .ge 30, 3) := by decide +kernel
theorem dX9_mostCuts_14 : decode cX9_mostCuts 14 = .ok (.aload_n 0, 1) := by decide +kernel
theorem dX9_mostCuts_15 : decode cX9_mostCuts 15 = .ok (.iload_n 1, 1) := by decide +kernel
theorem dX9_mostCuts_16 : decode cX9_mostCuts 16 = .ok (.iload 5, 2) := by decide +kernel
theorem dX9_mostCuts_18 : decode cX9_mostCuts 18 = .ok (.invokevirtual 65, 3) := by decide +kernel
theorem dX9_mostCuts_21 : decode cX9_mostCuts 21 = .ok (.aload_n 0, 1) := by decide +kernel
theorem dX9_mostCuts_22 : decode cX9_mostCuts 22 = .ok (.iload_n 1, 1) := by decide +kernel
theorem dX9_mostCuts_23 : decode cX9_mostCuts 23 = .ok (.iload 4, 2) := by decide +kernel
theorem dX9_mostCuts_25 : decode cX9_mostCuts 25 = .ok (.invokevirtual 65, 3) := by decide +kernel
theorem dX9_mostCuts_28 : decode cX9_mostCuts 28 = .ok (.if_icmp .gt 7, 3) := by decide +kernel
theorem dX9_mostCuts_31 : decode cX9_mostCuts 31 = .ok (.iload 5, 2) := by decide +kernel
theorem dX9_mostCuts_33 : decode cX9_mostCuts 33 = .ok (.istore 4, 2) := by decide +kernel
theorem dX9_mostCuts_35 : decode cX9_mostCuts 35 = .ok (.iinc 5 1, 3) := by decide +kernel
theorem dX9_mostCuts_38 : decode cX9_mostCuts 38 = .ok (.goto (-30), 3) := by decide +kernel
theorem dX9_mostCuts_41 : decode cX9_mostCuts 41 = .ok (.iload 4, 2) := by decide +kernel
theorem dX9_mostCuts_43 : decode cX9_mostCuts 43 = .ok (.ireturn, 1) := by decide +kernel
theorem dX1_init_0 : decode cX1_init 0 = .ok (.aload_n 0, 1) := by decide +kernel
theorem dX1_init_1 : decode cX1_init 1 = .ok (.invokespecial 3, 3) := by decide +kernel
theorem dX1_init_4 : decode cX1_init 4 = .ok (.aload_n 0, 1) := by decide +kernel
theorem dX1_init_5 : decode cX1_init 5 = .ok (.new 9, 3) := by decide +kernel
theorem dX1_init_8 : decode cX1_init 8 = .ok (.dup, 1) := by decide +kernel
theorem dX1_init_9 : decode cX1_init 9 = .ok (.invokespecial 11, 3) := by decide +kernel
theorem dX1_init_12 : decode cX1_init 12 = .ok (.putfield 12, 3) := by decide +kernel
theorem dX1_init_15 : decode cX1_init 15 = .ok (.aload_n 0, 1) := by decide +kernel
theorem dX1_init_16 : decode cX1_init 16 = .ok (.new 18, 3) := by decide +kernel
theorem dX1_init_19 : decode cX1_init 19 = .ok (.dup, 1) := by decide +kernel
theorem dX1_init_20 : decode cX1_init 20 = .ok (.invokespecial 20, 3) := by decide +kernel
theorem dX1_init_23 : decode cX1_init 23 = .ok (.putfield 21, 3) := by decide +kernel
theorem dX1_init_26 : decode cX1_init 26 = .ok (.return_, 1) := by decide +kernel
theorem dX1_parse_0 : decode cX1_parse 0 = .ok (.aload_n 0, 1) := by decide +kernel
theorem dX1_parse_1 : decode cX1_parse 1 = .ok (.getfield 21, 3) := by decide +kernel
theorem dX1_parse_4 : decode cX1_parse 4 = .ok (.aload_n 1, 1) := by decide +kernel
theorem dX1_parse_5 : decode cX1_parse 5 = .ok (.invokevirtual 25, 3) := by decide +kernel
theorem dX1_parse_8 : decode cX1_parse 8 = .ok (.aload_n 0, 1) := by decide +kernel
theorem dX1_parse_9 : decode cX1_parse 9 = .ok (.getfield 12, 3) := by decide +kernel
theorem dX1_parse_12 : decode cX1_parse 12 = .ok (.invokevirtual 29, 3) := by decide +kernel
theorem dX1_parse_15 : decode cX1_parse 15 = .ok (.aload_n 0, 1) := by decide +kernel
theorem dX1_parse_16 : decode cX1_parse 16 = .ok (.iconst 1, 1) := by decide +kernel
theorem dX1_parse_17 : decode cX1_parse 17 = .ok (.putfield 32, 3) := by decide +kernel
theorem dX1_parse_20 : decode cX1_parse 20 = .ok (.aload_n 0, 1) := by decide +kernel
theorem dX1_parse_21 : decode cX1_parse 21 = .ok (.iconst 0, 1) := by decide +kernel
theorem dX1_parse_22 : decode cX1_parse 22 = .ok (.putfield 36, 3) := by decide +kernel
theorem dX1_parse_25 : decode cX1_parse 25 = .ok (.aload_n 0, 1) := by decide +kernel
theorem dX1_parse_26 : decode cX1_parse 26 = .ok (.iconst (-1), 1) := by decide +kernel
theorem dX1_parse_27 : decode cX1_parse 27 = .ok (.putfield 40, 3) := by decide +kernel
theorem dX1_parse_30 : decode cX1_parse 30 = .ok (.iconst 0, 1) := by decide +kernel
theorem dX1_parse_31 : decode cX1_parse 31 = .ok (.istore_n 2, 1) := by decide +kernel
theorem dX1_parse_32 : decode cX1_parse 32 = .ok (.iload_n 2, 1) := by decide +kernel
theorem dX1_parse_33 : decode cX1_parse 33 = .ok (.bipush 20, 2) := by decide +kernel
theorem dX1_parse_35 : decode cX1_parse 35 = .ok (.if_icmp .gt 28, 3) := by decide +kernel
theorem dX1_parse_38 : decode cX1_parse 38 = .ok (.aload_n 0, 1) := by decide +kernel
theorem dX1_parse_39 : decode cX1_parse 39 = .ok (.getfield 21, 3) := by decide +kernel
theorem dX1_parse_42 : decode cX1_parse 42 = .ok (.getfield 43, 3) := by decide +kernel
theorem dX1_parse_45 : decode cX1_parse 45 = .ok (.ifCond .eq 18, 3) := by decide +kernel
theorem dX1_parse_48 : decode cX1_parse 48 = .ok (.aload_n 0, 1) := by decide +kernel
theorem dX1_parse_49 : decode cX1_parse 49 = .ok (.invokevirtual 46, 3) := by decide +kernel
theorem dX1_parse_52 : decode cX1_parse 52 = .ok (.ifCond .ne 5, 3) := by decide +kernel
theorem dX1_parse_55 : decode cX1_parse 55 = .ok (.iconst 0, 1) := by decide +kernel
theorem dX1_parse_56 : decode cX1_parse 56 = .ok (.ireturn, 1) := by decide +kernel
theorem dX1_parse_57 : decode cX1_parse 57 = .ok (.iinc 2 1, 3) := by decide +kernel
theorem dX1_parse_60 : decode cX1_parse 60 = .ok (.goto (-28), 3) := by decide +kernel
theorem dX1_parse_63 : decode cX1_parse 63 = .ok (.iconst 1, 1) := by decide +kernel
theorem dX1_parse_64 : decode cX1_parse 64 = .ok (.ireturn, 1) := by decide +kernel
theorem dX1_refuse_0 : decode cX1_refuse 0 = .ok (.aload_n 0, 1) := by decide +kernel
theorem dX1_refuse_1 : decode cX1_refuse 1 = .ok (.iload_n 1, 1) := by decide +kernel
theorem dX1_refuse_2 : decode cX1_refuse 2 = .ok (.putfield 36, 3) := by decide +kernel
theorem dX1_refuse_5 : decode cX1_refuse 5 = .ok (.aload_n 0, 1) := by decide +kernel
theorem dX1_refuse_6 : decode cX1_refuse 6 = .ok (.aload_n 0, 1) := by decide +kernel
theorem dX1_refuse_7 : decode cX1_refuse 7 = .ok (.getfield 21, 3) := by decide +kernel
theorem dX1_refuse_10 : decode cX1_refuse 10 = .ok (.getfield 50, 3) := by decide +kernel
theorem dX1_refuse_13 : decode cX1_refuse 13 = .ok (.putfield 40, 3) := by decide +kernel
theorem dX1_refuse_16 : decode cX1_refuse 16 = .ok (.iconst 0, 1) := by decide +kernel
theorem dX1_refuse_17 : decode cX1_refuse 17 = .ok (.ireturn, 1) := by decide +kernel
theorem dX1_pass_0 : decode cX1_pass 0 = .ok (.aload_n 0, 1) := by decide +kernel
theorem dX1_pass_1 : decode cX1_pass 1 = .ok (.getfield 21, 3) := by decide +kernel
theorem dX1_pass_4 : decode cX1_pass 4 = .ok (.getfield 43, 3) := by decide +kernel
theorem dX1_pass_7 : decode cX1_pass 7 = .ok (.iload_n 1, 1) := by decide +kernel
theorem dX1_pass_8 : decode cX1_pass 8 = .ok (.if_icmp .eq 9, 3) := by decide +kernel
theorem dX1_pass_11 : decode cX1_pass 11 = .ok (.aload_n 0, 1) := by decide +kernel
theorem dX1_pass_12 : decode cX1_pass 12 = .ok (.iconst 1, 1) := by decide +kernel
theorem dX1_pass_13 : decode cX1_pass 13 = .ok (.invokevirtual 51, 3) := by decide +kernel
theorem dX1_pass_16 : decode cX1_pass 16 = .ok (.ireturn, 1) := by decide +kernel
theorem dX1_pass_17 : decode cX1_pass 17 = .ok (.aload_n 0, 1) := by decide +kernel
theorem dX1_pass_18 : decode cX1_pass 18 = .ok (.getfield 21, 3) := by decide +kernel
theorem dX1_pass_21 : decode cX1_pass 21 = .ok (.invokevirtual 55, 3) := by decide +kernel
theorem dX1_pass_24 : decode cX1_pass 24 = .ok (.iconst 1, 1) := by decide +kernel
theorem dX1_pass_25 : decode cX1_pass 25 = .ok (.ireturn, 1) := by decide +kernel
theorem dX1_number_0 : decode cX1_number 0 = .ok (.aload_n 0, 1) := by decide +kernel
theorem dX1_number_1 : decode cX1_number 1 = .ok (.getfield 21, 3) := by decide +kernel
theorem dX1_number_4 : decode cX1_number 4 = .ok (.getfield 43, 3) := by decide +kernel
theorem dX1_number_7 : decode cX1_number 7 = .ok (.iconst 2, 1) := by decide +kernel
theorem dX1_number_8 : decode cX1_number 8 = .ok (.if_icmp .eq 9, 3) := by decide +kernel
theorem dX1_number_11 : decode cX1_number 11 = .ok (.aload_n 0, 1) := by decide +kernel
theorem dX1_number_12 : decode cX1_number 12 = .ok (.iconst 1, 1) := by decide +kernel
theorem dX1_number_13 : decode cX1_number 13 = .ok (.invokevirtual 51, 3) := by decide +kernel
theorem dX1_number_16 : decode cX1_number 16 = .ok (.ireturn, 1) := by decide +kernel
theorem dX1_number_17 : decode cX1_number 17 = .ok (.aload_n 0, 1) := by decide +kernel
theorem dX1_number_18 : decode cX1_number 18 = .ok (.getfield 21, 3) := by decide +kernel
theorem dX1_number_21 : decode cX1_number 21 = .ok (.getfield 58, 3) := by decide +kernel
theorem dX1_number_24 : decode cX1_number 24 = .ok (.iload_n 1, 1) := by decide +kernel
theorem dX1_number_25 : decode cX1_number 25 = .ok (.if_icmp .le 9, 3) := by decide +kernel
theorem dX1_number_28 : decode cX1_number 28 = .ok (.aload_n 0, 1) := by decide +kernel
theorem dX1_number_29 : decode cX1_number 29 = .ok (.iconst 2, 1) := by decide +kernel
theorem dX1_number_30 : decode cX1_number 30 = .ok (.invokevirtual 51, 3) := by decide +kernel
theorem dX1_number_33 : decode cX1_number 33 = .ok (.ireturn, 1) := by decide +kernel
theorem dX1_number_34 : decode cX1_number 34 = .ok (.aload_n 0, 1) := by decide +kernel
theorem dX1_number_35 : decode cX1_number 35 = .ok (.getfield 21, 3) := by decide +kernel
theorem dX1_number_38 : decode cX1_number 38 = .ok (.invokevirtual 55, 3) := by decide +kernel
theorem dX1_number_41 : decode cX1_number 41 = .ok (.iconst 1, 1) := by decide +kernel
theorem dX1_number_42 : decode cX1_number 42 = .ok (.ireturn, 1) := by decide +kernel
theorem dX1_clause_0 : decode cX1_clause 0 = .ok (.aload_n 0, 1) := by decide +kernel
theorem dX1_clause_1 : decode cX1_clause 1 = .ok (.getfield 21, 3) := by decide +kernel
theorem dX1_clause_4 : decode cX1_clause 4 = .ok (.getfield 43, 3) := by decide +kernel
theorem dX1_clause_7 : decode cX1_clause 7 = .ok (.istore_n 1, 1) := by decide +kernel
theorem dX1_clause_8 : decode cX1_clause 8 = .ok (.iload_n 1, 1) := by decide +kernel
theorem dX1_clause_9 : decode cX1_clause 9 = .ok (.iconst 4, 1) := by decide +kernel
theorem dX1_clause_10 : decode cX1_clause 10 = .ok (.bipush 8, 2) := by decide +kernel
theorem dX1_clause_12 : decode cX1_clause 12 = .ok (.invokestatic 61, 3) := by decide +kernel
theorem dX1_clause_15 : decode cX1_clause 15 = .ok (.ifCond .ne 9, 3) := by decide +kernel
theorem dX1_clause_18 : decode cX1_clause 18 = .ok (.aload_n 0, 1) := by decide +kernel
theorem dX1_clause_19 : decode cX1_clause 19 = .ok (.iconst 1, 1) := by decide +kernel
theorem dX1_clause_20 : decode cX1_clause 20 = .ok (.invokevirtual 51, 3) := by decide +kernel
theorem dX1_clause_23 : decode cX1_clause 23 = .ok (.ireturn, 1) := by decide +kernel
theorem dX1_clause_24 : decode cX1_clause 24 = .ok (.iload_n 1, 1) := by decide +kernel
theorem dX1_clause_25 : decode cX1_clause 25 = .ok (.iconst 4, 1) := by decide +kernel
theorem dX1_clause_26 : decode cX1_clause 26 = .ok (.if_icmp .ne 13, 3) := by decide +kernel
theorem dX1_clause_29 : decode cX1_clause 29 = .ok (.aload_n 0, 1) := by decide +kernel
theorem dX1_clause_30 : decode cX1_clause 30 = .ok (.getfield 12, 3) := by decide +kernel
theorem dX1_clause_33 : decode cX1_clause 33 = .ok (.invokevirtual 65, 3) := by decide +kernel
theorem dX1_clause_36 : decode cX1_clause 36 = .ok (.ifCond .ne 18, 3) := by decide +kernel
theorem dX1_clause_39 : decode cX1_clause 39 = .ok (.iload_n 1, 1) := by decide +kernel
theorem dX1_clause_40 : decode cX1_clause 40 = .ok (.iconst 5, 1) := by decide +kernel
theorem dX1_clause_41 : decode cX1_clause 41 = .ok (.if_icmp .ne 19, 3) := by decide +kernel
theorem dX1_clause_44 : decode cX1_clause 44 = .ok (.aload_n 0, 1) := by decide +kernel
theorem dX1_clause_45 : decode cX1_clause 45 = .ok (.getfield 12, 3) := by decide +kernel
theorem dX1_clause_48 : decode cX1_clause 48 = .ok (.invokevirtual 68, 3) := by decide +kernel
theorem dX1_clause_51 : decode cX1_clause 51 = .ok (.ifCond .eq 9, 3) := by decide +kernel
theorem dX1_clause_54 : decode cX1_clause 54 = .ok (.aload_n 0, 1) := by decide +kernel
theorem dX1_clause_55 : decode cX1_clause 55 = .ok (.iconst 4, 1) := by decide +kernel
theorem dX1_clause_56 : decode cX1_clause 56 = .ok (.invokevirtual 51, 3) := by decide +kernel
theorem dX1_clause_59 : decode cX1_clause 59 = .ok (.ireturn, 1) := by decide +kernel
theorem dX1_clause_60 : decode cX1_clause 60 = .ok (.aload_n 0, 1) := by decide +kernel
theorem dX1_clause_61 : decode cX1_clause 61 = .ok (.getfield 12, 3) := by decide +kernel
theorem dX1_clause_64 : decode cX1_clause 64 = .ok (.getfield 71, 3) := by decide +kernel
theorem dX1_clause_67 : decode cX1_clause 67 = .ok (.bipush 20, 2) := by decide +kernel
theorem dX1_clause_69 : decode cX1_clause 69 = .ok (.if_icmp .lt 9, 3) := by decide +kernel
theorem dX1_clause_72 : decode cX1_clause 72 = .ok (.aload_n 0, 1) := by decide +kernel
theorem dX1_clause_73 : decode cX1_clause 73 = .ok (.iconst 5, 1) := by decide +kernel
theorem dX1_clause_74 : decode cX1_clause 74 = .ok (.invokevirtual 51, 3) := by decide +kernel
theorem dX1_clause_77 : decode cX1_clause 77 = .ok (.ireturn, 1) := by decide +kernel
theorem dX1_clause_78 : decode cX1_clause 78 = .ok (.aload_n 0, 1) := by decide +kernel
theorem dX1_clause_79 : decode cX1_clause 79 = .ok (.getfield 21, 3) := by decide +kernel
theorem dX1_clause_82 : decode cX1_clause 82 = .ok (.invokevirtual 55, 3) := by decide +kernel
theorem dX1_clause_85 : decode cX1_clause 85 = .ok (.iload_n 1, 1) := by decide +kernel
theorem dX1_clause_86 : decode cX1_clause 86 = .ok (.iconst 4, 1) := by decide +kernel
theorem dX1_clause_87 : decode cX1_clause 87 = .ok (.if_icmp .eq 8, 3) := by decide +kernel
theorem dX1_clause_90 : decode cX1_clause 90 = .ok (.iload_n 1, 1) := by decide +kernel
theorem dX1_clause_91 : decode cX1_clause 91 = .ok (.iconst 5, 1) := by decide +kernel
theorem dX1_clause_92 : decode cX1_clause 92 = .ok (.if_icmp .ne 11, 3) := by decide +kernel
theorem dX1_clause_95 : decode cX1_clause 95 = .ok (.aload_n 0, 1) := by decide +kernel
theorem dX1_clause_96 : decode cX1_clause 96 = .ok (.iload_n 1, 1) := by decide +kernel
theorem dX1_clause_97 : decode cX1_clause 97 = .ok (.invokevirtual 74, 3) := by decide +kernel
theorem dX1_clause_100 : decode cX1_clause 100 = .ok (.goto 8, 3) := by decide +kernel
theorem dX1_clause_103 : decode cX1_clause 103 = .ok (.aload_n 0, 1) := by decide +kernel
theorem dX1_clause_104 : decode cX1_clause 104 = .ok (.iload_n 1, 1) := by decide +kernel
theorem dX1_clause_105 : decode cX1_clause 105 = .ok (.invokevirtual 77, 3) := by decide +kernel
theorem dX1_clause_108 : decode cX1_clause 108 = .ok (.istore_n 2, 1) := by decide +kernel
theorem dX1_clause_109 : decode cX1_clause 109 = .ok (.iload_n 2, 1) := by decide +kernel
theorem dX1_clause_110 : decode cX1_clause 110 = .ok (.ifCond .eq 16, 3) := by decide +kernel
theorem dX1_clause_113 : decode cX1_clause 113 = .ok (.aload_n 0, 1) := by decide +kernel
theorem dX1_clause_114 : decode cX1_clause 114 = .ok (.bipush 32, 2) := by decide +kernel
theorem dX1_clause_116 : decode cX1_clause 116 = .ok (.invokevirtual 80, 3) := by decide +kernel
theorem dX1_clause_119 : decode cX1_clause 119 = .ok (.ifCond .eq 7, 3) := by decide +kernel
theorem dX1_clause_122 : decode cX1_clause 122 = .ok (.iconst 1, 1) := by decide +kernel
theorem dX1_clause_123 : decode cX1_clause 123 = .ok (.goto 4, 3) := by decide +kernel
theorem dX1_clause_126 : decode cX1_clause 126 = .ok (.iconst 0, 1) := by decide +kernel
theorem dX1_clause_127 : decode cX1_clause 127 = .ok (.ireturn, 1) := by decide +kernel
theorem dX1_law_0 : decode cX1_law 0 = .ok (.aload_n 0, 1) := by decide +kernel
theorem dX1_law_1 : decode cX1_law 1 = .ok (.getfield 12, 3) := by decide +kernel
theorem dX1_law_4 : decode cX1_law 4 = .ok (.getfield 83, 3) := by decide +kernel
theorem dX1_law_7 : decode cX1_law 7 = .ok (.istore_n 2, 1) := by decide +kernel
theorem dX1_law_8 : decode cX1_law 8 = .ok (.aload_n 0, 1) := by decide +kernel
theorem dX1_law_9 : decode cX1_law 9 = .ok (.iload_n 1, 1) := by decide +kernel
theorem dX1_law_10 : decode cX1_law 10 = .ok (.iconst 4, 1) := by decide +kernel
theorem dX1_law_11 : decode cX1_law 11 = .ok (.if_icmp .ne 7, 3) := by decide +kernel
theorem dX1_law_14 : decode cX1_law 14 = .ok (.iconst 0, 1) := by decide +kernel
theorem dX1_law_15 : decode cX1_law 15 = .ok (.goto 4, 3) := by decide +kernel
theorem dX1_law_18 : decode cX1_law 18 = .ok (.iconst 3, 1) := by decide +kernel
theorem dX1_law_19 : decode cX1_law 19 = .ok (.iconst 0, 1) := by decide +kernel
theorem dX1_law_20 : decode cX1_law 20 = .ok (.invokevirtual 86, 3) := by decide +kernel
theorem dX1_law_23 : decode cX1_law 23 = .ok (.ifCond .ne 5, 3) := by decide +kernel
theorem dX1_law_26 : decode cX1_law 26 = .ok (.iconst 0, 1) := by decide +kernel
theorem dX1_law_27 : decode cX1_law 27 = .ok (.ireturn, 1) := by decide +kernel
theorem dX1_law_28 : decode cX1_law 28 = .ok (.aload_n 0, 1) := by decide +kernel
theorem dX1_law_29 : decode cX1_law 29 = .ok (.getfield 12, 3) := by decide +kernel
theorem dX1_law_32 : decode cX1_law 32 = .ok (.iload_n 1, 1) := by decide +kernel
theorem dX1_law_33 : decode cX1_law 33 = .ok (.iload_n 2, 1) := by decide +kernel
theorem dX1_law_34 : decode cX1_law 34 = .ok (.invokevirtual 90, 3) := by decide +kernel
theorem dX1_law_37 : decode cX1_law 37 = .ok (.iconst 1, 1) := by decide +kernel
theorem dX1_law_38 : decode cX1_law 38 = .ok (.ireturn, 1) := by decide +kernel
theorem dX1_deed_0 : decode cX1_deed 0 = .ok (.aload_n 0, 1) := by decide +kernel
theorem dX1_deed_1 : decode cX1_deed 1 = .ok (.getfield 21, 3) := by decide +kernel
theorem dX1_deed_4 : decode cX1_deed 4 = .ok (.getfield 58, 3) := by decide +kernel
theorem dX1_deed_7 : decode cX1_deed 7 = .ok (.istore_n 2, 1) := by decide +kernel
theorem dX1_deed_8 : decode cX1_deed 8 = .ok (.aload_n 0, 1) := by decide +kernel
theorem dX1_deed_9 : decode cX1_deed 9 = .ok (.iload_n 1, 1) := by decide +kernel
theorem dX1_deed_10 : decode cX1_deed 10 = .ok (.bipush 8, 2) := by decide +kernel
theorem dX1_deed_12 : decode cX1_deed 12 = .ok (.if_icmp .ne 8, 3) := by decide +kernel
theorem dX1_deed_15 : decode cX1_deed 15 = .ok (.bipush 99, 2) := by decide +kernel
theorem dX1_deed_17 : decode cX1_deed 17 = .ok (.goto 5, 3) := by decide +kernel
theorem dX1_deed_20 : decode cX1_deed 20 = .ok (.bipush 19, 2) := by decide +kernel
theorem dX1_deed_22 : decode cX1_deed 22 = .ok (.invokevirtual 94, 3) := by decide +kernel
theorem dX1_deed_25 : decode cX1_deed 25 = .ok (.ifCond .ne 5, 3) := by decide +kernel
theorem dX1_deed_28 : decode cX1_deed 28 = .ok (.iconst 0, 1) := by decide +kernel
theorem dX1_deed_29 : decode cX1_deed 29 = .ok (.ireturn, 1) := by decide +kernel
theorem dX1_deed_30 : decode cX1_deed 30 = .ok (.iload_n 1, 1) := by decide +kernel
theorem dX1_deed_31 : decode cX1_deed 31 = .ok (.bipush 6, 2) := by decide +kernel
theorem dX1_deed_33 : decode cX1_deed 33 = .ok (.if_icmp .eq 15, 3) := by decide +kernel
theorem dX1_deed_36 : decode cX1_deed 36 = .ok (.aload_n 0, 1) := by decide +kernel
theorem dX1_deed_37 : decode cX1_deed 37 = .ok (.getfield 12, 3) := by decide +kernel
theorem dX1_deed_40 : decode cX1_deed 40 = .ok (.iload_n 1, 1) := by decide +kernel
theorem dX1_deed_41 : decode cX1_deed 41 = .ok (.iload_n 2, 1) := by decide +kernel
theorem dX1_deed_42 : decode cX1_deed 42 = .ok (.iconst 0, 1) := by decide +kernel
theorem dX1_deed_43 : decode cX1_deed 43 = .ok (.invokevirtual 97, 3) := by decide +kernel
theorem dX1_deed_46 : decode cX1_deed 46 = .ok (.iconst 1, 1) := by decide +kernel
theorem dX1_deed_47 : decode cX1_deed 47 = .ok (.ireturn, 1) := by decide +kernel
theorem dX1_deed_48 : decode cX1_deed 48 = .ok (.aload_n 0, 1) := by decide +kernel
theorem dX1_deed_49 : decode cX1_deed 49 = .ok (.bipush 9, 2) := by decide +kernel
theorem dX1_deed_51 : decode cX1_deed 51 = .ok (.invokevirtual 80, 3) := by decide +kernel
theorem dX1_deed_54 : decode cX1_deed 54 = .ok (.ifCond .ne 5, 3) := by decide +kernel
theorem dX1_deed_57 : decode cX1_deed 57 = .ok (.iconst 0, 1) := by decide +kernel
theorem dX1_deed_58 : decode cX1_deed 58 = .ok (.ireturn, 1) := by decide +kernel
theorem dX1_deed_59 : decode cX1_deed 59 = .ok (.aload_n 0, 1) := by decide +kernel
theorem dX1_deed_60 : decode cX1_deed 60 = .ok (.getfield 21, 3) := by decide +kernel
theorem dX1_deed_63 : decode cX1_deed 63 = .ok (.getfield 58, 3) := by decide +kernel
theorem dX1_deed_66 : decode cX1_deed 66 = .ok (.istore_n 3, 1) := by decide +kernel
theorem dX1_deed_67 : decode cX1_deed 67 = .ok (.aload_n 0, 1) := by decide +kernel
theorem dX1_deed_68 : decode cX1_deed 68 = .ok (.bipush 9, 2) := by decide +kernel
theorem dX1_deed_70 : decode cX1_deed 70 = .ok (.invokevirtual 94, 3) := by decide +kernel
theorem dX1_deed_73 : decode cX1_deed 73 = .ok (.ifCond .ne 5, 3) := by decide +kernel
theorem dX1_deed_76 : decode cX1_deed 76 = .ok (.iconst 0, 1) := by decide +kernel
theorem dX1_deed_77 : decode cX1_deed 77 = .ok (.ireturn, 1) := by decide +kernel
theorem dX1_deed_78 : decode cX1_deed 78 = .ok (.aload_n 0, 1) := by decide +kernel
theorem dX1_deed_79 : decode cX1_deed 79 = .ok (.getfield 12, 3) := by decide +kernel
theorem dX1_deed_82 : decode cX1_deed 82 = .ok (.iload_n 1, 1) := by decide +kernel
theorem dX1_deed_83 : decode cX1_deed 83 = .ok (.iload_n 2, 1) := by decide +kernel
theorem dX1_deed_84 : decode cX1_deed 84 = .ok (.iload_n 3, 1) := by decide +kernel
theorem dX1_deed_85 : decode cX1_deed 85 = .ok (.invokevirtual 97, 3) := by decide +kernel
theorem dX1_deed_88 : decode cX1_deed 88 = .ok (.iconst 1, 1) := by decide +kernel
theorem dX1_deed_89 : decode cX1_deed 89 = .ok (.ireturn, 1) := by decide +kernel
theorem dX1_level_0 : decode cX1_level 0 = .ok (.iload_n 1, 1) := by decide +kernel
theorem dX1_level_1 : decode cX1_level 1 = .ok (.iconst 2, 1) := by decide +kernel
theorem dX1_level_2 : decode cX1_level 2 = .ok (.if_icmp .ne 9, 3) := by decide +kernel
theorem dX1_level_5 : decode cX1_level 5 = .ok (.aload_n 0, 1) := by decide +kernel
theorem dX1_level_6 : decode cX1_level 6 = .ok (.iload_n 2, 1) := by decide +kernel
theorem dX1_level_7 : decode cX1_level 7 = .ok (.invokevirtual 101, 3) := by decide +kernel
theorem dX1_level_10 : decode cX1_level 10 = .ok (.ireturn, 1) := by decide +kernel
theorem dX1_level_11 : decode cX1_level 11 = .ok (.iload_n 1, 1) := by decide +kernel
theorem dX1_level_12 : decode cX1_level 12 = .ok (.iconst 5, 1) := by decide +kernel
theorem dX1_level_13 : decode cX1_level 13 = .ok (.if_icmp .lt 9, 3) := by decide +kernel
theorem dX1_level_16 : decode cX1_level 16 = .ok (.aload_n 0, 1) := by decide +kernel
theorem dX1_level_17 : decode cX1_level 17 = .ok (.iload_n 2, 1) := by decide +kernel
theorem dX1_level_18 : decode cX1_level 18 = .ok (.invokevirtual 104, 3) := by decide +kernel
theorem dX1_level_21 : decode cX1_level 21 = .ok (.ireturn, 1) := by decide +kernel
theorem dX1_level_22 : decode cX1_level 22 = .ok (.aload_n 0, 1) := by decide +kernel
theorem dX1_level_23 : decode cX1_level 23 = .ok (.iload_n 1, 1) := by decide +kernel
theorem dX1_level_24 : decode cX1_level 24 = .ok (.iconst 1, 1) := by decide +kernel
theorem dX1_level_25 : decode cX1_level 25 = .ok (.iadd, 1) := by decide +kernel
theorem dX1_level_26 : decode cX1_level 26 = .ok (.iload_n 2, 1) := by decide +kernel
theorem dX1_level_27 : decode cX1_level 27 = .ok (.invokevirtual 86, 3) := by decide +kernel
theorem dX1_level_30 : decode cX1_level 30 = .ok (.ifCond .ne 5, 3) := by decide +kernel
theorem dX1_level_33 : decode cX1_level 33 = .ok (.iconst 0, 1) := by decide +kernel
theorem dX1_level_34 : decode cX1_level 34 = .ok (.ireturn, 1) := by decide +kernel
theorem dX1_level_35 : decode cX1_level 35 = .ok (.iconst 0, 1) := by decide +kernel
theorem dX1_level_36 : decode cX1_level 36 = .ok (.istore_n 3, 1) := by decide +kernel
theorem dX1_level_37 : decode cX1_level 37 = .ok (.iload_n 3, 1) := by decide +kernel
theorem dX1_level_38 : decode cX1_level 38 = .ok (.sipush 300, 3) := by decide +kernel
theorem dX1_level_41 : decode cX1_level 41 = .ok (.if_icmp .ge 63, 3) := by decide +kernel
theorem dX1_level_44 : decode cX1_level 44 = .ok (.iload_n 1, 1) := by decide +kernel
theorem dX1_level_45 : decode cX1_level 45 = .ok (.aload_n 0, 1) := by decide +kernel
theorem dX1_level_46 : decode cX1_level 46 = .ok (.getfield 21, 3) := by decide +kernel
theorem dX1_level_49 : decode cX1_level 49 = .ok (.getfield 43, 3) := by decide +kernel
theorem dX1_level_52 : decode cX1_level 52 = .ok (.invokestatic 107, 3) := by decide +kernel
theorem dX1_level_55 : decode cX1_level 55 = .ok (.ifCond .eq 49, 3) := by decide +kernel
theorem dX1_level_58 : decode cX1_level 58 = .ok (.aload_n 0, 1) := by decide +kernel
theorem dX1_level_59 : decode cX1_level 59 = .ok (.getfield 21, 3) := by decide +kernel
theorem dX1_level_62 : decode cX1_level 62 = .ok (.getfield 43, 3) := by decide +kernel
theorem dX1_level_65 : decode cX1_level 65 = .ok (.istore 4, 2) := by decide +kernel
theorem dX1_level_67 : decode cX1_level 67 = .ok (.aload_n 0, 1) := by decide +kernel
theorem dX1_level_68 : decode cX1_level 68 = .ok (.getfield 21, 3) := by decide +kernel
theorem dX1_level_71 : decode cX1_level 71 = .ok (.invokevirtual 55, 3) := by decide +kernel
theorem dX1_level_74 : decode cX1_level 74 = .ok (.aload_n 0, 1) := by decide +kernel
theorem dX1_level_75 : decode cX1_level 75 = .ok (.iload_n 1, 1) := by decide +kernel
theorem dX1_level_76 : decode cX1_level 76 = .ok (.iconst 1, 1) := by decide +kernel
theorem dX1_level_77 : decode cX1_level 77 = .ok (.iadd, 1) := by decide +kernel
theorem dX1_level_78 : decode cX1_level 78 = .ok (.iload_n 2, 1) := by decide +kernel
theorem dX1_level_79 : decode cX1_level 79 = .ok (.invokevirtual 86, 3) := by decide +kernel
theorem dX1_level_82 : decode cX1_level 82 = .ok (.ifCond .ne 5, 3) := by decide +kernel
theorem dX1_level_85 : decode cX1_level 85 = .ok (.iconst 0, 1) := by decide +kernel
theorem dX1_level_86 : decode cX1_level 86 = .ok (.ireturn, 1) := by decide +kernel
theorem dX1_level_87 : decode cX1_level 87 = .ok (.aload_n 0, 1) := by decide +kernel
theorem dX1_level_88 : decode cX1_level 88 = .ok (.getfield 12, 3) := by decide +kernel
theorem dX1_level_91 : decode cX1_level 91 = .ok (.iload 4, 2) := by decide +kernel
theorem dX1_level_93 : decode cX1_level 93 = .ok (.ineg, 1) := by decide +kernel
theorem dX1_level_94 : decode cX1_level 94 = .ok (.invokevirtual 110, 3) := by decide +kernel
theorem dX1_level_97 : decode cX1_level 97 = .ok (.pop, 1) := by decide +kernel
theorem dX1_level_98 : decode cX1_level 98 = .ok (.iinc 3 1, 3) := by decide +kernel
theorem dX1_level_101 : decode cX1_level 101 = .ok (.goto (-64), 3) := by decide +kernel
theorem dX1_level_104 : decode cX1_level 104 = .ok (.iconst 1, 1) := by decide +kernel
theorem dX1_level_105 : decode cX1_level 105 = .ok (.ireturn, 1) := by decide +kernel
theorem dX1_isSignOf_0 : decode cX1_isSignOf 0 = .ok (.iload_n 0, 1) := by decide +kernel
theorem dX1_isSignOf_1 : decode cX1_isSignOf 1 = .ok (.tableswitch 95 0 4 #[35, 47, 95, 59, 77], 35) := by decide +kernel
theorem dX1_isSignOf_36 : decode cX1_isSignOf 36 = .ok (.iload_n 1, 1) := by decide +kernel
theorem dX1_isSignOf_37 : decode cX1_isSignOf 37 = .ok (.bipush 10, 2) := by decide +kernel
theorem dX1_isSignOf_39 : decode cX1_isSignOf 39 = .ok (.if_icmp .ne 7, 3) := by decide +kernel
theorem dX1_isSignOf_42 : decode cX1_isSignOf 42 = .ok (.iconst 1, 1) := by decide +kernel
theorem dX1_isSignOf_43 : decode cX1_isSignOf 43 = .ok (.goto 4, 3) := by decide +kernel
theorem dX1_isSignOf_46 : decode cX1_isSignOf 46 = .ok (.iconst 0, 1) := by decide +kernel
theorem dX1_isSignOf_47 : decode cX1_isSignOf 47 = .ok (.ireturn, 1) := by decide +kernel
theorem dX1_isSignOf_48 : decode cX1_isSignOf 48 = .ok (.iload_n 1, 1) := by decide +kernel
theorem dX1_isSignOf_49 : decode cX1_isSignOf 49 = .ok (.bipush 11, 2) := by decide +kernel
theorem dX1_isSignOf_51 : decode cX1_isSignOf 51 = .ok (.if_icmp .ne 7, 3) := by decide +kernel
theorem dX1_isSignOf_54 : decode cX1_isSignOf 54 = .ok (.iconst 1, 1) := by decide +kernel
theorem dX1_isSignOf_55 : decode cX1_isSignOf 55 = .ok (.goto 4, 3) := by decide +kernel
theorem dX1_isSignOf_58 : decode cX1_isSignOf 58 = .ok (.iconst 0, 1) := by decide +kernel
theorem dX1_isSignOf_59 : decode cX1_isSignOf 59 = .ok (.ireturn, 1) := by decide +kernel
theorem dX1_isSignOf_60 : decode cX1_isSignOf 60 = .ok (.iload_n 1, 1) := by decide +kernel
theorem dX1_isSignOf_61 : decode cX1_isSignOf 61 = .ok (.bipush 26, 2) := by decide +kernel
theorem dX1_isSignOf_63 : decode cX1_isSignOf 63 = .ok (.if_icmp .eq 9, 3) := by decide +kernel
theorem dX1_isSignOf_66 : decode cX1_isSignOf 66 = .ok (.iload_n 1, 1) := by decide +kernel
theorem dX1_isSignOf_67 : decode cX1_isSignOf 67 = .ok (.bipush 27, 2) := by decide +kernel
theorem dX1_isSignOf_69 : decode cX1_isSignOf 69 = .ok (.if_icmp .ne 7, 3) := by decide +kernel
theorem dX1_isSignOf_72 : decode cX1_isSignOf 72 = .ok (.iconst 1, 1) := by decide +kernel
theorem dX1_isSignOf_73 : decode cX1_isSignOf 73 = .ok (.goto 4, 3) := by decide +kernel
theorem dX1_isSignOf_76 : decode cX1_isSignOf 76 = .ok (.iconst 0, 1) := by decide +kernel
theorem dX1_isSignOf_77 : decode cX1_isSignOf 77 = .ok (.ireturn, 1) := by decide +kernel
theorem dX1_isSignOf_78 : decode cX1_isSignOf 78 = .ok (.iload_n 1, 1) := by decide +kernel
theorem dX1_isSignOf_79 : decode cX1_isSignOf 79 = .ok (.bipush 28, 2) := by decide +kernel
theorem dX1_isSignOf_81 : decode cX1_isSignOf 81 = .ok (.if_icmp .eq 9, 3) := by decide +kernel
theorem dX1_isSignOf_84 : decode cX1_isSignOf 84 = .ok (.iload_n 1, 1) := by decide +kernel
theorem dX1_isSignOf_85 : decode cX1_isSignOf 85 = .ok (.bipush 29, 2) := by decide +kernel
theorem dX1_isSignOf_87 : decode cX1_isSignOf 87 = .ok (.if_icmp .ne 7, 3) := by decide +kernel
theorem dX1_isSignOf_90 : decode cX1_isSignOf 90 = .ok (.iconst 1, 1) := by decide +kernel
theorem dX1_isSignOf_91 : decode cX1_isSignOf 91 = .ok (.goto 4, 3) := by decide +kernel
theorem dX1_isSignOf_94 : decode cX1_isSignOf 94 = .ok (.iconst 0, 1) := by decide +kernel
theorem dX1_isSignOf_95 : decode cX1_isSignOf 95 = .ok (.ireturn, 1) := by decide +kernel
theorem dX1_isSignOf_96 : decode cX1_isSignOf 96 = .ok (.iconst 0, 1) := by decide +kernel
theorem dX1_isSignOf_97 : decode cX1_isSignOf 97 = .ok (.ireturn, 1) := by decide +kernel
theorem dX1_ask_0 : decode cX1_ask 0 = .ok (.aload_n 0, 1) := by decide +kernel
theorem dX1_ask_1 : decode cX1_ask 1 = .ok (.getfield 21, 3) := by decide +kernel
theorem dX1_ask_4 : decode cX1_ask 4 = .ok (.getfield 43, 3) := by decide +kernel
theorem dX1_ask_7 : decode cX1_ask 7 = .ok (.bipush 12, 2) := by decide +kernel
theorem dX1_ask_9 : decode cX1_ask 9 = .ok (.if_icmp .ne 39, 3) := by decide +kernel
theorem dX1_ask_12 : decode cX1_ask 12 = .ok (.aload_n 0, 1) := by decide +kernel
theorem dX1_ask_13 : decode cX1_ask 13 = .ok (.iload_n 1, 1) := by decide +kernel
theorem dX1_ask_14 : decode cX1_ask 14 = .ok (.invokevirtual 113, 3) := by decide +kernel
theorem dX1_ask_17 : decode cX1_ask 17 = .ok (.ifCond .eq 29, 3) := by decide +kernel
theorem dX1_ask_20 : decode cX1_ask 20 = .ok (.aload_n 0, 1) := by decide +kernel
theorem dX1_ask_21 : decode cX1_ask 21 = .ok (.iload_n 1, 1) := by decide +kernel
theorem dX1_ask_22 : decode cX1_ask 22 = .ok (.iconst 1, 1) := by decide +kernel
theorem dX1_ask_23 : decode cX1_ask 23 = .ok (.iadd, 1) := by decide +kernel
theorem dX1_ask_24 : decode cX1_ask 24 = .ok (.invokevirtual 101, 3) := by decide +kernel
theorem dX1_ask_27 : decode cX1_ask 27 = .ok (.ifCond .eq 19, 3) := by decide +kernel
theorem dX1_ask_30 : decode cX1_ask 30 = .ok (.aload_n 0, 1) := by decide +kernel
theorem dX1_ask_31 : decode cX1_ask 31 = .ok (.getfield 12, 3) := by decide +kernel
theorem dX1_ask_34 : decode cX1_ask 34 = .ok (.bipush (-12), 2) := by decide +kernel
theorem dX1_ask_36 : decode cX1_ask 36 = .ok (.invokevirtual 110, 3) := by decide +kernel
theorem dX1_ask_39 : decode cX1_ask 39 = .ok (.ifCond .eq 7, 3) := by decide +kernel
theorem dX1_ask_42 : decode cX1_ask 42 = .ok (.iconst 1, 1) := by decide +kernel
theorem dX1_ask_43 : decode cX1_ask 43 = .ok (.goto 4, 3) := by decide +kernel
theorem dX1_ask_46 : decode cX1_ask 46 = .ok (.iconst 0, 1) := by decide +kernel
theorem dX1_ask_47 : decode cX1_ask 47 = .ok (.ireturn, 1) := by decide +kernel
theorem dX1_ask_48 : decode cX1_ask 48 = .ok (.aload_n 0, 1) := by decide +kernel
theorem dX1_ask_49 : decode cX1_ask 49 = .ok (.iconst 3, 1) := by decide +kernel
theorem dX1_ask_50 : decode cX1_ask 50 = .ok (.iload_n 1, 1) := by decide +kernel
theorem dX1_ask_51 : decode cX1_ask 51 = .ok (.invokevirtual 86, 3) := by decide +kernel
theorem dX1_ask_54 : decode cX1_ask 54 = .ok (.ifCond .ne 5, 3) := by decide +kernel
theorem dX1_ask_57 : decode cX1_ask 57 = .ok (.iconst 0, 1) := by decide +kernel
theorem dX1_ask_58 : decode cX1_ask 58 = .ok (.ireturn, 1) := by decide +kernel
theorem dX1_ask_59 : decode cX1_ask 59 = .ok (.aload_n 0, 1) := by decide +kernel
theorem dX1_ask_60 : decode cX1_ask 60 = .ok (.getfield 21, 3) := by decide +kernel
theorem dX1_ask_63 : decode cX1_ask 63 = .ok (.getfield 43, 3) := by decide +kernel
theorem dX1_ask_66 : decode cX1_ask 66 = .ok (.istore_n 2, 1) := by decide +kernel
theorem dX1_ask_67 : decode cX1_ask 67 = .ok (.iload_n 2, 1) := by decide +kernel
theorem dX1_ask_68 : decode cX1_ask 68 = .ok (.bipush 20, 2) := by decide +kernel
theorem dX1_ask_70 : decode cX1_ask 70 = .ok (.bipush 25, 2) := by decide +kernel
theorem dX1_ask_72 : decode cX1_ask 72 = .ok (.invokestatic 61, 3) := by decide +kernel
theorem dX1_ask_75 : decode cX1_ask 75 = .ok (.ifCond .ne 9, 3) := by decide +kernel
theorem dX1_ask_78 : decode cX1_ask 78 = .ok (.aload_n 0, 1) := by decide +kernel
theorem dX1_ask_79 : decode cX1_ask 79 = .ok (.iconst 1, 1) := by decide +kernel
theorem dX1_ask_80 : decode cX1_ask 80 = .ok (.invokevirtual 51, 3) := by decide +kernel
theorem dX1_ask_83 : decode cX1_ask 83 = .ok (.ireturn, 1) := by decide +kernel
theorem dX1_ask_84 : decode cX1_ask 84 = .ok (.aload_n 0, 1) := by decide +kernel
theorem dX1_ask_85 : decode cX1_ask 85 = .ok (.getfield 21, 3) := by decide +kernel
theorem dX1_ask_88 : decode cX1_ask 88 = .ok (.invokevirtual 55, 3) := by decide +kernel
theorem dX1_ask_91 : decode cX1_ask 91 = .ok (.aload_n 0, 1) := by decide +kernel
theorem dX1_ask_92 : decode cX1_ask 92 = .ok (.iconst 3, 1) := by decide +kernel
theorem dX1_ask_93 : decode cX1_ask 93 = .ok (.iload_n 1, 1) := by decide +kernel
theorem dX1_ask_94 : decode cX1_ask 94 = .ok (.invokevirtual 86, 3) := by decide +kernel
theorem dX1_ask_97 : decode cX1_ask 97 = .ok (.ifCond .eq 19, 3) := by decide +kernel
theorem dX1_ask_100 : decode cX1_ask 100 = .ok (.aload_n 0, 1) := by decide +kernel
theorem dX1_ask_101 : decode cX1_ask 101 = .ok (.getfield 12, 3) := by decide +kernel
theorem dX1_ask_104 : decode cX1_ask 104 = .ok (.iload_n 2, 1) := by decide +kernel
theorem dX1_ask_105 : decode cX1_ask 105 = .ok (.ineg, 1) := by decide +kernel
theorem dX1_ask_106 : decode cX1_ask 106 = .ok (.invokevirtual 110, 3) := by decide +kernel
theorem dX1_ask_109 : decode cX1_ask 109 = .ok (.ifCond .eq 7, 3) := by decide +kernel
theorem dX1_ask_112 : decode cX1_ask 112 = .ok (.iconst 1, 1) := by decide +kernel
theorem dX1_ask_113 : decode cX1_ask 113 = .ok (.goto 4, 3) := by decide +kernel
theorem dX1_ask_116 : decode cX1_ask 116 = .ok (.iconst 0, 1) := by decide +kernel
theorem dX1_ask_117 : decode cX1_ask 117 = .ok (.ireturn, 1) := by decide +kernel
theorem dX1_one_0 : decode cX1_one 0 = .ok (.aload_n 0, 1) := by decide +kernel
theorem dX1_one_1 : decode cX1_one 1 = .ok (.getfield 21, 3) := by decide +kernel
theorem dX1_one_4 : decode cX1_one 4 = .ok (.getfield 43, 3) := by decide +kernel
theorem dX1_one_7 : decode cX1_one 7 = .ok (.istore_n 2, 1) := by decide +kernel
theorem dX1_one_8 : decode cX1_one 8 = .ok (.iload_n 2, 1) := by decide +kernel
theorem dX1_one_9 : decode cX1_one 9 = .ok (.iconst 2, 1) := by decide +kernel
theorem dX1_one_10 : decode cX1_one 10 = .ok (.if_icmp .ne 38, 3) := by decide +kernel
theorem dX1_one_13 : decode cX1_one 13 = .ok (.aload_n 0, 1) := by decide +kernel
theorem dX1_one_14 : decode cX1_one 14 = .ok (.getfield 21, 3) := by decide +kernel
theorem dX1_one_17 : decode cX1_one 17 = .ok (.getfield 58, 3) := by decide +kernel
theorem dX1_one_20 : decode cX1_one 20 = .ok (.istore_n 3, 1) := by decide +kernel
theorem dX1_one_21 : decode cX1_one 21 = .ok (.aload_n 0, 1) := by decide +kernel
theorem dX1_one_22 : decode cX1_one 22 = .ok (.sipush 9999, 3) := by decide +kernel
theorem dX1_one_25 : decode cX1_one 25 = .ok (.invokevirtual 94, 3) := by decide +kernel
theorem dX1_one_28 : decode cX1_one 28 = .ok (.ifCond .eq 18, 3) := by decide +kernel
theorem dX1_one_31 : decode cX1_one 31 = .ok (.aload_n 0, 1) := by decide +kernel
theorem dX1_one_32 : decode cX1_one 32 = .ok (.getfield 12, 3) := by decide +kernel
theorem dX1_one_35 : decode cX1_one 35 = .ok (.iload_n 3, 1) := by decide +kernel
theorem dX1_one_36 : decode cX1_one 36 = .ok (.invokevirtual 110, 3) := by decide +kernel
theorem dX1_one_39 : decode cX1_one 39 = .ok (.ifCond .eq 7, 3) := by decide +kernel
theorem dX1_one_42 : decode cX1_one 42 = .ok (.iconst 1, 1) := by decide +kernel
theorem dX1_one_43 : decode cX1_one 43 = .ok (.goto 4, 3) := by decide +kernel
theorem dX1_one_46 : decode cX1_one 46 = .ok (.iconst 0, 1) := by decide +kernel
theorem dX1_one_47 : decode cX1_one 47 = .ok (.ireturn, 1) := by decide +kernel
theorem dX1_one_48 : decode cX1_one 48 = .ok (.iload_n 2, 1) := by decide +kernel
theorem dX1_one_49 : decode cX1_one 49 = .ok (.bipush 13, 2) := by decide +kernel
theorem dX1_one_51 : decode cX1_one 51 = .ok (.bipush 19, 2) := by decide +kernel
theorem dX1_one_53 : decode cX1_one 53 = .ok (.invokestatic 61, 3) := by decide +kernel
theorem dX1_one_56 : decode cX1_one 56 = .ok (.ifCond .eq 20, 3) := by decide +kernel
theorem dX1_one_59 : decode cX1_one 59 = .ok (.aload_n 0, 1) := by decide +kernel
theorem dX1_one_60 : decode cX1_one 60 = .ok (.getfield 21, 3) := by decide +kernel
theorem dX1_one_63 : decode cX1_one 63 = .ok (.invokevirtual 55, 3) := by decide +kernel
theorem dX1_one_66 : decode cX1_one 66 = .ok (.aload_n 0, 1) := by decide +kernel
theorem dX1_one_67 : decode cX1_one 67 = .ok (.getfield 12, 3) := by decide +kernel
theorem dX1_one_70 : decode cX1_one 70 = .ok (.iload_n 2, 1) := by decide +kernel
theorem dX1_one_71 : decode cX1_one 71 = .ok (.ineg, 1) := by decide +kernel
theorem dX1_one_72 : decode cX1_one 72 = .ok (.invokevirtual 110, 3) := by decide +kernel
theorem dX1_one_75 : decode cX1_one 75 = .ok (.ireturn, 1) := by decide +kernel
theorem dX1_one_76 : decode cX1_one 76 = .ok (.iload_n 2, 1) := by decide +kernel
theorem dX1_one_77 : decode cX1_one 77 = .ok (.bipush 30, 2) := by decide +kernel
theorem dX1_one_79 : decode cX1_one 79 = .ok (.if_icmp .ne 37, 3) := by decide +kernel
theorem dX1_one_82 : decode cX1_one 82 = .ok (.aload_n 0, 1) := by decide +kernel
theorem dX1_one_83 : decode cX1_one 83 = .ok (.iload_n 1, 1) := by decide +kernel
theorem dX1_one_84 : decode cX1_one 84 = .ok (.invokevirtual 113, 3) := by decide +kernel
theorem dX1_one_87 : decode cX1_one 87 = .ok (.ifCond .eq 27, 3) := by decide +kernel
theorem dX1_one_90 : decode cX1_one 90 = .ok (.aload_n 0, 1) := by decide +kernel
theorem dX1_one_91 : decode cX1_one 91 = .ok (.iconst 3, 1) := by decide +kernel
theorem dX1_one_92 : decode cX1_one 92 = .ok (.iload_n 1, 1) := by decide +kernel
theorem dX1_one_93 : decode cX1_one 93 = .ok (.iconst 1, 1) := by decide +kernel
theorem dX1_one_94 : decode cX1_one 94 = .ok (.iadd, 1) := by decide +kernel
theorem dX1_one_95 : decode cX1_one 95 = .ok (.invokevirtual 86, 3) := by decide +kernel
theorem dX1_one_98 : decode cX1_one 98 = .ok (.ifCond .eq 16, 3) := by decide +kernel
theorem dX1_one_101 : decode cX1_one 101 = .ok (.aload_n 0, 1) := by decide +kernel
theorem dX1_one_102 : decode cX1_one 102 = .ok (.bipush 31, 2) := by decide +kernel
theorem dX1_one_104 : decode cX1_one 104 = .ok (.invokevirtual 80, 3) := by decide +kernel
theorem dX1_one_107 : decode cX1_one 107 = .ok (.ifCond .eq 7, 3) := by decide +kernel
theorem dX1_one_110 : decode cX1_one 110 = .ok (.iconst 1, 1) := by decide +kernel
theorem dX1_one_111 : decode cX1_one 111 = .ok (.goto 4, 3) := by decide +kernel
theorem dX1_one_114 : decode cX1_one 114 = .ok (.iconst 0, 1) := by decide +kernel
theorem dX1_one_115 : decode cX1_one 115 = .ok (.ireturn, 1) := by decide +kernel
theorem dX1_one_116 : decode cX1_one 116 = .ok (.iload_n 2, 1) := by decide +kernel
theorem dX1_one_117 : decode cX1_one 117 = .ok (.bipush 27, 2) := by decide +kernel
theorem dX1_one_119 : decode cX1_one 119 = .ok (.if_icmp .ne 39, 3) := by decide +kernel
theorem dX1_one_122 : decode cX1_one 122 = .ok (.aload_n 0, 1) := by decide +kernel
theorem dX1_one_123 : decode cX1_one 123 = .ok (.iload_n 1, 1) := by decide +kernel
theorem dX1_one_124 : decode cX1_one 124 = .ok (.invokevirtual 113, 3) := by decide +kernel
theorem dX1_one_127 : decode cX1_one 127 = .ok (.ifCond .eq 29, 3) := by decide +kernel
theorem dX1_one_130 : decode cX1_one 130 = .ok (.aload_n 0, 1) := by decide +kernel
theorem dX1_one_131 : decode cX1_one 131 = .ok (.iload_n 1, 1) := by decide +kernel
theorem dX1_one_132 : decode cX1_one 132 = .ok (.iconst 1, 1) := by decide +kernel
theorem dX1_one_133 : decode cX1_one 133 = .ok (.iadd, 1) := by decide +kernel
theorem dX1_one_134 : decode cX1_one 134 = .ok (.invokevirtual 104, 3) := by decide +kernel
theorem dX1_one_137 : decode cX1_one 137 = .ok (.ifCond .eq 19, 3) := by decide +kernel
theorem dX1_one_140 : decode cX1_one 140 = .ok (.aload_n 0, 1) := by decide +kernel
theorem dX1_one_141 : decode cX1_one 141 = .ok (.getfield 12, 3) := by decide +kernel
theorem dX1_one_144 : decode cX1_one 144 = .ok (.bipush (-33), 2) := by decide +kernel
theorem dX1_one_146 : decode cX1_one 146 = .ok (.invokevirtual 110, 3) := by decide +kernel
theorem dX1_one_149 : decode cX1_one 149 = .ok (.ifCond .eq 7, 3) := by decide +kernel
theorem dX1_one_152 : decode cX1_one 152 = .ok (.iconst 1, 1) := by decide +kernel
theorem dX1_one_153 : decode cX1_one 153 = .ok (.goto 4, 3) := by decide +kernel
theorem dX1_one_156 : decode cX1_one 156 = .ok (.iconst 0, 1) := by decide +kernel
theorem dX1_one_157 : decode cX1_one 157 = .ok (.ireturn, 1) := by decide +kernel
theorem dX1_one_158 : decode cX1_one 158 = .ok (.aload_n 0, 1) := by decide +kernel
theorem dX1_one_159 : decode cX1_one 159 = .ok (.iconst 1, 1) := by decide +kernel
theorem dX1_one_160 : decode cX1_one 160 = .ok (.invokevirtual 51, 3) := by decide +kernel
theorem dX1_one_163 : decode cX1_one 163 = .ok (.ireturn, 1) := by decide +kernel
theorem dX1_opens_0 : decode cX1_opens 0 = .ok (.iload_n 1, 1) := by decide +kernel
theorem dX1_opens_1 : decode cX1_opens 1 = .ok (.bipush 8, 2) := by decide +kernel
theorem dX1_opens_3 : decode cX1_opens 3 = .ok (.if_icmp .lt 9, 3) := by decide +kernel
theorem dX1_opens_6 : decode cX1_opens 6 = .ok (.aload_n 0, 1) := by decide +kernel
theorem dX1_opens_7 : decode cX1_opens 7 = .ok (.iconst 3, 1) := by decide +kernel
theorem dX1_opens_8 : decode cX1_opens 8 = .ok (.invokevirtual 51, 3) := by decide +kernel
theorem dX1_opens_11 : decode cX1_opens 11 = .ok (.ireturn, 1) := by decide +kernel
theorem dX1_opens_12 : decode cX1_opens 12 = .ok (.aload_n 0, 1) := by decide +kernel
theorem dX1_opens_13 : decode cX1_opens 13 = .ok (.getfield 21, 3) := by decide +kernel
theorem dX1_opens_16 : decode cX1_opens 16 = .ok (.invokevirtual 55, 3) := by decide +kernel
theorem dX1_opens_19 : decode cX1_opens 19 = .ok (.iconst 1, 1) := by decide +kernel
theorem dX1_opens_20 : decode cX1_opens 20 = .ok (.ireturn, 1) := by decide +kernel
theorem dX10_init_0 : decode cX10_init 0 = .ok (.aload_n 0, 1) := by decide +kernel
theorem dX10_init_1 : decode cX10_init 1 = .ok (.invokespecial 1, 3) := by decide +kernel
theorem dX10_init_4 : decode cX10_init 4 = .ok (.aload_n 0, 1) := by decide +kernel
theorem dX10_init_5 : decode cX10_init 5 = .ok (.new 7, 3) := by decide +kernel
theorem dX10_init_8 : decode cX10_init 8 = .ok (.dup, 1) := by decide +kernel
theorem dX10_init_9 : decode cX10_init 9 = .ok (.invokespecial 9, 3) := by decide +kernel
theorem dX10_init_12 : decode cX10_init 12 = .ok (.putfield 10, 3) := by decide +kernel
theorem dX10_init_15 : decode cX10_init 15 = .ok (.aload_n 0, 1) := by decide +kernel
theorem dX10_init_16 : decode cX10_init 16 = .ok (.new 7, 3) := by decide +kernel
theorem dX10_init_19 : decode cX10_init 19 = .ok (.dup, 1) := by decide +kernel
theorem dX10_init_20 : decode cX10_init 20 = .ok (.invokespecial 9, 3) := by decide +kernel
theorem dX10_init_23 : decode cX10_init 23 = .ok (.putfield 16, 3) := by decide +kernel
theorem dX10_init_26 : decode cX10_init 26 = .ok (.aload_n 0, 1) := by decide +kernel
theorem dX10_init_27 : decode cX10_init 27 = .ok (.new 19, 3) := by decide +kernel
theorem dX10_init_30 : decode cX10_init 30 = .ok (.dup, 1) := by decide +kernel
theorem dX10_init_31 : decode cX10_init 31 = .ok (.invokespecial 21, 3) := by decide +kernel
theorem dX10_init_34 : decode cX10_init 34 = .ok (.putfield 22, 3) := by decide +kernel
theorem dX10_init_37 : decode cX10_init 37 = .ok (.aload_n 0, 1) := by decide +kernel
theorem dX10_init_38 : decode cX10_init 38 = .ok (.new 26, 3) := by decide +kernel
theorem dX10_init_41 : decode cX10_init 41 = .ok (.dup, 1) := by decide +kernel
theorem dX10_init_42 : decode cX10_init 42 = .ok (.invokespecial 28, 3) := by decide +kernel
theorem dX10_init_45 : decode cX10_init 45 = .ok (.putfield 29, 3) := by decide +kernel
theorem dX10_init_48 : decode cX10_init 48 = .ok (.aload_n 0, 1) := by decide +kernel
theorem dX10_init_49 : decode cX10_init 49 = .ok (.iconst 4, 1) := by decide +kernel
theorem dX10_init_50 : decode cX10_init 50 = .ok (.anewarray 33, 3) := by decide +kernel
theorem dX10_init_53 : decode cX10_init 53 = .ok (.putfield 35, 3) := by decide +kernel
theorem dX10_init_56 : decode cX10_init 56 = .ok (.iconst 0, 1) := by decide +kernel
theorem dX10_init_57 : decode cX10_init 57 = .ok (.istore_n 1, 1) := by decide +kernel
theorem dX10_init_58 : decode cX10_init 58 = .ok (.iload_n 1, 1) := by decide +kernel
theorem dX10_init_59 : decode cX10_init 59 = .ok (.iconst 4, 1) := by decide +kernel
theorem dX10_init_60 : decode cX10_init 60 = .ok (.if_icmp .ge 22, 3) := by decide +kernel
theorem dX10_init_63 : decode cX10_init 63 = .ok (.aload_n 0, 1) := by decide +kernel
theorem dX10_init_64 : decode cX10_init 64 = .ok (.getfield 35, 3) := by decide +kernel
theorem dX10_init_67 : decode cX10_init 67 = .ok (.iload_n 1, 1) := by decide +kernel
theorem dX10_init_68 : decode cX10_init 68 = .ok (.new 33, 3) := by decide +kernel
theorem dX10_init_71 : decode cX10_init 71 = .ok (.dup, 1) := by decide +kernel
theorem dX10_init_72 : decode cX10_init 72 = .ok (.invokespecial 39, 3) := by decide +kernel
theorem dX10_init_75 : decode cX10_init 75 = .ok (.aastore, 1) := by decide +kernel
theorem dX10_init_76 : decode cX10_init 76 = .ok (.iinc 1 1, 3) := by decide +kernel
theorem dX10_init_79 : decode cX10_init 79 = .ok (.goto (-21), 3) := by decide +kernel
theorem dX10_init_82 : decode cX10_init 82 = .ok (.aload_n 0, 1) := by decide +kernel
theorem dX10_init_83 : decode cX10_init 83 = .ok (.new 40, 3) := by decide +kernel
theorem dX10_init_86 : decode cX10_init 86 = .ok (.dup, 1) := by decide +kernel
theorem dX10_init_87 : decode cX10_init 87 = .ok (.invokespecial 42, 3) := by decide +kernel
theorem dX10_init_90 : decode cX10_init 90 = .ok (.putfield 43, 3) := by decide +kernel
theorem dX10_init_93 : decode cX10_init 93 = .ok (.aload_n 0, 1) := by decide +kernel
theorem dX10_init_94 : decode cX10_init 94 = .ok (.new 47, 3) := by decide +kernel
theorem dX10_init_97 : decode cX10_init 97 = .ok (.dup, 1) := by decide +kernel
theorem dX10_init_98 : decode cX10_init 98 = .ok (.invokespecial 49, 3) := by decide +kernel
theorem dX10_init_101 : decode cX10_init 101 = .ok (.putfield 50, 3) := by decide +kernel
theorem dX10_init_104 : decode cX10_init 104 = .ok (.aload_n 0, 1) := by decide +kernel
theorem dX10_init_105 : decode cX10_init 105 = .ok (.new 54, 3) := by decide +kernel
theorem dX10_init_108 : decode cX10_init 108 = .ok (.dup, 1) := by decide +kernel
theorem dX10_init_109 : decode cX10_init 109 = .ok (.invokespecial 56, 3) := by decide +kernel
theorem dX10_init_112 : decode cX10_init 112 = .ok (.putfield 57, 3) := by decide +kernel
theorem dX10_init_115 : decode cX10_init 115 = .ok (.return_, 1) := by decide +kernel
theorem dX10_hand_0 : decode cX10_hand 0 = .ok (.iload_n 1, 1) := by decide +kernel
theorem dX10_hand_1 : decode cX10_hand 1 = .ok (.iconst 1, 1) := by decide +kernel
theorem dX10_hand_2 : decode cX10_hand 2 = .ok (.bipush 30, 2) := by decide +kernel
theorem dX10_hand_4 : decode cX10_hand 4 = .ok (.invokestatic 61, 3) := by decide +kernel
theorem dX10_hand_7 : decode cX10_hand 7 = .ok (.ifCond .eq 15, 3) := by decide +kernel
theorem dX10_hand_10 : decode cX10_hand 10 = .ok (.aload_n 0, 1) := by decide +kernel
theorem dX10_hand_11 : decode cX10_hand 11 = .ok (.getfield 10, 3) := by decide +kernel
theorem dX10_hand_14 : decode cX10_hand 14 = .ok (.getfield 65, 3) := by decide +kernel
theorem dX10_hand_17 : decode cX10_hand 17 = .ok (.bipush 10, 2) := by decide +kernel
theorem dX10_hand_19 : decode cX10_hand 19 = .ok (.if_icmp .lt 5, 3) := by decide +kernel
theorem dX10_hand_22 : decode cX10_hand 22 = .ok (.iconst (-1), 1) := by decide +kernel
theorem dX10_hand_23 : decode cX10_hand 23 = .ok (.ireturn, 1) := by decide +kernel
theorem dX10_hand_24 : decode cX10_hand 24 = .ok (.aload_n 0, 1) := by decide +kernel
theorem dX10_hand_25 : decode cX10_hand 25 = .ok (.getfield 10, 3) := by decide +kernel
theorem dX10_hand_28 : decode cX10_hand 28 = .ok (.iload_n 1, 1) := by decide +kernel
theorem dX10_hand_29 : decode cX10_hand 29 = .ok (.invokevirtual 69, 3) := by decide +kernel
theorem dX10_hand_32 : decode cX10_hand 32 = .ok (.ireturn, 1) := by decide +kernel
theorem dX10_coin_0 : decode cX10_coin 0 = .ok (.iload_n 1, 1) := by decide +kernel
theorem dX10_coin_1 : decode cX10_coin 1 = .ok (.iconst 0, 1) := by decide +kernel
theorem dX10_coin_2 : decode cX10_coin 2 = .ok (.sipush 500, 3) := by decide +kernel
theorem dX10_coin_5 : decode cX10_coin 5 = .ok (.invokestatic 61, 3) := by decide +kernel
theorem dX10_coin_8 : decode cX10_coin 8 = .ok (.ifCond .eq 26, 3) := by decide +kernel
theorem dX10_coin_11 : decode cX10_coin 11 = .ok (.aload_n 0, 1) := by decide +kernel
theorem dX10_coin_12 : decode cX10_coin 12 = .ok (.getfield 10, 3) := by decide +kernel
theorem dX10_coin_15 : decode cX10_coin 15 = .ok (.iload_n 2, 1) := by decide +kernel
theorem dX10_coin_16 : decode cX10_coin 16 = .ok (.invokevirtual 73, 3) := by decide +kernel
theorem dX10_coin_19 : decode cX10_coin 19 = .ok (.ifCond .eq 15, 3) := by decide +kernel
theorem dX10_coin_22 : decode cX10_coin 22 = .ok (.aload_n 0, 1) := by decide +kernel
theorem dX10_coin_23 : decode cX10_coin 23 = .ok (.getfield 10, 3) := by decide +kernel
theorem dX10_coin_26 : decode cX10_coin 26 = .ok (.getfield 77, 3) := by decide +kernel
theorem dX10_coin_29 : decode cX10_coin 29 = .ok (.bipush 20, 2) := by decide +kernel
theorem dX10_coin_31 : decode cX10_coin 31 = .ok (.if_icmp .lt 5, 3) := by decide +kernel
theorem dX10_coin_34 : decode cX10_coin 34 = .ok (.iconst (-1), 1) := by decide +kernel
theorem dX10_coin_35 : decode cX10_coin 35 = .ok (.ireturn, 1) := by decide +kernel
theorem dX10_coin_36 : decode cX10_coin 36 = .ok (.aload_n 0, 1) := by decide +kernel
theorem dX10_coin_37 : decode cX10_coin 37 = .ok (.getfield 10, 3) := by decide +kernel
theorem dX10_coin_40 : decode cX10_coin 40 = .ok (.iload_n 1, 1) := by decide +kernel
theorem dX10_coin_41 : decode cX10_coin 41 = .ok (.iload_n 2, 1) := by decide +kernel
theorem dX10_coin_42 : decode cX10_coin 42 = .ok (.invokevirtual 80, 3) := by decide +kernel
theorem dX10_coin_45 : decode cX10_coin 45 = .ok (.ireturn, 1) := by decide +kernel
theorem dX10_rules_0 : decode cX10_rules 0 = .ok (.iload_n 1, 1) := by decide +kernel
theorem dX10_rules_1 : decode cX10_rules 1 = .ok (.iconst 0, 1) := by decide +kernel
theorem dX10_rules_2 : decode cX10_rules 2 = .ok (.bipush 6, 2) := by decide +kernel
theorem dX10_rules_4 : decode cX10_rules 4 = .ok (.invokestatic 61, 3) := by decide +kernel
theorem dX10_rules_7 : decode cX10_rules 7 = .ok (.ifCond .eq 13, 3) := by decide +kernel
theorem dX10_rules_10 : decode cX10_rules 10 = .ok (.iload_n 2, 1) := by decide +kernel
theorem dX10_rules_11 : decode cX10_rules 11 = .ok (.iconst 0, 1) := by decide +kernel
theorem dX10_rules_12 : decode cX10_rules 12 = .ok (.bipush 9, 2) := by decide +kernel
theorem dX10_rules_14 : decode cX10_rules 14 = .ok (.invokestatic 61, 3) := by decide +kernel
theorem dX10_rules_17 : decode cX10_rules 17 = .ok (.ifCond .ne 5, 3) := by decide +kernel
theorem dX10_rules_20 : decode cX10_rules 20 = .ok (.iconst 0, 1) := by decide +kernel
theorem dX10_rules_21 : decode cX10_rules 21 = .ok (.ireturn, 1) := by decide +kernel
theorem dX10_rules_22 : decode cX10_rules 22 = .ok (.aload_n 0, 1) := by decide +kernel
theorem dX10_rules_23 : decode cX10_rules 23 = .ok (.getfield 10, 3) := by decide +kernel
theorem dX10_rules_26 : decode cX10_rules 26 = .ok (.iload_n 1, 1) := by decide +kernel
theorem dX10_rules_27 : decode cX10_rules 27 = .ok (.putfield 84, 3) := by decide +kernel
theorem dX10_rules_30 : decode cX10_rules 30 = .ok (.aload_n 0, 1) := by decide +kernel
theorem dX10_rules_31 : decode cX10_rules 31 = .ok (.getfield 10, 3) := by decide +kernel
theorem dX10_rules_34 : decode cX10_rules 34 = .ok (.iload_n 2, 1) := by decide +kernel
theorem dX10_rules_35 : decode cX10_rules 35 = .ok (.putfield 87, 3) := by decide +kernel
theorem dX10_rules_38 : decode cX10_rules 38 = .ok (.iconst 1, 1) := by decide +kernel
theorem dX10_rules_39 : decode cX10_rules 39 = .ok (.ireturn, 1) := by decide +kernel
theorem dX10_later_0 : decode cX10_later 0 = .ok (.aload_n 0, 1) := by decide +kernel
theorem dX10_later_1 : decode cX10_later 1 = .ok (.getfield 10, 3) := by decide +kernel
theorem dX10_later_4 : decode cX10_later 4 = .ok (.iload_n 1, 1) := by decide +kernel
theorem dX10_later_5 : decode cX10_later 5 = .ok (.invokevirtual 90, 3) := by decide +kernel
theorem dX10_later_8 : decode cX10_later 8 = .ok (.ifCond .eq 13, 3) := by decide +kernel
theorem dX10_later_11 : decode cX10_later 11 = .ok (.aload_n 0, 1) := by decide +kernel
theorem dX10_later_12 : decode cX10_later 12 = .ok (.getfield 10, 3) := by decide +kernel
theorem dX10_later_15 : decode cX10_later 15 = .ok (.getfield 93, 3) := by decide +kernel
theorem dX10_later_18 : decode cX10_later 18 = .ok (.goto 4, 3) := by decide +kernel
theorem dX10_later_21 : decode cX10_later 21 = .ok (.iconst (-1), 1) := by decide +kernel
theorem dX10_later_22 : decode cX10_later 22 = .ok (.ireturn, 1) := by decide +kernel
theorem dX10_feed_0 : decode cX10_feed 0 = .ok (.aload_n 0, 1) := by decide +kernel
theorem dX10_feed_1 : decode cX10_feed 1 = .ok (.getfield 22, 3) := by decide +kernel
theorem dX10_feed_4 : decode cX10_feed 4 = .ok (.getfield 96, 3) := by decide +kernel
theorem dX10_feed_7 : decode cX10_feed 7 = .ok (.sipush 280, 3) := by decide +kernel
theorem dX10_feed_10 : decode cX10_feed 10 = .ok (.if_icmp .le 5, 3) := by decide +kernel
theorem dX10_feed_13 : decode cX10_feed 13 = .ok (.iconst (-1), 1) := by decide +kernel
theorem dX10_feed_14 : decode cX10_feed 14 = .ok (.ireturn, 1) := by decide +kernel
theorem dX10_feed_15 : decode cX10_feed 15 = .ok (.aload_n 0, 1) := by decide +kernel
theorem dX10_feed_16 : decode cX10_feed 16 = .ok (.getfield 22, 3) := by decide +kernel
theorem dX10_feed_19 : decode cX10_feed 19 = .ok (.iload_n 1, 1) := by decide +kernel
theorem dX10_feed_20 : decode cX10_feed 20 = .ok (.invokevirtual 99, 3) := by decide +kernel
theorem dX10_feed_23 : decode cX10_feed 23 = .ok (.aload_n 0, 1) := by decide +kernel
theorem dX10_feed_24 : decode cX10_feed 24 = .ok (.getfield 22, 3) := by decide +kernel
theorem dX10_feed_27 : decode cX10_feed 27 = .ok (.iload_n 2, 1) := by decide +kernel
theorem dX10_feed_28 : decode cX10_feed 28 = .ok (.invokevirtual 99, 3) := by decide +kernel
theorem dX10_feed_31 : decode cX10_feed 31 = .ok (.aload_n 0, 1) := by decide +kernel
theorem dX10_feed_32 : decode cX10_feed 32 = .ok (.getfield 22, 3) := by decide +kernel
theorem dX10_feed_35 : decode cX10_feed 35 = .ok (.iload_n 3, 1) := by decide +kernel
theorem dX10_feed_36 : decode cX10_feed 36 = .ok (.invokevirtual 99, 3) := by decide +kernel
theorem dX10_feed_39 : decode cX10_feed 39 = .ok (.aload_n 0, 1) := by decide +kernel
theorem dX10_feed_40 : decode cX10_feed 40 = .ok (.getfield 22, 3) := by decide +kernel
theorem dX10_feed_43 : decode cX10_feed 43 = .ok (.iload 4, 2) := by decide +kernel
theorem dX10_feed_45 : decode cX10_feed 45 = .ok (.invokevirtual 99, 3) := by decide +kernel
theorem dX10_feed_48 : decode cX10_feed 48 = .ok (.aload_n 0, 1) := by decide +kernel
theorem dX10_feed_49 : decode cX10_feed 49 = .ok (.getfield 22, 3) := by decide +kernel
theorem dX10_feed_52 : decode cX10_feed 52 = .ok (.iload 5, 2) := by decide +kernel
theorem dX10_feed_54 : decode cX10_feed 54 = .ok (.invokevirtual 99, 3) := by decide +kernel
theorem dX10_feed_57 : decode cX10_feed 57 = .ok (.aload_n 0, 1) := by decide +kernel
theorem dX10_feed_58 : decode cX10_feed 58 = .ok (.getfield 22, 3) := by decide +kernel
theorem dX10_feed_61 : decode cX10_feed 61 = .ok (.getfield 96, 3) := by decide +kernel
theorem dX10_feed_64 : decode cX10_feed 64 = .ok (.ireturn, 1) := by decide +kernel
theorem dX10_end_0 : decode cX10_end 0 = .ok (.iload_n 1, 1) := by decide +kernel
theorem dX10_end_1 : decode cX10_end 1 = .ok (.iconst 0, 1) := by decide +kernel
theorem dX10_end_2 : decode cX10_end 2 = .ok (.aload_n 0, 1) := by decide +kernel
theorem dX10_end_3 : decode cX10_end 3 = .ok (.getfield 22, 3) := by decide +kernel
theorem dX10_end_6 : decode cX10_end 6 = .ok (.getfield 96, 3) := by decide +kernel
theorem dX10_end_9 : decode cX10_end 9 = .ok (.invokestatic 61, 3) := by decide +kernel
theorem dX10_end_12 : decode cX10_end 12 = .ok (.ifCond .ne 5, 3) := by decide +kernel
theorem dX10_end_15 : decode cX10_end 15 = .ok (.iconst (-1), 1) := by decide +kernel
theorem dX10_end_16 : decode cX10_end 16 = .ok (.ireturn, 1) := by decide +kernel
theorem dX10_end_17 : decode cX10_end 17 = .ok (.aload_n 0, 1) := by decide +kernel
theorem dX10_end_18 : decode cX10_end 18 = .ok (.getfield 22, 3) := by decide +kernel
theorem dX10_end_21 : decode cX10_end 21 = .ok (.iload_n 1, 1) := by decide +kernel
theorem dX10_end_22 : decode cX10_end 22 = .ok (.putfield 96, 3) := by decide +kernel
theorem dX10_end_25 : decode cX10_end 25 = .ok (.iload_n 1, 1) := by decide +kernel
theorem dX10_end_26 : decode cX10_end 26 = .ok (.ireturn, 1) := by decide +kernel
theorem dX10_text_0 : decode cX10_text 0 = .ok (.aload_n 0, 1) := by decide +kernel
theorem dX10_text_1 : decode cX10_text 1 = .ok (.getfield 10, 3) := by decide +kernel
theorem dX10_text_4 : decode cX10_text 4 = .ok (.getfield 103, 3) := by decide +kernel
theorem dX10_text_7 : decode cX10_text 7 = .ok (.istore_n 1, 1) := by decide +kernel
theorem dX10_text_8 : decode cX10_text 8 = .ok (.iload_n 1, 1) := by decide +kernel
theorem dX10_text_9 : decode cX10_text 9 = .ok (.ifCond .lt 8, 3) := by decide +kernel
theorem dX10_text_12 : decode cX10_text 12 = .ok (.iload_n 1, 1) := by decide +kernel
theorem dX10_text_13 : decode cX10_text 13 = .ok (.iconst 4, 1) := by decide +kernel
theorem dX10_text_14 : decode cX10_text 14 = .ok (.if_icmp .lt 5, 3) := by decide +kernel
theorem dX10_text_17 : decode cX10_text 17 = .ok (.iconst (-1), 1) := by decide +kernel
theorem dX10_text_18 : decode cX10_text 18 = .ok (.ireturn, 1) := by decide +kernel
theorem dX10_text_19 : decode cX10_text 19 = .ok (.aload_n 0, 1) := by decide +kernel
theorem dX10_text_20 : decode cX10_text 20 = .ok (.getfield 35, 3) := by decide +kernel
theorem dX10_text_23 : decode cX10_text 23 = .ok (.iload_n 1, 1) := by decide +kernel
theorem dX10_text_24 : decode cX10_text 24 = .ok (.aaload, 1) := by decide +kernel
theorem dX10_text_25 : decode cX10_text 25 = .ok (.astore_n 2, 1) := by decide +kernel
theorem dX10_text_26 : decode cX10_text 26 = .ok (.aload_n 0, 1) := by decide +kernel
theorem dX10_text_27 : decode cX10_text 27 = .ok (.getfield 29, 3) := by decide +kernel
theorem dX10_text_30 : decode cX10_text 30 = .ok (.aload_n 0, 1) := by decide +kernel
theorem dX10_text_31 : decode cX10_text 31 = .ok (.getfield 22, 3) := by decide +kernel
theorem dX10_text_34 : decode cX10_text 34 = .ok (.invokevirtual 105, 3) := by decide +kernel
theorem dX10_text_37 : decode cX10_text 37 = .ok (.istore_n 3, 1) := by decide +kernel
theorem dX10_text_38 : decode cX10_text 38 = .ok (.aload_n 0, 1) := by decide +kernel
theorem dX10_text_39 : decode cX10_text 39 = .ok (.getfield 22, 3) := by decide +kernel
theorem dX10_text_42 : decode cX10_text 42 = .ok (.iconst 0, 1) := by decide +kernel
theorem dX10_text_43 : decode cX10_text 43 = .ok (.putfield 96, 3) := by decide +kernel
theorem dX10_text_46 : decode cX10_text 46 = .ok (.iload_n 3, 1) := by decide +kernel
theorem dX10_text_47 : decode cX10_text 47 = .ok (.ifCond .eq 7, 3) := by decide +kernel
theorem dX10_text_50 : decode cX10_text 50 = .ok (.aload_n 2, 1) := by decide +kernel
theorem dX10_text_51 : decode cX10_text 51 = .ok (.ifnonnull 5, 3) := by decide +kernel
theorem dX10_text_54 : decode cX10_text 54 = .ok (.iconst (-1), 1) := by decide +kernel
theorem dX10_text_55 : decode cX10_text 55 = .ok (.ireturn, 1) := by decide +kernel
theorem dX10_text_56 : decode cX10_text 56 = .ok (.aload_n 2, 1) := by decide +kernel
theorem dX10_text_57 : decode cX10_text 57 = .ok (.aload_n 0, 1) := by decide +kernel
theorem dX10_text_58 : decode cX10_text 58 = .ok (.getfield 29, 3) := by decide +kernel
theorem dX10_text_61 : decode cX10_text 61 = .ok (.getfield 109, 3) := by decide +kernel
theorem dX10_text_64 : decode cX10_text 64 = .ok (.invokevirtual 113, 3) := by decide +kernel
theorem dX10_text_67 : decode cX10_text 67 = .ok (.aload_n 0, 1) := by decide +kernel
theorem dX10_text_68 : decode cX10_text 68 = .ok (.getfield 10, 3) := by decide +kernel
theorem dX10_text_71 : decode cX10_text 71 = .ok (.iload_n 1, 1) := by decide +kernel
theorem dX10_text_72 : decode cX10_text 72 = .ok (.iconst 1, 1) := by decide +kernel
theorem dX10_text_73 : decode cX10_text 73 = .ok (.iadd, 1) := by decide +kernel
theorem dX10_text_74 : decode cX10_text 74 = .ok (.putfield 103, 3) := by decide +kernel
theorem dX10_text_77 : decode cX10_text 77 = .ok (.iload_n 1, 1) := by decide +kernel
theorem dX10_text_78 : decode cX10_text 78 = .ok (.ireturn, 1) := by decide +kernel
theorem dX10_fault_0 : decode cX10_fault 0 = .ok (.aload_n 0, 1) := by decide +kernel
theorem dX10_fault_1 : decode cX10_fault 1 = .ok (.getfield 29, 3) := by decide +kernel
theorem dX10_fault_4 : decode cX10_fault 4 = .ok (.getfield 117, 3) := by decide +kernel
theorem dX10_fault_7 : decode cX10_fault 7 = .ok (.ifCond .ne 5, 3) := by decide +kernel
theorem dX10_fault_10 : decode cX10_fault 10 = .ok (.iconst (-1), 1) := by decide +kernel
theorem dX10_fault_11 : decode cX10_fault 11 = .ok (.ireturn, 1) := by decide +kernel
theorem dX10_fault_12 : decode cX10_fault 12 = .ok (.iload_n 1, 1) := by decide +kernel
theorem dX10_fault_13 : decode cX10_fault 13 = .ok (.ifCond .ne 11, 3) := by decide +kernel
theorem dX10_fault_16 : decode cX10_fault 16 = .ok (.aload_n 0, 1) := by decide +kernel
theorem dX10_fault_17 : decode cX10_fault 17 = .ok (.getfield 29, 3) := by decide +kernel
theorem dX10_fault_20 : decode cX10_fault 20 = .ok (.getfield 121, 3) := by decide +kernel
theorem dX10_fault_23 : decode cX10_fault 23 = .ok (.ireturn, 1) := by decide +kernel
theorem dX10_fault_24 : decode cX10_fault 24 = .ok (.iload_n 1, 1) := by decide +kernel
theorem dX10_fault_25 : decode cX10_fault 25 = .ok (.iconst 1, 1) := by decide +kernel
theorem dX10_fault_26 : decode cX10_fault 26 = .ok (.if_icmp .ne 13, 3) := by decide +kernel
theorem dX10_fault_29 : decode cX10_fault 29 = .ok (.aload_n 0, 1) := by decide +kernel
theorem dX10_fault_30 : decode cX10_fault 30 = .ok (.getfield 29, 3) := by decide +kernel
theorem dX10_fault_33 : decode cX10_fault 33 = .ok (.getfield 124, 3) := by decide +kernel
theorem dX10_fault_36 : decode cX10_fault 36 = .ok (.goto 4, 3) := by decide +kernel
theorem dX10_fault_39 : decode cX10_fault 39 = .ok (.iconst (-1), 1) := by decide +kernel
theorem dX10_fault_40 : decode cX10_fault 40 = .ok (.ireturn, 1) := by decide +kernel
theorem dX10_by_0 : decode cX10_by 0 = .ok (.iload_n 1, 1) := by decide +kernel
theorem dX10_by_1 : decode cX10_by 1 = .ok (.iconst (-1), 1) := by decide +kernel
theorem dX10_by_2 : decode cX10_by 2 = .ok (.if_icmp .eq 16, 3) := by decide +kernel
theorem dX10_by_5 : decode cX10_by 5 = .ok (.aload_n 0, 1) := by decide +kernel
theorem dX10_by_6 : decode cX10_by 6 = .ok (.getfield 10, 3) := by decide +kernel
theorem dX10_by_9 : decode cX10_by 9 = .ok (.iload_n 1, 1) := by decide +kernel
theorem dX10_by_10 : decode cX10_by 10 = .ok (.invokevirtual 127, 3) := by decide +kernel
theorem dX10_by_13 : decode cX10_by 13 = .ok (.ifCond .ne 5, 3) := by decide +kernel
theorem dX10_by_16 : decode cX10_by 16 = .ok (.iconst 0, 1) := by decide +kernel
theorem dX10_by_17 : decode cX10_by 17 = .ok (.ireturn, 1) := by decide +kernel
theorem dX10_by_18 : decode cX10_by 18 = .ok (.aload_n 0, 1) := by decide +kernel
theorem dX10_by_19 : decode cX10_by 19 = .ok (.getfield 10, 3) := by decide +kernel
theorem dX10_by_22 : decode cX10_by 22 = .ok (.iload_n 1, 1) := by decide +kernel
theorem dX10_by_23 : decode cX10_by 23 = .ok (.putfield 130, 3) := by decide +kernel
theorem dX10_by_26 : decode cX10_by 26 = .ok (.iconst 1, 1) := by decide +kernel
theorem dX10_by_27 : decode cX10_by 27 = .ok (.ireturn, 1) := by decide +kernel
theorem dX10_gives_0 : decode cX10_gives 0 = .ok (.aload_n 0, 1) := by decide +kernel
theorem dX10_gives_1 : decode cX10_gives 1 = .ok (.getfield 10, 3) := by decide +kernel
theorem dX10_gives_4 : decode cX10_gives 4 = .ok (.iload_n 2, 1) := by decide +kernel
theorem dX10_gives_5 : decode cX10_gives 5 = .ok (.iload_n 1, 1) := by decide +kernel
theorem dX10_gives_6 : decode cX10_gives 6 = .ok (.invokevirtual 133, 3) := by decide +kernel
theorem dX10_gives_9 : decode cX10_gives 9 = .ok (.ifCond .eq 23, 3) := by decide +kernel
theorem dX10_gives_12 : decode cX10_gives 12 = .ok (.aload_n 0, 1) := by decide +kernel
theorem dX10_gives_13 : decode cX10_gives 13 = .ok (.getfield 43, 3) := by decide +kernel
theorem dX10_gives_16 : decode cX10_gives 16 = .ok (.aload_n 0, 1) := by decide +kernel
theorem dX10_gives_17 : decode cX10_gives 17 = .ok (.getfield 10, 3) := by decide +kernel
theorem dX10_gives_20 : decode cX10_gives 20 = .ok (.aload_n 0, 1) := by decide +kernel
theorem dX10_gives_21 : decode cX10_gives 21 = .ok (.invokevirtual 137, 3) := by decide +kernel
theorem dX10_gives_24 : decode cX10_gives 24 = .ok (.iload_n 1, 1) := by decide +kernel
theorem dX10_gives_25 : decode cX10_gives 25 = .ok (.iload_n 2, 1) := by decide +kernel
theorem dX10_gives_26 : decode cX10_gives 26 = .ok (.invokevirtual 140, 3) := by decide +kernel
theorem dX10_gives_29 : decode cX10_gives 29 = .ok (.goto 4, 3) := by decide +kernel
theorem dX10_gives_32 : decode cX10_gives 32 = .ok (.iconst (-1), 1) := by decide +kernel
theorem dX10_gives_33 : decode cX10_gives 33 = .ok (.ireturn, 1) := by decide +kernel
theorem dX10_pay_0 : decode cX10_pay 0 = .ok (.aload_n 0, 1) := by decide +kernel
theorem dX10_pay_1 : decode cX10_pay 1 = .ok (.getfield 10, 3) := by decide +kernel
theorem dX10_pay_4 : decode cX10_pay 4 = .ok (.iload_n 1, 1) := by decide +kernel
theorem dX10_pay_5 : decode cX10_pay 5 = .ok (.iload_n 2, 1) := by decide +kernel
theorem dX10_pay_6 : decode cX10_pay 6 = .ok (.invokevirtual 133, 3) := by decide +kernel
theorem dX10_pay_9 : decode cX10_pay 9 = .ok (.ifCond .ne 5, 3) := by decide +kernel
theorem dX10_pay_12 : decode cX10_pay 12 = .ok (.iconst (-1), 1) := by decide +kernel
theorem dX10_pay_13 : decode cX10_pay 13 = .ok (.ireturn, 1) := by decide +kernel
theorem dX10_pay_14 : decode cX10_pay 14 = .ok (.aload_n 0, 1) := by decide +kernel
theorem dX10_pay_15 : decode cX10_pay 15 = .ok (.getfield 10, 3) := by decide +kernel
theorem dX10_pay_18 : decode cX10_pay 18 = .ok (.iload_n 1, 1) := by decide +kernel
theorem dX10_pay_19 : decode cX10_pay 19 = .ok (.iload_n 2, 1) := by decide +kernel
theorem dX10_pay_20 : decode cX10_pay 20 = .ok (.aload_n 0, 1) := by decide +kernel
theorem dX10_pay_21 : decode cX10_pay 21 = .ok (.getfield 43, 3) := by decide +kernel
theorem dX10_pay_24 : decode cX10_pay 24 = .ok (.aload_n 0, 1) := by decide +kernel
theorem dX10_pay_25 : decode cX10_pay 25 = .ok (.getfield 10, 3) := by decide +kernel
theorem dX10_pay_28 : decode cX10_pay 28 = .ok (.aload_n 0, 1) := by decide +kernel
theorem dX10_pay_29 : decode cX10_pay 29 = .ok (.invokevirtual 137, 3) := by decide +kernel
theorem dX10_pay_32 : decode cX10_pay 32 = .ok (.iload_n 2, 1) := by decide +kernel
theorem dX10_pay_33 : decode cX10_pay 33 = .ok (.iload_n 1, 1) := by decide +kernel
theorem dX10_pay_34 : decode cX10_pay 34 = .ok (.invokevirtual 140, 3) := by decide +kernel
theorem dX10_pay_37 : decode cX10_pay 37 = .ok (.invokevirtual 144, 3) := by decide +kernel
theorem dX10_pay_40 : decode cX10_pay 40 = .ok (.ireturn, 1) := by decide +kernel
theorem dX10_wash_0 : decode cX10_wash 0 = .ok (.aload_n 0, 1) := by decide +kernel
theorem dX10_wash_1 : decode cX10_wash 1 = .ok (.getfield 10, 3) := by decide +kernel
theorem dX10_wash_4 : decode cX10_wash 4 = .ok (.iload_n 1, 1) := by decide +kernel
theorem dX10_wash_5 : decode cX10_wash 5 = .ok (.invokevirtual 148, 3) := by decide +kernel
theorem dX10_wash_8 : decode cX10_wash 8 = .ok (.ifCond .eq 14, 3) := by decide +kernel
theorem dX10_wash_11 : decode cX10_wash 11 = .ok (.aload_n 0, 1) := by decide +kernel
theorem dX10_wash_12 : decode cX10_wash 12 = .ok (.getfield 10, 3) := by decide +kernel
theorem dX10_wash_15 : decode cX10_wash 15 = .ok (.iload_n 1, 1) := by decide +kernel
theorem dX10_wash_16 : decode cX10_wash 16 = .ok (.invokevirtual 151, 3) := by decide +kernel
theorem dX10_wash_19 : decode cX10_wash 19 = .ok (.goto 4, 3) := by decide +kernel
theorem dX10_wash_22 : decode cX10_wash 22 = .ok (.iconst (-1), 1) := by decide +kernel
theorem dX10_wash_23 : decode cX10_wash 23 = .ok (.ireturn, 1) := by decide +kernel
theorem dX10_played_0 : decode cX10_played 0 = .ok (.aload_n 0, 1) := by decide +kernel
theorem dX10_played_1 : decode cX10_played 1 = .ok (.getfield 10, 3) := by decide +kernel
theorem dX10_played_4 : decode cX10_played 4 = .ok (.iload_n 1, 1) := by decide +kernel
theorem dX10_played_5 : decode cX10_played 5 = .ok (.invokevirtual 127, 3) := by decide +kernel
theorem dX10_played_8 : decode cX10_played 8 = .ok (.ifCond .ne 6, 3) := by decide +kernel
theorem dX10_played_11 : decode cX10_played 11 = .ok (.bipush (-2), 2) := by decide +kernel
theorem dX10_played_13 : decode cX10_played 13 = .ok (.ireturn, 1) := by decide +kernel
theorem dX10_played_14 : decode cX10_played 14 = .ok (.aload_n 0, 1) := by decide +kernel
theorem dX10_played_15 : decode cX10_played 15 = .ok (.getfield 35, 3) := by decide +kernel
theorem dX10_played_18 : decode cX10_played 18 = .ok (.iload_n 1, 1) := by decide +kernel
theorem dX10_played_19 : decode cX10_played 19 = .ok (.aaload, 1) := by decide +kernel
theorem dX10_played_20 : decode cX10_played 20 = .ok (.astore_n 2, 1) := by decide +kernel
theorem dX10_played_21 : decode cX10_played 21 = .ok (.aload_n 2, 1) := by decide +kernel
theorem dX10_played_22 : decode cX10_played 22 = .ok (.ifnonnull 6, 3) := by decide +kernel
theorem dX10_played_25 : decode cX10_played 25 = .ok (.bipush (-2), 2) := by decide +kernel
theorem dX10_played_27 : decode cX10_played 27 = .ok (.ireturn, 1) := by decide +kernel
theorem dX10_played_28 : decode cX10_played 28 = .ok (.iconst 0, 1) := by decide +kernel
theorem dX10_played_29 : decode cX10_played 29 = .ok (.istore_n 3, 1) := by decide +kernel
theorem dX10_played_30 : decode cX10_played 30 = .ok (.iload_n 3, 1) := by decide +kernel
theorem dX10_played_31 : decode cX10_played 31 = .ok (.aload_n 2, 1) := by decide +kernel
theorem dX10_played_32 : decode cX10_played 32 = .ok (.getfield 154, 3) := by decide +kernel
theorem dX10_played_35 : decode cX10_played 35 = .ok (.if_icmp .ge 42, 3) := by decide +kernel
theorem dX10_played_38 : decode cX10_played 38 = .ok (.iload_n 3, 1) := by decide +kernel
theorem dX10_played_39 : decode cX10_played 39 = .ok (.bipush 20, 2) := by decide +kernel
theorem dX10_played_41 : decode cX10_played 41 = .ok (.if_icmp .ge 36, 3) := by decide +kernel
theorem dX10_played_44 : decode cX10_played 44 = .ok (.aload_n 0, 1) := by decide +kernel
theorem dX10_played_45 : decode cX10_played 45 = .ok (.aload_n 2, 1) := by decide +kernel
theorem dX10_played_46 : decode cX10_played 46 = .ok (.getfield 157, 3) := by decide +kernel
theorem dX10_played_49 : decode cX10_played 49 = .ok (.iload_n 3, 1) := by decide +kernel
theorem dX10_played_50 : decode cX10_played 50 = .ok (.iaload, 1) := by decide +kernel
theorem dX10_played_51 : decode cX10_played 51 = .ok (.aload_n 2, 1) := by decide +kernel
theorem dX10_played_52 : decode cX10_played 52 = .ok (.getfield 161, 3) := by decide +kernel
theorem dX10_played_55 : decode cX10_played 55 = .ok (.iload_n 3, 1) := by decide +kernel
theorem dX10_played_56 : decode cX10_played 56 = .ok (.iaload, 1) := by decide +kernel
theorem dX10_played_57 : decode cX10_played 57 = .ok (.aload_n 2, 1) := by decide +kernel
theorem dX10_played_58 : decode cX10_played 58 = .ok (.getfield 164, 3) := by decide +kernel
theorem dX10_played_61 : decode cX10_played 61 = .ok (.iload_n 3, 1) := by decide +kernel
theorem dX10_played_62 : decode cX10_played 62 = .ok (.iaload, 1) := by decide +kernel
theorem dX10_played_63 : decode cX10_played 63 = .ok (.invokevirtual 167, 3) := by decide +kernel
theorem dX10_played_66 : decode cX10_played 66 = .ok (.ifCond .ne 5, 3) := by decide +kernel
theorem dX10_played_69 : decode cX10_played 69 = .ok (.iload_n 3, 1) := by decide +kernel
theorem dX10_played_70 : decode cX10_played 70 = .ok (.ireturn, 1) := by decide +kernel
theorem dX10_played_71 : decode cX10_played 71 = .ok (.iinc 3 1, 3) := by decide +kernel
theorem dX10_played_74 : decode cX10_played 74 = .ok (.goto (-44), 3) := by decide +kernel
theorem dX10_played_77 : decode cX10_played 77 = .ok (.iconst (-1), 1) := by decide +kernel
theorem dX10_played_78 : decode cX10_played 78 = .ok (.ireturn, 1) := by decide +kernel
theorem dX10_undo_0 : decode cX10_undo 0 = .ok (.aload_n 0, 1) := by decide +kernel
theorem dX10_undo_1 : decode cX10_undo 1 = .ok (.getfield 10, 3) := by decide +kernel
theorem dX10_undo_4 : decode cX10_undo 4 = .ok (.invokevirtual 170, 3) := by decide +kernel
theorem dX10_undo_7 : decode cX10_undo 7 = .ok (.ireturn, 1) := by decide +kernel
theorem dX10_of_0 : decode cX10_of 0 = .ok (.aload_n 0, 1) := by decide +kernel
theorem dX10_of_1 : decode cX10_of 1 = .ok (.getfield 10, 3) := by decide +kernel
theorem dX10_of_4 : decode cX10_of 4 = .ok (.iload_n 1, 1) := by decide +kernel
theorem dX10_of_5 : decode cX10_of 5 = .ok (.invokevirtual 148, 3) := by decide +kernel
theorem dX10_of_8 : decode cX10_of 8 = .ok (.ifCond .ne 5, 3) := by decide +kernel
theorem dX10_of_11 : decode cX10_of 11 = .ok (.iconst (-1), 1) := by decide +kernel
theorem dX10_of_12 : decode cX10_of 12 = .ok (.ireturn, 1) := by decide +kernel
theorem dX10_of_13 : decode cX10_of 13 = .ok (.iload_n 2, 1) := by decide +kernel
theorem dX10_of_14 : decode cX10_of 14 = .ok (.tableswitch 94 0 5 #[38, 48, 58, 68, 78, 88], 38) := by decide +kernel
theorem dX10_of_52 : decode cX10_of 52 = .ok (.aload_n 0, 1) := by decide +kernel
theorem dX10_of_53 : decode cX10_of 53 = .ok (.getfield 10, 3) := by decide +kernel
theorem dX10_of_56 : decode cX10_of 56 = .ok (.getfield 174, 3) := by decide +kernel
theorem dX10_of_59 : decode cX10_of 59 = .ok (.iload_n 1, 1) := by decide +kernel
theorem dX10_of_60 : decode cX10_of 60 = .ok (.iaload, 1) := by decide +kernel
theorem dX10_of_61 : decode cX10_of 61 = .ok (.ireturn, 1) := by decide +kernel
theorem dX10_of_62 : decode cX10_of 62 = .ok (.aload_n 0, 1) := by decide +kernel
theorem dX10_of_63 : decode cX10_of 63 = .ok (.getfield 10, 3) := by decide +kernel
theorem dX10_of_66 : decode cX10_of 66 = .ok (.getfield 177, 3) := by decide +kernel
theorem dX10_of_69 : decode cX10_of 69 = .ok (.iload_n 1, 1) := by decide +kernel
theorem dX10_of_70 : decode cX10_of 70 = .ok (.iaload, 1) := by decide +kernel
theorem dX10_of_71 : decode cX10_of 71 = .ok (.ireturn, 1) := by decide +kernel
theorem dX10_of_72 : decode cX10_of 72 = .ok (.aload_n 0, 1) := by decide +kernel
theorem dX10_of_73 : decode cX10_of 73 = .ok (.getfield 10, 3) := by decide +kernel
theorem dX10_of_76 : decode cX10_of 76 = .ok (.getfield 180, 3) := by decide +kernel
theorem dX10_of_79 : decode cX10_of 79 = .ok (.iload_n 1, 1) := by decide +kernel
theorem dX10_of_80 : decode cX10_of 80 = .ok (.iaload, 1) := by decide +kernel
theorem dX10_of_81 : decode cX10_of 81 = .ok (.ireturn, 1) := by decide +kernel
theorem dX10_of_82 : decode cX10_of 82 = .ok (.aload_n 0, 1) := by decide +kernel
theorem dX10_of_83 : decode cX10_of 83 = .ok (.getfield 10, 3) := by decide +kernel
theorem dX10_of_86 : decode cX10_of 86 = .ok (.getfield 183, 3) := by decide +kernel
theorem dX10_of_89 : decode cX10_of 89 = .ok (.iload_n 1, 1) := by decide +kernel
theorem dX10_of_90 : decode cX10_of 90 = .ok (.iaload, 1) := by decide +kernel
theorem dX10_of_91 : decode cX10_of 91 = .ok (.ireturn, 1) := by decide +kernel
theorem dX10_of_92 : decode cX10_of 92 = .ok (.aload_n 0, 1) := by decide +kernel
theorem dX10_of_93 : decode cX10_of 93 = .ok (.getfield 10, 3) := by decide +kernel
theorem dX10_of_96 : decode cX10_of 96 = .ok (.getfield 186, 3) := by decide +kernel
theorem dX10_of_99 : decode cX10_of 99 = .ok (.iload_n 1, 1) := by decide +kernel
theorem dX10_of_100 : decode cX10_of 100 = .ok (.iaload, 1) := by decide +kernel
