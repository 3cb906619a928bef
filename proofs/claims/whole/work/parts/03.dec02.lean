theorem dX4_isCoin_9 : decode cX4_isCoin 9 = .ok (.if_icmp .ge 13, 3) := by decide +kernel
theorem dX4_isCoin_12 : decode cX4_isCoin 12 = .ok (.iload_n 1, 1) := by decide +kernel
theorem dX4_isCoin_13 : decode cX4_isCoin 13 = .ok (.bipush 20, 2) := by decide +kernel
theorem dX4_isCoin_15 : decode cX4_isCoin 15 = .ok (.if_icmp .ge 7, 3) := by decide +kernel
theorem dX4_isCoin_18 : decode cX4_isCoin 18 = .ok (.iconst 1, 1) := by decide +kernel
theorem dX4_isCoin_19 : decode cX4_isCoin 19 = .ok (.goto 4, 3) := by decide +kernel
theorem dX4_isCoin_22 : decode cX4_isCoin 22 = .ok (.iconst 0, 1) := by decide +kernel
theorem dX4_isCoin_23 : decode cX4_isCoin 23 = .ok (.ireturn, 1) := by decide +kernel
theorem dX4_isText_0 : decode cX4_isText 0 = .ok (.iload_n 1, 1) := by decide +kernel
theorem dX4_isText_1 : decode cX4_isText 1 = .ok (.ifCond .lt 20, 3) := by decide +kernel
theorem dX4_isText_4 : decode cX4_isText 4 = .ok (.iload_n 1, 1) := by decide +kernel
theorem dX4_isText_5 : decode cX4_isText 5 = .ok (.aload_n 0, 1) := by decide +kernel
theorem dX4_isText_6 : decode cX4_isText 6 = .ok (.getfield 72, 3) := by decide +kernel
theorem dX4_isText_9 : decode cX4_isText 9 = .ok (.if_icmp .ge 12, 3) := by decide +kernel
theorem dX4_isText_12 : decode cX4_isText 12 = .ok (.iload_n 1, 1) := by decide +kernel
theorem dX4_isText_13 : decode cX4_isText 13 = .ok (.iconst 4, 1) := by decide +kernel
theorem dX4_isText_14 : decode cX4_isText 14 = .ok (.if_icmp .ge 7, 3) := by decide +kernel
theorem dX4_isText_17 : decode cX4_isText 17 = .ok (.iconst 1, 1) := by decide +kernel
theorem dX4_isText_18 : decode cX4_isText 18 = .ok (.goto 4, 3) := by decide +kernel
theorem dX4_isText_21 : decode cX4_isText 21 = .ok (.iconst 0, 1) := by decide +kernel
theorem dX4_isText_22 : decode cX4_isText 22 = .ok (.ireturn, 1) := by decide +kernel
theorem dX4_isMarketDay_0 : decode cX4_isMarketDay 0 = .ok (.aload_n 0, 1) := by decide +kernel
theorem dX4_isMarketDay_1 : decode cX4_isMarketDay 1 = .ok (.getfield 66, 3) := by decide +kernel
theorem dX4_isMarketDay_4 : decode cX4_isMarketDay 4 = .ok (.bipush 24, 2) := by decide +kernel
theorem dX4_isMarketDay_6 : decode cX4_isMarketDay 6 = .ok (.idiv, 1) := by decide +kernel
theorem dX4_isMarketDay_7 : decode cX4_isMarketDay 7 = .ok (.bipush 7, 2) := by decide +kernel
theorem dX4_isMarketDay_9 : decode cX4_isMarketDay 9 = .ok (.irem, 1) := by decide +kernel
theorem dX4_isMarketDay_10 : decode cX4_isMarketDay 10 = .ok (.aload_n 0, 1) := by decide +kernel
theorem dX4_isMarketDay_11 : decode cX4_isMarketDay 11 = .ok (.getfield 69, 3) := by decide +kernel
theorem dX4_isMarketDay_14 : decode cX4_isMarketDay 14 = .ok (.if_icmp .ne 7, 3) := by decide +kernel
theorem dX4_isMarketDay_17 : decode cX4_isMarketDay 17 = .ok (.iconst 1, 1) := by decide +kernel
theorem dX4_isMarketDay_18 : decode cX4_isMarketDay 18 = .ok (.goto 4, 3) := by decide +kernel
theorem dX4_isMarketDay_21 : decode cX4_isMarketDay 21 = .ok (.iconst 0, 1) := by decide +kernel
theorem dX4_isMarketDay_22 : decode cX4_isMarketDay 22 = .ok (.ireturn, 1) := by decide +kernel
theorem dX4_canBePaid_0 : decode cX4_canBePaid 0 = .ok (.aload_n 0, 1) := by decide +kernel
theorem dX4_canBePaid_1 : decode cX4_canBePaid 1 = .ok (.iload_n 1, 1) := by decide +kernel
theorem dX4_canBePaid_2 : decode cX4_canBePaid 2 = .ok (.invokevirtual 78, 3) := by decide +kernel
theorem dX4_canBePaid_5 : decode cX4_canBePaid 5 = .ok (.ifCond .eq 25, 3) := by decide +kernel
theorem dX4_canBePaid_8 : decode cX4_canBePaid 8 = .ok (.aload_n 0, 1) := by decide +kernel
theorem dX4_canBePaid_9 : decode cX4_canBePaid 9 = .ok (.iload_n 2, 1) := by decide +kernel
theorem dX4_canBePaid_10 : decode cX4_canBePaid 10 = .ok (.invokevirtual 82, 3) := by decide +kernel
theorem dX4_canBePaid_13 : decode cX4_canBePaid 13 = .ok (.ifCond .eq 17, 3) := by decide +kernel
theorem dX4_canBePaid_16 : decode cX4_canBePaid 16 = .ok (.aload_n 0, 1) := by decide +kernel
theorem dX4_canBePaid_17 : decode cX4_canBePaid 17 = .ok (.getfield 21, 3) := by decide +kernel
theorem dX4_canBePaid_20 : decode cX4_canBePaid 20 = .ok (.iload_n 1, 1) := by decide +kernel
theorem dX4_canBePaid_21 : decode cX4_canBePaid 21 = .ok (.iaload, 1) := by decide +kernel
theorem dX4_canBePaid_22 : decode cX4_canBePaid 22 = .ok (.iload_n 2, 1) := by decide +kernel
theorem dX4_canBePaid_23 : decode cX4_canBePaid 23 = .ok (.if_icmp .eq 7, 3) := by decide +kernel
theorem dX4_canBePaid_26 : decode cX4_canBePaid 26 = .ok (.iconst 1, 1) := by decide +kernel
theorem dX4_canBePaid_27 : decode cX4_canBePaid 27 = .ok (.goto 4, 3) := by decide +kernel
theorem dX4_canBePaid_30 : decode cX4_canBePaid 30 = .ok (.iconst 0, 1) := by decide +kernel
theorem dX4_canBePaid_31 : decode cX4_canBePaid 31 = .ok (.ireturn, 1) := by decide +kernel
theorem dX4_addHand_0 : decode cX4_addHand 0 = .ok (.aload_n 0, 1) := by decide +kernel
theorem dX4_addHand_1 : decode cX4_addHand 1 = .ok (.getfield 60, 3) := by decide +kernel
theorem dX4_addHand_4 : decode cX4_addHand 4 = .ok (.ifCond .lt 12, 3) := by decide +kernel
theorem dX4_addHand_7 : decode cX4_addHand 7 = .ok (.aload_n 0, 1) := by decide +kernel
theorem dX4_addHand_8 : decode cX4_addHand 8 = .ok (.getfield 60, 3) := by decide +kernel
theorem dX4_addHand_11 : decode cX4_addHand 11 = .ok (.bipush 10, 2) := by decide +kernel
theorem dX4_addHand_13 : decode cX4_addHand 13 = .ok (.if_icmp .lt 5, 3) := by decide +kernel
theorem dX4_addHand_16 : decode cX4_addHand 16 = .ok (.iconst (-1), 1) := by decide +kernel
theorem dX4_addHand_17 : decode cX4_addHand 17 = .ok (.ireturn, 1) := by decide +kernel
theorem dX4_addHand_18 : decode cX4_addHand 18 = .ok (.aload_n 0, 1) := by decide +kernel
theorem dX4_addHand_19 : decode cX4_addHand 19 = .ok (.getfield 9, 3) := by decide +kernel
theorem dX4_addHand_22 : decode cX4_addHand 22 = .ok (.aload_n 0, 1) := by decide +kernel
theorem dX4_addHand_23 : decode cX4_addHand 23 = .ok (.getfield 60, 3) := by decide +kernel
theorem dX4_addHand_26 : decode cX4_addHand 26 = .ok (.iload_n 1, 1) := by decide +kernel
theorem dX4_addHand_27 : decode cX4_addHand 27 = .ok (.iastore, 1) := by decide +kernel
theorem dX4_addHand_28 : decode cX4_addHand 28 = .ok (.aload_n 0, 1) := by decide +kernel
theorem dX4_addHand_29 : decode cX4_addHand 29 = .ok (.dup, 1) := by decide +kernel
theorem dX4_addHand_30 : decode cX4_addHand 30 = .ok (.getfield 60, 3) := by decide +kernel
theorem dX4_addHand_33 : decode cX4_addHand 33 = .ok (.iconst 1, 1) := by decide +kernel
theorem dX4_addHand_34 : decode cX4_addHand 34 = .ok (.iadd, 1) := by decide +kernel
theorem dX4_addHand_35 : decode cX4_addHand 35 = .ok (.putfield 60, 3) := by decide +kernel
theorem dX4_addHand_38 : decode cX4_addHand 38 = .ok (.aload_n 0, 1) := by decide +kernel
theorem dX4_addHand_39 : decode cX4_addHand 39 = .ok (.getfield 60, 3) := by decide +kernel
theorem dX4_addHand_42 : decode cX4_addHand 42 = .ok (.iconst 1, 1) := by decide +kernel
theorem dX4_addHand_43 : decode cX4_addHand 43 = .ok (.isub, 1) := by decide +kernel
theorem dX4_addHand_44 : decode cX4_addHand 44 = .ok (.ireturn, 1) := by decide +kernel
theorem dX4_addCoin_0 : decode cX4_addCoin 0 = .ok (.aload_n 0, 1) := by decide +kernel
theorem dX4_addCoin_1 : decode cX4_addCoin 1 = .ok (.getfield 63, 3) := by decide +kernel
theorem dX4_addCoin_4 : decode cX4_addCoin 4 = .ok (.istore_n 3, 1) := by decide +kernel
theorem dX4_addCoin_5 : decode cX4_addCoin 5 = .ok (.iload_n 3, 1) := by decide +kernel
theorem dX4_addCoin_6 : decode cX4_addCoin 6 = .ok (.ifCond .lt 9, 3) := by decide +kernel
theorem dX4_addCoin_9 : decode cX4_addCoin 9 = .ok (.iload_n 3, 1) := by decide +kernel
theorem dX4_addCoin_10 : decode cX4_addCoin 10 = .ok (.bipush 20, 2) := by decide +kernel
theorem dX4_addCoin_12 : decode cX4_addCoin 12 = .ok (.if_icmp .lt 5, 3) := by decide +kernel
theorem dX4_addCoin_15 : decode cX4_addCoin 15 = .ok (.iconst (-1), 1) := by decide +kernel
theorem dX4_addCoin_16 : decode cX4_addCoin 16 = .ok (.ireturn, 1) := by decide +kernel
theorem dX4_addCoin_17 : decode cX4_addCoin 17 = .ok (.aload_n 0, 1) := by decide +kernel
theorem dX4_addCoin_18 : decode cX4_addCoin 18 = .ok (.getfield 15, 3) := by decide +kernel
theorem dX4_addCoin_21 : decode cX4_addCoin 21 = .ok (.iload_n 3, 1) := by decide +kernel
theorem dX4_addCoin_22 : decode cX4_addCoin 22 = .ok (.iload_n 1, 1) := by decide +kernel
theorem dX4_addCoin_23 : decode cX4_addCoin 23 = .ok (.iastore, 1) := by decide +kernel
theorem dX4_addCoin_24 : decode cX4_addCoin 24 = .ok (.aload_n 0, 1) := by decide +kernel
theorem dX4_addCoin_25 : decode cX4_addCoin 25 = .ok (.getfield 18, 3) := by decide +kernel
theorem dX4_addCoin_28 : decode cX4_addCoin 28 = .ok (.iload_n 3, 1) := by decide +kernel
theorem dX4_addCoin_29 : decode cX4_addCoin 29 = .ok (.iload_n 1, 1) := by decide +kernel
theorem dX4_addCoin_30 : decode cX4_addCoin 30 = .ok (.iastore, 1) := by decide +kernel
theorem dX4_addCoin_31 : decode cX4_addCoin 31 = .ok (.aload_n 0, 1) := by decide +kernel
theorem dX4_addCoin_32 : decode cX4_addCoin 32 = .ok (.getfield 21, 3) := by decide +kernel
theorem dX4_addCoin_35 : decode cX4_addCoin 35 = .ok (.iload_n 3, 1) := by decide +kernel
theorem dX4_addCoin_36 : decode cX4_addCoin 36 = .ok (.iload_n 2, 1) := by decide +kernel
theorem dX4_addCoin_37 : decode cX4_addCoin 37 = .ok (.iastore, 1) := by decide +kernel
theorem dX4_addCoin_38 : decode cX4_addCoin 38 = .ok (.aload_n 0, 1) := by decide +kernel
theorem dX4_addCoin_39 : decode cX4_addCoin 39 = .ok (.getfield 24, 3) := by decide +kernel
theorem dX4_addCoin_42 : decode cX4_addCoin 42 = .ok (.iload_n 3, 1) := by decide +kernel
theorem dX4_addCoin_43 : decode cX4_addCoin 43 = .ok (.iconst 0, 1) := by decide +kernel
theorem dX4_addCoin_44 : decode cX4_addCoin 44 = .ok (.iastore, 1) := by decide +kernel
theorem dX4_addCoin_45 : decode cX4_addCoin 45 = .ok (.aload_n 0, 1) := by decide +kernel
theorem dX4_addCoin_46 : decode cX4_addCoin 46 = .ok (.getfield 27, 3) := by decide +kernel
theorem dX4_addCoin_49 : decode cX4_addCoin 49 = .ok (.iload_n 3, 1) := by decide +kernel
theorem dX4_addCoin_50 : decode cX4_addCoin 50 = .ok (.iconst (-1), 1) := by decide +kernel
theorem dX4_addCoin_51 : decode cX4_addCoin 51 = .ok (.iastore, 1) := by decide +kernel
theorem dX4_addCoin_52 : decode cX4_addCoin 52 = .ok (.aload_n 0, 1) := by decide +kernel
theorem dX4_addCoin_53 : decode cX4_addCoin 53 = .ok (.dup, 1) := by decide +kernel
theorem dX4_addCoin_54 : decode cX4_addCoin 54 = .ok (.getfield 63, 3) := by decide +kernel
theorem dX4_addCoin_57 : decode cX4_addCoin 57 = .ok (.iconst 1, 1) := by decide +kernel
theorem dX4_addCoin_58 : decode cX4_addCoin 58 = .ok (.iadd, 1) := by decide +kernel
theorem dX4_addCoin_59 : decode cX4_addCoin 59 = .ok (.putfield 63, 3) := by decide +kernel
theorem dX4_addCoin_62 : decode cX4_addCoin 62 = .ok (.iload_n 3, 1) := by decide +kernel
theorem dX4_addCoin_63 : decode cX4_addCoin 63 = .ok (.ireturn, 1) := by decide +kernel
theorem dX4_addGain_0 : decode cX4_addGain 0 = .ok (.aload_n 0, 1) := by decide +kernel
theorem dX4_addGain_1 : decode cX4_addGain 1 = .ok (.getfield 75, 3) := by decide +kernel
theorem dX4_addGain_4 : decode cX4_addGain 4 = .ok (.ifCond .lt 11, 3) := by decide +kernel
theorem dX4_addGain_7 : decode cX4_addGain 7 = .ok (.aload_n 0, 1) := by decide +kernel
theorem dX4_addGain_8 : decode cX4_addGain 8 = .ok (.getfield 75, 3) := by decide +kernel
theorem dX4_addGain_11 : decode cX4_addGain 11 = .ok (.iconst 4, 1) := by decide +kernel
theorem dX4_addGain_12 : decode cX4_addGain 12 = .ok (.if_icmp .lt 5, 3) := by decide +kernel
theorem dX4_addGain_15 : decode cX4_addGain 15 = .ok (.iconst (-1), 1) := by decide +kernel
theorem dX4_addGain_16 : decode cX4_addGain 16 = .ok (.ireturn, 1) := by decide +kernel
theorem dX4_addGain_17 : decode cX4_addGain 17 = .ok (.aload_n 0, 1) := by decide +kernel
theorem dX4_addGain_18 : decode cX4_addGain 18 = .ok (.getfield 44, 3) := by decide +kernel
theorem dX4_addGain_21 : decode cX4_addGain 21 = .ok (.aload_n 0, 1) := by decide +kernel
theorem dX4_addGain_22 : decode cX4_addGain 22 = .ok (.getfield 75, 3) := by decide +kernel
theorem dX4_addGain_25 : decode cX4_addGain 25 = .ok (.iload_n 1, 1) := by decide +kernel
theorem dX4_addGain_26 : decode cX4_addGain 26 = .ok (.iastore, 1) := by decide +kernel
theorem dX4_addGain_27 : decode cX4_addGain 27 = .ok (.aload_n 0, 1) := by decide +kernel
theorem dX4_addGain_28 : decode cX4_addGain 28 = .ok (.getfield 47, 3) := by decide +kernel
theorem dX4_addGain_31 : decode cX4_addGain 31 = .ok (.aload_n 0, 1) := by decide +kernel
theorem dX4_addGain_32 : decode cX4_addGain 32 = .ok (.getfield 75, 3) := by decide +kernel
theorem dX4_addGain_35 : decode cX4_addGain 35 = .ok (.iload_n 2, 1) := by decide +kernel
theorem dX4_addGain_36 : decode cX4_addGain 36 = .ok (.iastore, 1) := by decide +kernel
theorem dX4_addGain_37 : decode cX4_addGain 37 = .ok (.aload_n 0, 1) := by decide +kernel
theorem dX4_addGain_38 : decode cX4_addGain 38 = .ok (.dup, 1) := by decide +kernel
theorem dX4_addGain_39 : decode cX4_addGain 39 = .ok (.getfield 75, 3) := by decide +kernel
theorem dX4_addGain_42 : decode cX4_addGain 42 = .ok (.iconst 1, 1) := by decide +kernel
theorem dX4_addGain_43 : decode cX4_addGain 43 = .ok (.iadd, 1) := by decide +kernel
theorem dX4_addGain_44 : decode cX4_addGain 44 = .ok (.putfield 75, 3) := by decide +kernel
theorem dX4_addGain_47 : decode cX4_addGain 47 = .ok (.aload_n 0, 1) := by decide +kernel
theorem dX4_addGain_48 : decode cX4_addGain 48 = .ok (.getfield 75, 3) := by decide +kernel
theorem dX4_addGain_51 : decode cX4_addGain 51 = .ok (.ireturn, 1) := by decide +kernel
theorem dX4_letPass_0 : decode cX4_letPass 0 = .ok (.iload_n 1, 1) := by decide +kernel
theorem dX4_letPass_1 : decode cX4_letPass 1 = .ok (.iconst 0, 1) := by decide +kernel
theorem dX4_letPass_2 : decode cX4_letPass 2 = .ok (.bipush 99, 2) := by decide +kernel
theorem dX4_letPass_4 : decode cX4_letPass 4 = .ok (.invokestatic 85, 3) := by decide +kernel
theorem dX4_letPass_7 : decode cX4_letPass 7 = .ok (.ifCond .eq 15, 3) := by decide +kernel
theorem dX4_letPass_10 : decode cX4_letPass 10 = .ok (.aload_n 0, 1) := by decide +kernel
theorem dX4_letPass_11 : decode cX4_letPass 11 = .ok (.getfield 66, 3) := by decide +kernel
theorem dX4_letPass_14 : decode cX4_letPass 14 = .ok (.iload_n 1, 1) := by decide +kernel
theorem dX4_letPass_15 : decode cX4_letPass 15 = .ok (.iadd, 1) := by decide +kernel
theorem dX4_letPass_16 : decode cX4_letPass 16 = .ok (.sipush 999, 3) := by decide +kernel
theorem dX4_letPass_19 : decode cX4_letPass 19 = .ok (.if_icmp .le 5, 3) := by decide +kernel
theorem dX4_letPass_22 : decode cX4_letPass 22 = .ok (.iconst 0, 1) := by decide +kernel
theorem dX4_letPass_23 : decode cX4_letPass 23 = .ok (.ireturn, 1) := by decide +kernel
theorem dX4_letPass_24 : decode cX4_letPass 24 = .ok (.aload_n 0, 1) := by decide +kernel
theorem dX4_letPass_25 : decode cX4_letPass 25 = .ok (.dup, 1) := by decide +kernel
theorem dX4_letPass_26 : decode cX4_letPass 26 = .ok (.getfield 66, 3) := by decide +kernel
theorem dX4_letPass_29 : decode cX4_letPass 29 = .ok (.iload_n 1, 1) := by decide +kernel
theorem dX4_letPass_30 : decode cX4_letPass 30 = .ok (.iadd, 1) := by decide +kernel
theorem dX4_letPass_31 : decode cX4_letPass 31 = .ok (.putfield 66, 3) := by decide +kernel
theorem dX4_letPass_34 : decode cX4_letPass 34 = .ok (.iconst 1, 1) := by decide +kernel
theorem dX4_letPass_35 : decode cX4_letPass 35 = .ok (.ireturn, 1) := by decide +kernel
theorem dX4_moveCoin_0 : decode cX4_moveCoin 0 = .ok (.aload_n 0, 1) := by decide +kernel
theorem dX4_moveCoin_1 : decode cX4_moveCoin 1 = .ok (.iload_n 1, 1) := by decide +kernel
theorem dX4_moveCoin_2 : decode cX4_moveCoin 2 = .ok (.invokevirtual 78, 3) := by decide +kernel
theorem dX4_moveCoin_5 : decode cX4_moveCoin 5 = .ok (.ifCond .ne 5, 3) := by decide +kernel
theorem dX4_moveCoin_8 : decode cX4_moveCoin 8 = .ok (.iconst (-1), 1) := by decide +kernel
theorem dX4_moveCoin_9 : decode cX4_moveCoin 9 = .ok (.ireturn, 1) := by decide +kernel
theorem dX4_moveCoin_10 : decode cX4_moveCoin 10 = .ok (.aload_n 0, 1) := by decide +kernel
theorem dX4_moveCoin_11 : decode cX4_moveCoin 11 = .ok (.getfield 40, 3) := by decide +kernel
theorem dX4_moveCoin_14 : decode cX4_moveCoin 14 = .ok (.iload_n 1, 1) := by decide +kernel
theorem dX4_moveCoin_15 : decode cX4_moveCoin 15 = .ok (.aload_n 0, 1) := by decide +kernel
theorem dX4_moveCoin_16 : decode cX4_moveCoin 16 = .ok (.getfield 18, 3) := by decide +kernel
theorem dX4_moveCoin_19 : decode cX4_moveCoin 19 = .ok (.iload_n 1, 1) := by decide +kernel
theorem dX4_moveCoin_20 : decode cX4_moveCoin 20 = .ok (.iaload, 1) := by decide +kernel
theorem dX4_moveCoin_21 : decode cX4_moveCoin 21 = .ok (.aload_n 0, 1) := by decide +kernel
theorem dX4_moveCoin_22 : decode cX4_moveCoin 22 = .ok (.getfield 21, 3) := by decide +kernel
theorem dX4_moveCoin_25 : decode cX4_moveCoin 25 = .ok (.iload_n 1, 1) := by decide +kernel
theorem dX4_moveCoin_26 : decode cX4_moveCoin 26 = .ok (.iaload, 1) := by decide +kernel
theorem dX4_moveCoin_27 : decode cX4_moveCoin 27 = .ok (.aload_n 0, 1) := by decide +kernel
theorem dX4_moveCoin_28 : decode cX4_moveCoin 28 = .ok (.getfield 24, 3) := by decide +kernel
theorem dX4_moveCoin_31 : decode cX4_moveCoin 31 = .ok (.iload_n 1, 1) := by decide +kernel
theorem dX4_moveCoin_32 : decode cX4_moveCoin 32 = .ok (.iaload, 1) := by decide +kernel
theorem dX4_moveCoin_33 : decode cX4_moveCoin 33 = .ok (.invokevirtual 89, 3) := by decide +kernel
theorem dX4_moveCoin_36 : decode cX4_moveCoin 36 = .ok (.aload_n 0, 1) := by decide +kernel
theorem dX4_moveCoin_37 : decode cX4_moveCoin 37 = .ok (.getfield 21, 3) := by decide +kernel
theorem dX4_moveCoin_40 : decode cX4_moveCoin 40 = .ok (.iload_n 1, 1) := by decide +kernel
theorem dX4_moveCoin_41 : decode cX4_moveCoin 41 = .ok (.iload_n 2, 1) := by decide +kernel
theorem dX4_moveCoin_42 : decode cX4_moveCoin 42 = .ok (.iastore, 1) := by decide +kernel
theorem dX4_moveCoin_43 : decode cX4_moveCoin 43 = .ok (.aload_n 0, 1) := by decide +kernel
theorem dX4_moveCoin_44 : decode cX4_moveCoin 44 = .ok (.getfield 24, 3) := by decide +kernel
theorem dX4_moveCoin_47 : decode cX4_moveCoin 47 = .ok (.iload_n 1, 1) := by decide +kernel
theorem dX4_moveCoin_48 : decode cX4_moveCoin 48 = .ok (.dup2, 1) := by decide +kernel
theorem dX4_moveCoin_49 : decode cX4_moveCoin 49 = .ok (.iaload, 1) := by decide +kernel
theorem dX4_moveCoin_50 : decode cX4_moveCoin 50 = .ok (.iconst 1, 1) := by decide +kernel
theorem dX4_moveCoin_51 : decode cX4_moveCoin 51 = .ok (.iadd, 1) := by decide +kernel
theorem dX4_moveCoin_52 : decode cX4_moveCoin 52 = .ok (.iastore, 1) := by decide +kernel
theorem dX4_moveCoin_53 : decode cX4_moveCoin 53 = .ok (.aload_n 0, 1) := by decide +kernel
theorem dX4_moveCoin_54 : decode cX4_moveCoin 54 = .ok (.getfield 18, 3) := by decide +kernel
theorem dX4_moveCoin_57 : decode cX4_moveCoin 57 = .ok (.iload_n 1, 1) := by decide +kernel
theorem dX4_moveCoin_58 : decode cX4_moveCoin 58 = .ok (.dup2, 1) := by decide +kernel
theorem dX4_moveCoin_59 : decode cX4_moveCoin 59 = .ok (.iaload, 1) := by decide +kernel
theorem dX4_moveCoin_60 : decode cX4_moveCoin 60 = .ok (.iload_n 3, 1) := by decide +kernel
theorem dX4_moveCoin_61 : decode cX4_moveCoin 61 = .ok (.iadd, 1) := by decide +kernel
theorem dX4_moveCoin_62 : decode cX4_moveCoin 62 = .ok (.iastore, 1) := by decide +kernel
theorem dX4_moveCoin_63 : decode cX4_moveCoin 63 = .ok (.aload_n 0, 1) := by decide +kernel
theorem dX4_moveCoin_64 : decode cX4_moveCoin 64 = .ok (.getfield 18, 3) := by decide +kernel
theorem dX4_moveCoin_67 : decode cX4_moveCoin 67 = .ok (.iload_n 1, 1) := by decide +kernel
theorem dX4_moveCoin_68 : decode cX4_moveCoin 68 = .ok (.iaload, 1) := by decide +kernel
theorem dX4_moveCoin_69 : decode cX4_moveCoin 69 = .ok (.ireturn, 1) := by decide +kernel
theorem dX4_cleanCoin_0 : decode cX4_cleanCoin 0 = .ok (.aload_n 0, 1) := by decide +kernel
theorem dX4_cleanCoin_1 : decode cX4_cleanCoin 1 = .ok (.iload_n 1, 1) := by decide +kernel
theorem dX4_cleanCoin_2 : decode cX4_cleanCoin 2 = .ok (.invokevirtual 78, 3) := by decide +kernel
theorem dX4_cleanCoin_5 : decode cX4_cleanCoin 5 = .ok (.ifCond .ne 5, 3) := by decide +kernel
theorem dX4_cleanCoin_8 : decode cX4_cleanCoin 8 = .ok (.iconst (-1), 1) := by decide +kernel
theorem dX4_cleanCoin_9 : decode cX4_cleanCoin 9 = .ok (.ireturn, 1) := by decide +kernel
theorem dX4_cleanCoin_10 : decode cX4_cleanCoin 10 = .ok (.aload_n 0, 1) := by decide +kernel
theorem dX4_cleanCoin_11 : decode cX4_cleanCoin 11 = .ok (.getfield 40, 3) := by decide +kernel
theorem dX4_cleanCoin_14 : decode cX4_cleanCoin 14 = .ok (.iload_n 1, 1) := by decide +kernel
theorem dX4_cleanCoin_15 : decode cX4_cleanCoin 15 = .ok (.aload_n 0, 1) := by decide +kernel
theorem dX4_cleanCoin_16 : decode cX4_cleanCoin 16 = .ok (.getfield 18, 3) := by decide +kernel
theorem dX4_cleanCoin_19 : decode cX4_cleanCoin 19 = .ok (.iload_n 1, 1) := by decide +kernel
theorem dX4_cleanCoin_20 : decode cX4_cleanCoin 20 = .ok (.iaload, 1) := by decide +kernel
theorem dX4_cleanCoin_21 : decode cX4_cleanCoin 21 = .ok (.aload_n 0, 1) := by decide +kernel
theorem dX4_cleanCoin_22 : decode cX4_cleanCoin 22 = .ok (.getfield 21, 3) := by decide +kernel
theorem dX4_cleanCoin_25 : decode cX4_cleanCoin 25 = .ok (.iload_n 1, 1) := by decide +kernel
theorem dX4_cleanCoin_26 : decode cX4_cleanCoin 26 = .ok (.iaload, 1) := by decide +kernel
theorem dX4_cleanCoin_27 : decode cX4_cleanCoin 27 = .ok (.aload_n 0, 1) := by decide +kernel
theorem dX4_cleanCoin_28 : decode cX4_cleanCoin 28 = .ok (.getfield 24, 3) := by decide +kernel
theorem dX4_cleanCoin_31 : decode cX4_cleanCoin 31 = .ok (.iload_n 1, 1) := by decide +kernel
theorem dX4_cleanCoin_32 : decode cX4_cleanCoin 32 = .ok (.iaload, 1) := by decide +kernel
theorem dX4_cleanCoin_33 : decode cX4_cleanCoin 33 = .ok (.invokevirtual 89, 3) := by decide +kernel
theorem dX4_cleanCoin_36 : decode cX4_cleanCoin 36 = .ok (.aload_n 0, 1) := by decide +kernel
theorem dX4_cleanCoin_37 : decode cX4_cleanCoin 37 = .ok (.getfield 18, 3) := by decide +kernel
theorem dX4_cleanCoin_40 : decode cX4_cleanCoin 40 = .ok (.iload_n 1, 1) := by decide +kernel
theorem dX4_cleanCoin_41 : decode cX4_cleanCoin 41 = .ok (.iaload, 1) := by decide +kernel
theorem dX4_cleanCoin_42 : decode cX4_cleanCoin 42 = .ok (.aload_n 0, 1) := by decide +kernel
theorem dX4_cleanCoin_43 : decode cX4_cleanCoin 43 = .ok (.getfield 15, 3) := by decide +kernel
theorem dX4_cleanCoin_46 : decode cX4_cleanCoin 46 = .ok (.iload_n 1, 1) := by decide +kernel
theorem dX4_cleanCoin_47 : decode cX4_cleanCoin 47 = .ok (.iaload, 1) := by decide +kernel
theorem dX4_cleanCoin_48 : decode cX4_cleanCoin 48 = .ok (.isub, 1) := by decide +kernel
theorem dX4_cleanCoin_49 : decode cX4_cleanCoin 49 = .ok (.istore_n 2, 1) := by decide +kernel
theorem dX4_cleanCoin_50 : decode cX4_cleanCoin 50 = .ok (.aload_n 0, 1) := by decide +kernel
theorem dX4_cleanCoin_51 : decode cX4_cleanCoin 51 = .ok (.getfield 18, 3) := by decide +kernel
theorem dX4_cleanCoin_54 : decode cX4_cleanCoin 54 = .ok (.iload_n 1, 1) := by decide +kernel
theorem dX4_cleanCoin_55 : decode cX4_cleanCoin 55 = .ok (.aload_n 0, 1) := by decide +kernel
theorem dX4_cleanCoin_56 : decode cX4_cleanCoin 56 = .ok (.getfield 15, 3) := by decide +kernel
theorem dX4_cleanCoin_59 : decode cX4_cleanCoin 59 = .ok (.iload_n 1, 1) := by decide +kernel
theorem dX4_cleanCoin_60 : decode cX4_cleanCoin 60 = .ok (.iaload, 1) := by decide +kernel
theorem dX4_cleanCoin_61 : decode cX4_cleanCoin 61 = .ok (.iastore, 1) := by decide +kernel
theorem dX4_cleanCoin_62 : decode cX4_cleanCoin 62 = .ok (.iload_n 2, 1) := by decide +kernel
theorem dX4_cleanCoin_63 : decode cX4_cleanCoin 63 = .ok (.ireturn, 1) := by decide +kernel
theorem dX4_takeBack_0 : decode cX4_takeBack 0 = .ok (.aload_n 0, 1) := by decide +kernel
theorem dX4_takeBack_1 : decode cX4_takeBack 1 = .ok (.getfield 40, 3) := by decide +kernel
theorem dX4_takeBack_4 : decode cX4_takeBack 4 = .ok (.invokevirtual 93, 3) := by decide +kernel
theorem dX4_takeBack_7 : decode cX4_takeBack 7 = .ok (.istore_n 1, 1) := by decide +kernel
theorem dX4_takeBack_8 : decode cX4_takeBack 8 = .ok (.iload_n 1, 1) := by decide +kernel
theorem dX4_takeBack_9 : decode cX4_takeBack 9 = .ok (.ifCond .lt 9, 3) := by decide +kernel
theorem dX4_takeBack_12 : decode cX4_takeBack 12 = .ok (.iload_n 1, 1) := by decide +kernel
theorem dX4_takeBack_13 : decode cX4_takeBack 13 = .ok (.bipush 40, 2) := by decide +kernel
theorem dX4_takeBack_15 : decode cX4_takeBack 15 = .ok (.if_icmp .lt 5, 3) := by decide +kernel
theorem dX4_takeBack_18 : decode cX4_takeBack 18 = .ok (.iconst (-1), 1) := by decide +kernel
theorem dX4_takeBack_19 : decode cX4_takeBack 19 = .ok (.ireturn, 1) := by decide +kernel
theorem dX4_takeBack_20 : decode cX4_takeBack 20 = .ok (.aload_n 0, 1) := by decide +kernel
theorem dX4_takeBack_21 : decode cX4_takeBack 21 = .ok (.getfield 40, 3) := by decide +kernel
theorem dX4_takeBack_24 : decode cX4_takeBack 24 = .ok (.getfield 97, 3) := by decide +kernel
theorem dX4_takeBack_27 : decode cX4_takeBack 27 = .ok (.iload_n 1, 1) := by decide +kernel
theorem dX4_takeBack_28 : decode cX4_takeBack 28 = .ok (.iaload, 1) := by decide +kernel
theorem dX4_takeBack_29 : decode cX4_takeBack 29 = .ok (.istore_n 2, 1) := by decide +kernel
theorem dX4_takeBack_30 : decode cX4_takeBack 30 = .ok (.aload_n 0, 1) := by decide +kernel
theorem dX4_takeBack_31 : decode cX4_takeBack 31 = .ok (.iload_n 2, 1) := by decide +kernel
theorem dX4_takeBack_32 : decode cX4_takeBack 32 = .ok (.invokevirtual 78, 3) := by decide +kernel
theorem dX4_takeBack_35 : decode cX4_takeBack 35 = .ok (.ifCond .ne 5, 3) := by decide +kernel
theorem dX4_takeBack_38 : decode cX4_takeBack 38 = .ok (.iconst (-1), 1) := by decide +kernel
theorem dX4_takeBack_39 : decode cX4_takeBack 39 = .ok (.ireturn, 1) := by decide +kernel
theorem dX4_takeBack_40 : decode cX4_takeBack 40 = .ok (.aload_n 0, 1) := by decide +kernel
theorem dX4_takeBack_41 : decode cX4_takeBack 41 = .ok (.getfield 18, 3) := by decide +kernel
theorem dX4_takeBack_44 : decode cX4_takeBack 44 = .ok (.iload_n 2, 1) := by decide +kernel
theorem dX4_takeBack_45 : decode cX4_takeBack 45 = .ok (.aload_n 0, 1) := by decide +kernel
theorem dX4_takeBack_46 : decode cX4_takeBack 46 = .ok (.getfield 40, 3) := by decide +kernel
theorem dX4_takeBack_49 : decode cX4_takeBack 49 = .ok (.getfield 100, 3) := by decide +kernel
theorem dX4_takeBack_52 : decode cX4_takeBack 52 = .ok (.iload_n 1, 1) := by decide +kernel
theorem dX4_takeBack_53 : decode cX4_takeBack 53 = .ok (.iaload, 1) := by decide +kernel
theorem dX4_takeBack_54 : decode cX4_takeBack 54 = .ok (.iastore, 1) := by decide +kernel
theorem dX4_takeBack_55 : decode cX4_takeBack 55 = .ok (.aload_n 0, 1) := by decide +kernel
theorem dX4_takeBack_56 : decode cX4_takeBack 56 = .ok (.getfield 21, 3) := by decide +kernel
theorem dX4_takeBack_59 : decode cX4_takeBack 59 = .ok (.iload_n 2, 1) := by decide +kernel
theorem dX4_takeBack_60 : decode cX4_takeBack 60 = .ok (.aload_n 0, 1) := by decide +kernel
theorem dX4_takeBack_61 : decode cX4_takeBack 61 = .ok (.getfield 40, 3) := by decide +kernel
theorem dX4_takeBack_64 : decode cX4_takeBack 64 = .ok (.getfield 101, 3) := by decide +kernel
theorem dX4_takeBack_67 : decode cX4_takeBack 67 = .ok (.iload_n 1, 1) := by decide +kernel
theorem dX4_takeBack_68 : decode cX4_takeBack 68 = .ok (.iaload, 1) := by decide +kernel
theorem dX4_takeBack_69 : decode cX4_takeBack 69 = .ok (.iastore, 1) := by decide +kernel
theorem dX4_takeBack_70 : decode cX4_takeBack 70 = .ok (.aload_n 0, 1) := by decide +kernel
theorem dX4_takeBack_71 : decode cX4_takeBack 71 = .ok (.getfield 24, 3) := by decide +kernel
theorem dX4_takeBack_74 : decode cX4_takeBack 74 = .ok (.iload_n 2, 1) := by decide +kernel
theorem dX4_takeBack_75 : decode cX4_takeBack 75 = .ok (.aload_n 0, 1) := by decide +kernel
theorem dX4_takeBack_76 : decode cX4_takeBack 76 = .ok (.getfield 40, 3) := by decide +kernel
theorem dX4_takeBack_79 : decode cX4_takeBack 79 = .ok (.getfield 102, 3) := by decide +kernel
theorem dX4_takeBack_82 : decode cX4_takeBack 82 = .ok (.iload_n 1, 1) := by decide +kernel
theorem dX4_takeBack_83 : decode cX4_takeBack 83 = .ok (.iaload, 1) := by decide +kernel
theorem dX4_takeBack_84 : decode cX4_takeBack 84 = .ok (.iastore, 1) := by decide +kernel
theorem dX4_takeBack_85 : decode cX4_takeBack 85 = .ok (.iload_n 2, 1) := by decide +kernel
theorem dX4_takeBack_86 : decode cX4_takeBack 86 = .ok (.ireturn, 1) := by decide +kernel
theorem dX4_lightestOf_0 : decode cX4_lightestOf 0 = .ok (.iconst (-1), 1) := by decide +kernel
theorem dX4_lightestOf_1 : decode cX4_lightestOf 1 = .ok (.istore_n 2, 1) := by decide +kernel
theorem dX4_lightestOf_2 : decode cX4_lightestOf 2 = .ok (.iconst 0, 1) := by decide +kernel
theorem dX4_lightestOf_3 : decode cX4_lightestOf 3 = .ok (.istore_n 3, 1) := by decide +kernel
theorem dX4_lightestOf_4 : decode cX4_lightestOf 4 = .ok (.iload_n 3, 1) := by decide +kernel
theorem dX4_lightestOf_5 : decode cX4_lightestOf 5 = .ok (.aload_n 0, 1) := by decide +kernel
theorem dX4_lightestOf_6 : decode cX4_lightestOf 6 = .ok (.getfield 63, 3) := by decide +kernel
theorem dX4_lightestOf_9 : decode cX4_lightestOf 9 = .ok (.if_icmp .ge 47, 3) := by decide +kernel
theorem dX4_lightestOf_12 : decode cX4_lightestOf 12 = .ok (.iload_n 3, 1) := by decide +kernel
theorem dX4_lightestOf_13 : decode cX4_lightestOf 13 = .ok (.bipush 20, 2) := by decide +kernel
theorem dX4_lightestOf_15 : decode cX4_lightestOf 15 = .ok (.if_icmp .ge 41, 3) := by decide +kernel
theorem dX4_lightestOf_18 : decode cX4_lightestOf 18 = .ok (.aload_n 0, 1) := by decide +kernel
theorem dX4_lightestOf_19 : decode cX4_lightestOf 19 = .ok (.getfield 21, 3) := by decide +kernel
theorem dX4_lightestOf_22 : decode cX4_lightestOf 22 = .ok (.iload_n 3, 1) := by decide +kernel
theorem dX4_lightestOf_23 : decode cX4_lightestOf 23 = .ok (.iaload, 1) := by decide +kernel
theorem dX4_lightestOf_24 : decode cX4_lightestOf 24 = .ok (.iload_n 1, 1) := by decide +kernel
theorem dX4_lightestOf_25 : decode cX4_lightestOf 25 = .ok (.if_icmp .ne 25, 3) := by decide +kernel
theorem dX4_lightestOf_28 : decode cX4_lightestOf 28 = .ok (.iload_n 2, 1) := by decide +kernel
theorem dX4_lightestOf_29 : decode cX4_lightestOf 29 = .ok (.iconst (-1), 1) := by decide +kernel
theorem dX4_lightestOf_30 : decode cX4_lightestOf 30 = .ok (.if_icmp .eq 18, 3) := by decide +kernel
theorem dX4_lightestOf_33 : decode cX4_lightestOf 33 = .ok (.aload_n 0, 1) := by decide +kernel
theorem dX4_lightestOf_34 : decode cX4_lightestOf 34 = .ok (.getfield 18, 3) := by decide +kernel
theorem dX4_lightestOf_37 : decode cX4_lightestOf 37 = .ok (.iload_n 3, 1) := by decide +kernel
theorem dX4_lightestOf_38 : decode cX4_lightestOf 38 = .ok (.iaload, 1) := by decide +kernel
theorem dX4_lightestOf_39 : decode cX4_lightestOf 39 = .ok (.aload_n 0, 1) := by decide +kernel
theorem dX4_lightestOf_40 : decode cX4_lightestOf 40 = .ok (.getfield 18, 3) := by decide +kernel
theorem dX4_lightestOf_43 : decode cX4_lightestOf 43 = .ok (.iload_n 2, 1) := by decide +kernel
theorem dX4_lightestOf_44 : decode cX4_lightestOf 44 = .ok (.iaload, 1) := by decide +kernel
theorem dX4_lightestOf_45 : decode cX4_lightestOf 45 = .ok (.if_icmp .ge 5, 3) := by decide +kernel
theorem dX4_lightestOf_48 : decode cX4_lightestOf 48 = .ok (.iload_n 3, 1) := by decide +kernel
theorem dX4_lightestOf_49 : decode cX4_lightestOf 49 = .ok (.istore_n 2, 1) := by decide +kernel
theorem dX4_lightestOf_50 : decode cX4_lightestOf 50 = .ok (.iinc 3 1, 3) := by decide +kernel
theorem dX4_lightestOf_53 : decode cX4_lightestOf 53 = .ok (.goto (-49), 3) := by decide +kernel
theorem dX4_lightestOf_56 : decode cX4_lightestOf 56 = .ok (.iload_n 2, 1) := by decide +kernel
theorem dX4_lightestOf_57 : decode cX4_lightestOf 57 = .ok (.ireturn, 1) := by decide +kernel
theorem dX4_weightHeldBy_0 : decode cX4_weightHeldBy 0 = .ok (.iconst 0, 1) := by decide +kernel
theorem dX4_weightHeldBy_1 : decode cX4_weightHeldBy 1 = .ok (.istore_n 2, 1) := by decide +kernel
theorem dX4_weightHeldBy_2 : decode cX4_weightHeldBy 2 = .ok (.iconst 0, 1) := by decide +kernel
theorem dX4_weightHeldBy_3 : decode cX4_weightHeldBy 3 = .ok (.istore_n 3, 1) := by decide +kernel
theorem dX4_weightHeldBy_4 : decode cX4_weightHeldBy 4 = .ok (.iload_n 3, 1) := by decide +kernel
theorem dX4_weightHeldBy_5 : decode cX4_weightHeldBy 5 = .ok (.aload_n 0, 1) := by decide +kernel
theorem dX4_weightHeldBy_6 : decode cX4_weightHeldBy 6 = .ok (.getfield 63, 3) := by decide +kernel
theorem dX4_weightHeldBy_9 : decode cX4_weightHeldBy 9 = .ok (.if_icmp .ge 34, 3) := by decide +kernel
theorem dX4_weightHeldBy_12 : decode cX4_weightHeldBy 12 = .ok (.iload_n 3, 1) := by decide +kernel
theorem dX4_weightHeldBy_13 : decode cX4_weightHeldBy 13 = .ok (.bipush 20, 2) := by decide +kernel
theorem dX4_weightHeldBy_15 : decode cX4_weightHeldBy 15 = .ok (.if_icmp .ge 28, 3) := by decide +kernel
theorem dX4_weightHeldBy_18 : decode cX4_weightHeldBy 18 = .ok (.aload_n 0, 1) := by decide +kernel
theorem dX4_weightHeldBy_19 : decode cX4_weightHeldBy 19 = .ok (.getfield 21, 3) := by decide +kernel
theorem dX4_weightHeldBy_22 : decode cX4_weightHeldBy 22 = .ok (.iload_n 3, 1) := by decide +kernel
theorem dX4_weightHeldBy_23 : decode cX4_weightHeldBy 23 = .ok (.iaload, 1) := by decide +kernel
theorem dX4_weightHeldBy_24 : decode cX4_weightHeldBy 24 = .ok (.iload_n 1, 1) := by decide +kernel
theorem dX4_weightHeldBy_25 : decode cX4_weightHeldBy 25 = .ok (.if_icmp .ne 12, 3) := by decide +kernel
theorem dX4_weightHeldBy_28 : decode cX4_weightHeldBy 28 = .ok (.iload_n 2, 1) := by decide +kernel
theorem dX4_weightHeldBy_29 : decode cX4_weightHeldBy 29 = .ok (.aload_n 0, 1) := by decide +kernel
theorem dX4_weightHeldBy_30 : decode cX4_weightHeldBy 30 = .ok (.getfield 18, 3) := by decide +kernel
theorem dX4_weightHeldBy_33 : decode cX4_weightHeldBy 33 = .ok (.iload_n 3, 1) := by decide +kernel
theorem dX4_weightHeldBy_34 : decode cX4_weightHeldBy 34 = .ok (.iaload, 1) := by decide +kernel
theorem dX4_weightHeldBy_35 : decode cX4_weightHeldBy 35 = .ok (.iadd, 1) := by decide +kernel
theorem dX4_weightHeldBy_36 : decode cX4_weightHeldBy 36 = .ok (.istore_n 2, 1) := by decide +kernel
theorem dX4_weightHeldBy_37 : decode cX4_weightHeldBy 37 = .ok (.iinc 3 1, 3) := by decide +kernel
theorem dX4_weightHeldBy_40 : decode cX4_weightHeldBy 40 = .ok (.goto (-36), 3) := by decide +kernel
theorem dX4_weightHeldBy_43 : decode cX4_weightHeldBy 43 = .ok (.iload_n 2, 1) := by decide +kernel
theorem dX4_weightHeldBy_44 : decode cX4_weightHeldBy 44 = .ok (.ireturn, 1) := by decide +kernel
theorem dX5_init_0 : decode cX5_init 0 = .ok (.aload_n 0, 1) := by decide +kernel
theorem dX5_init_1 : decode cX5_init 1 = .ok (.invokespecial 3, 3) := by decide +kernel
theorem dX5_init_4 : decode cX5_init 4 = .ok (.aload_n 0, 1) := by decide +kernel
theorem dX5_init_5 : decode cX5_init 5 = .ok (.bipush 40, 2) := by decide +kernel
theorem dX5_init_7 : decode cX5_init 7 = .ok (.newarray .int, 2) := by decide +kernel
theorem dX5_init_9 : decode cX5_init 9 = .ok (.putfield 9, 3) := by decide +kernel
theorem dX5_init_12 : decode cX5_init 12 = .ok (.aload_n 0, 1) := by decide +kernel
theorem dX5_init_13 : decode cX5_init 13 = .ok (.bipush 40, 2) := by decide +kernel
theorem dX5_init_15 : decode cX5_init 15 = .ok (.newarray .int, 2) := by decide +kernel
theorem dX5_init_17 : decode cX5_init 17 = .ok (.putfield 15, 3) := by decide +kernel
theorem dX5_init_20 : decode cX5_init 20 = .ok (.aload_n 0, 1) := by decide +kernel
theorem dX5_init_21 : decode cX5_init 21 = .ok (.bipush 40, 2) := by decide +kernel
theorem dX5_init_23 : decode cX5_init 23 = .ok (.newarray .int, 2) := by decide +kernel
theorem dX5_init_25 : decode cX5_init 25 = .ok (.putfield 18, 3) := by decide +kernel
theorem dX5_init_28 : decode cX5_init 28 = .ok (.aload_n 0, 1) := by decide +kernel
theorem dX5_init_29 : decode cX5_init 29 = .ok (.bipush 40, 2) := by decide +kernel
theorem dX5_init_31 : decode cX5_init 31 = .ok (.newarray .int, 2) := by decide +kernel
theorem dX5_init_33 : decode cX5_init 33 = .ok (.putfield 21, 3) := by decide +kernel
theorem dX5_init_36 : decode cX5_init 36 = .ok (.return_, 1) := by decide +kernel
theorem dX5_copyOf_0 : decode cX5_copyOf 0 = .ok (.aload_n 1, 1) := by decide +kernel
theorem dX5_copyOf_1 : decode cX5_copyOf 1 = .ok (.getfield 9, 3) := by decide +kernel
theorem dX5_copyOf_4 : decode cX5_copyOf 4 = .ok (.iconst 0, 1) := by decide +kernel
theorem dX5_copyOf_5 : decode cX5_copyOf 5 = .ok (.aload_n 0, 1) := by decide +kernel
theorem dX5_copyOf_6 : decode cX5_copyOf 6 = .ok (.getfield 9, 3) := by decide +kernel
theorem dX5_copyOf_9 : decode cX5_copyOf 9 = .ok (.iconst 0, 1) := by decide +kernel
theorem dX5_copyOf_10 : decode cX5_copyOf 10 = .ok (.bipush 40, 2) := by decide +kernel
theorem dX5_copyOf_12 : decode cX5_copyOf 12 = .ok (.invokestatic 24, 3) := by decide +kernel
theorem dX5_copyOf_15 : decode cX5_copyOf 15 = .ok (.aload_n 1, 1) := by decide +kernel
theorem dX5_copyOf_16 : decode cX5_copyOf 16 = .ok (.getfield 15, 3) := by decide +kernel
theorem dX5_copyOf_19 : decode cX5_copyOf 19 = .ok (.iconst 0, 1) := by decide +kernel
theorem dX5_copyOf_20 : decode cX5_copyOf 20 = .ok (.aload_n 0, 1) := by decide +kernel
theorem dX5_copyOf_21 : decode cX5_copyOf 21 = .ok (.getfield 15, 3) := by decide +kernel
theorem dX5_copyOf_24 : decode cX5_copyOf 24 = .ok (.iconst 0, 1) := by decide +kernel
theorem dX5_copyOf_25 : decode cX5_copyOf 25 = .ok (.bipush 40, 2) := by decide +kernel
theorem dX5_copyOf_27 : decode cX5_copyOf 27 = .ok (.invokestatic 24, 3) := by decide +kernel
theorem dX5_copyOf_30 : decode cX5_copyOf 30 = .ok (.aload_n 1, 1) := by decide +kernel
theorem dX5_copyOf_31 : decode cX5_copyOf 31 = .ok (.getfield 18, 3) := by decide +kernel
theorem dX5_copyOf_34 : decode cX5_copyOf 34 = .ok (.iconst 0, 1) := by decide +kernel
theorem dX5_copyOf_35 : decode cX5_copyOf 35 = .ok (.aload_n 0, 1) := by decide +kernel
theorem dX5_copyOf_36 : decode cX5_copyOf 36 = .ok (.getfield 18, 3) := by decide +kernel
theorem dX5_copyOf_39 : decode cX5_copyOf 39 = .ok (.iconst 0, 1) := by decide +kernel
theorem dX5_copyOf_40 : decode cX5_copyOf 40 = .ok (.bipush 40, 2) := by decide +kernel
theorem dX5_copyOf_42 : decode cX5_copyOf 42 = .ok (.invokestatic 24, 3) := by decide +kernel
theorem dX5_copyOf_45 : decode cX5_copyOf 45 = .ok (.aload_n 1, 1) := by decide +kernel
theorem dX5_copyOf_46 : decode cX5_copyOf 46 = .ok (.getfield 21, 3) := by decide +kernel
theorem dX5_copyOf_49 : decode cX5_copyOf 49 = .ok (.iconst 0, 1) := by decide +kernel
theorem dX5_copyOf_50 : decode cX5_copyOf 50 = .ok (.aload_n 0, 1) := by decide +kernel
theorem dX5_copyOf_51 : decode cX5_copyOf 51 = .ok (.getfield 21, 3) := by decide +kernel
theorem dX5_copyOf_54 : decode cX5_copyOf 54 = .ok (.iconst 0, 1) := by decide +kernel
theorem dX5_copyOf_55 : decode cX5_copyOf 55 = .ok (.bipush 40, 2) := by decide +kernel
theorem dX5_copyOf_57 : decode cX5_copyOf 57 = .ok (.invokestatic 24, 3) := by decide +kernel
theorem dX5_copyOf_60 : decode cX5_copyOf 60 = .ok (.aload_n 0, 1) := by decide +kernel
theorem dX5_copyOf_61 : decode cX5_copyOf 61 = .ok (.aload_n 1, 1) := by decide +kernel
theorem dX5_copyOf_62 : decode cX5_copyOf 62 = .ok (.getfield 30, 3) := by decide +kernel
theorem dX5_copyOf_65 : decode cX5_copyOf 65 = .ok (.putfield 30, 3) := by decide +kernel
theorem dX5_copyOf_68 : decode cX5_copyOf 68 = .ok (.aload_n 0, 1) := by decide +kernel
theorem dX5_copyOf_69 : decode cX5_copyOf 69 = .ok (.aload_n 1, 1) := by decide +kernel
theorem dX5_copyOf_70 : decode cX5_copyOf 70 = .ok (.getfield 34, 3) := by decide +kernel
theorem dX5_copyOf_73 : decode cX5_copyOf 73 = .ok (.putfield 34, 3) := by decide +kernel
theorem dX5_copyOf_76 : decode cX5_copyOf 76 = .ok (.return_, 1) := by decide +kernel
theorem dX5_push_0 : decode cX5_push 0 = .ok (.aload_n 0, 1) := by decide +kernel
theorem dX5_push_1 : decode cX5_push 1 = .ok (.getfield 30, 3) := by decide +kernel
theorem dX5_push_4 : decode cX5_push 4 = .ok (.ifCond .lt 12, 3) := by decide +kernel
theorem dX5_push_7 : decode cX5_push 7 = .ok (.aload_n 0, 1) := by decide +kernel
theorem dX5_push_8 : decode cX5_push 8 = .ok (.getfield 30, 3) := by decide +kernel
theorem dX5_push_11 : decode cX5_push 11 = .ok (.bipush 40, 2) := by decide +kernel
theorem dX5_push_13 : decode cX5_push 13 = .ok (.if_icmp .lt 4, 3) := by decide +kernel
theorem dX5_push_16 : decode cX5_push 16 = .ok (.return_, 1) := by decide +kernel
theorem dX5_push_17 : decode cX5_push 17 = .ok (.aload_n 0, 1) := by decide +kernel
theorem dX5_push_18 : decode cX5_push 18 = .ok (.getfield 9, 3) := by decide +kernel
theorem dX5_push_21 : decode cX5_push 21 = .ok (.aload_n 0, 1) := by decide +kernel
theorem dX5_push_22 : decode cX5_push 22 = .ok (.getfield 30, 3) := by decide +kernel
theorem dX5_push_25 : decode cX5_push 25 = .ok (.iload_n 1, 1) := by decide +kernel
theorem dX5_push_26 : decode cX5_push 26 = .ok (.iastore, 1) := by decide +kernel
theorem dX5_push_27 : decode cX5_push 27 = .ok (.aload_n 0, 1) := by decide +kernel
theorem dX5_push_28 : decode cX5_push 28 = .ok (.getfield 15, 3) := by decide +kernel
theorem dX5_push_31 : decode cX5_push 31 = .ok (.aload_n 0, 1) := by decide +kernel
theorem dX5_push_32 : decode cX5_push 32 = .ok (.getfield 30, 3) := by decide +kernel
theorem dX5_push_35 : decode cX5_push 35 = .ok (.iload_n 2, 1) := by decide +kernel
theorem dX5_push_36 : decode cX5_push 36 = .ok (.iastore, 1) := by decide +kernel
theorem dX5_push_37 : decode cX5_push 37 = .ok (.aload_n 0, 1) := by decide +kernel
theorem dX5_push_38 : decode cX5_push 38 = .ok (.getfield 18, 3) := by decide +kernel
theorem dX5_push_41 : decode cX5_push 41 = .ok (.aload_n 0, 1) := by decide +kernel
theorem dX5_push_42 : decode cX5_push 42 = .ok (.getfield 30, 3) := by decide +kernel
theorem dX5_push_45 : decode cX5_push 45 = .ok (.iload_n 3, 1) := by decide +kernel
theorem dX5_push_46 : decode cX5_push 46 = .ok (.iastore, 1) := by decide +kernel
theorem dX5_push_47 : decode cX5_push 47 = .ok (.aload_n 0, 1) := by decide +kernel
theorem dX5_push_48 : decode cX5_push 48 = .ok (.getfield 21, 3) := by decide +kernel
theorem dX5_push_51 : decode cX5_push 51 = .ok (.aload_n 0, 1) := by decide +kernel
theorem dX5_push_52 : decode cX5_push 52 = .ok (.getfield 30, 3) := by decide +kernel
theorem dX5_push_55 : decode cX5_push 55 = .ok (.iload 4, 2) := by decide +kernel
theorem dX5_push_57 : decode cX5_push 57 = .ok (.iastore, 1) := by decide +kernel
theorem dX5_push_58 : decode cX5_push 58 = .ok (.aload_n 0, 1) := by decide +kernel
theorem dX5_push_59 : decode cX5_push 59 = .ok (.aload_n 0, 1) := by decide +kernel
theorem dX5_push_60 : decode cX5_push 60 = .ok (.getfield 30, 3) := by decide +kernel
theorem dX5_push_63 : decode cX5_push 63 = .ok (.iconst 1, 1) := by decide +kernel
theorem dX5_push_64 : decode cX5_push 64 = .ok (.iadd, 1) := by decide +kernel
theorem dX5_push_65 : decode cX5_push 65 = .ok (.bipush 40, 2) := by decide +kernel
theorem dX5_push_67 : decode cX5_push 67 = .ok (.irem, 1) := by decide +kernel
theorem dX5_push_68 : decode cX5_push 68 = .ok (.putfield 30, 3) := by decide +kernel
theorem dX5_push_71 : decode cX5_push 71 = .ok (.aload_n 0, 1) := by decide +kernel
theorem dX5_push_72 : decode cX5_push 72 = .ok (.aload_n 0, 1) := by decide +kernel
theorem dX5_push_73 : decode cX5_push 73 = .ok (.getfield 34, 3) := by decide +kernel
theorem dX5_push_76 : decode cX5_push 76 = .ok (.iconst 1, 1) := by decide +kernel
theorem dX5_push_77 : decode cX5_push 77 = .ok (.iadd, 1) := by decide +kernel
theorem dX5_push_78 : decode cX5_push 78 = .ok (.bipush 40, 2) := by decide +kernel
theorem dX5_push_80 : decode cX5_push 80 = .ok (.invokestatic 37, 3) := by decide +kernel
theorem dX5_push_83 : decode cX5_push 83 = .ok (.putfield 34, 3) := by decide +kernel
theorem dX5_push_86 : decode cX5_push 86 = .ok (.return_, 1) := by decide +kernel
theorem dX5_pop_0 : decode cX5_pop 0 = .ok (.aload_n 0, 1) := by decide +kernel
theorem dX5_pop_1 : decode cX5_pop 1 = .ok (.getfield 34, 3) := by decide +kernel
theorem dX5_pop_4 : decode cX5_pop 4 = .ok (.iconst 1, 1) := by decide +kernel
theorem dX5_pop_5 : decode cX5_pop 5 = .ok (.if_icmp .ge 5, 3) := by decide +kernel
theorem dX5_pop_8 : decode cX5_pop 8 = .ok (.iconst (-1), 1) := by decide +kernel
theorem dX5_pop_9 : decode cX5_pop 9 = .ok (.ireturn, 1) := by decide +kernel
theorem dX5_pop_10 : decode cX5_pop 10 = .ok (.aload_n 0, 1) := by decide +kernel
theorem dX5_pop_11 : decode cX5_pop 11 = .ok (.dup, 1) := by decide +kernel
theorem dX5_pop_12 : decode cX5_pop 12 = .ok (.getfield 34, 3) := by decide +kernel
theorem dX5_pop_15 : decode cX5_pop 15 = .ok (.iconst 1, 1) := by decide +kernel
theorem dX5_pop_16 : decode cX5_pop 16 = .ok (.isub, 1) := by decide +kernel
theorem dX5_pop_17 : decode cX5_pop 17 = .ok (.putfield 34, 3) := by decide +kernel
theorem dX5_pop_20 : decode cX5_pop 20 = .ok (.aload_n 0, 1) := by decide +kernel
theorem dX5_pop_21 : decode cX5_pop 21 = .ok (.aload_n 0, 1) := by decide +kernel
theorem dX5_pop_22 : decode cX5_pop 22 = .ok (.getfield 30, 3) := by decide +kernel
theorem dX5_pop_25 : decode cX5_pop 25 = .ok (.bipush 40, 2) := by decide +kernel
theorem dX5_pop_27 : decode cX5_pop 27 = .ok (.iadd, 1) := by decide +kernel
theorem dX5_pop_28 : decode cX5_pop 28 = .ok (.iconst 1, 1) := by decide +kernel
theorem dX5_pop_29 : decode cX5_pop 29 = .ok (.isub, 1) := by decide +kernel
theorem dX5_pop_30 : decode cX5_pop 30 = .ok (.bipush 40, 2) := by decide +kernel
theorem dX5_pop_32 : decode cX5_pop 32 = .ok (.irem, 1) := by decide +kernel
theorem dX5_pop_33 : decode cX5_pop 33 = .ok (.putfield 30, 3) := by decide +kernel
theorem dX5_pop_36 : decode cX5_pop 36 = .ok (.aload_n 0, 1) := by decide +kernel
theorem dX5_pop_37 : decode cX5_pop 37 = .ok (.getfield 30, 3) := by decide +kernel
theorem dX5_pop_40 : decode cX5_pop 40 = .ok (.ireturn, 1) := by decide +kernel
theorem dX6_init_0 : decode cX6_init 0 = .ok (.aload_n 0, 1) := by decide +kernel
theorem dX6_init_1 : decode cX6_init 1 = .ok (.invokespecial 3, 3) := by decide +kernel
theorem dX6_init_4 : decode cX6_init 4 = .ok (.aload_n 0, 1) := by decide +kernel
theorem dX6_init_5 : decode cX6_init 5 = .ok (.sipush 300, 3) := by decide +kernel
theorem dX6_init_8 : decode cX6_init 8 = .ok (.newarray .int, 2) := by decide +kernel
theorem dX6_init_10 : decode cX6_init 10 = .ok (.putfield 9, 3) := by decide +kernel
theorem dX6_init_13 : decode cX6_init 13 = .ok (.return_, 1) := by decide +kernel
theorem dX6_put_0 : decode cX6_put 0 = .ok (.bipush 24, 2) := by decide +kernel
theorem dX6_put_2 : decode cX6_put 2 = .ok (.istore_n 2, 1) := by decide +kernel
theorem dX6_put_3 : decode cX6_put 3 = .ok (.iload_n 2, 1) := by decide +kernel
theorem dX6_put_4 : decode cX6_put 4 = .ok (.ifCond .lt 52, 3) := by decide +kernel
theorem dX6_put_7 : decode cX6_put 7 = .ok (.aload_n 0, 1) := by decide +kernel
theorem dX6_put_8 : decode cX6_put 8 = .ok (.getfield 15, 3) := by decide +kernel
theorem dX6_put_11 : decode cX6_put 11 = .ok (.ifCond .lt 39, 3) := by decide +kernel
theorem dX6_put_14 : decode cX6_put 14 = .ok (.aload_n 0, 1) := by decide +kernel
theorem dX6_put_15 : decode cX6_put 15 = .ok (.getfield 15, 3) := by decide +kernel
theorem dX6_put_18 : decode cX6_put 18 = .ok (.sipush 300, 3) := by decide +kernel
theorem dX6_put_21 : decode cX6_put 21 = .ok (.if_icmp .ge 29, 3) := by decide +kernel
theorem dX6_put_24 : decode cX6_put 24 = .ok (.aload_n 0, 1) := by decide +kernel
theorem dX6_put_25 : decode cX6_put 25 = .ok (.getfield 9, 3) := by decide +kernel
theorem dX6_put_28 : decode cX6_put 28 = .ok (.aload_n 0, 1) := by decide +kernel
theorem dX6_put_29 : decode cX6_put 29 = .ok (.getfield 15, 3) := by decide +kernel
theorem dX6_put_32 : decode cX6_put 32 = .ok (.iload_n 1, 1) := by decide +kernel
theorem dX6_put_33 : decode cX6_put 33 = .ok (.iload_n 2, 1) := by decide +kernel
theorem dX6_put_34 : decode cX6_put 34 = .ok (.iushr, 1) := by decide +kernel
theorem dX6_put_35 : decode cX6_put 35 = .ok (.sipush 255, 3) := by decide +kernel
theorem dX6_put_38 : decode cX6_put 38 = .ok (.iand, 1) := by decide +kernel
theorem dX6_put_39 : decode cX6_put 39 = .ok (.iastore, 1) := by decide +kernel
theorem dX6_put_40 : decode cX6_put 40 = .ok (.aload_n 0, 1) := by decide +kernel
theorem dX6_put_41 : decode cX6_put 41 = .ok (.dup, 1) := by decide +kernel
theorem dX6_put_42 : decode cX6_put 42 = .ok (.getfield 15, 3) := by decide +kernel
theorem dX6_put_45 : decode cX6_put 45 = .ok (.iconst 1, 1) := by decide +kernel
theorem dX6_put_46 : decode cX6_put 46 = .ok (.iadd, 1) := by decide +kernel
theorem dX6_put_47 : decode cX6_put 47 = .ok (.putfield 15, 3) := by decide +kernel
theorem dX6_put_50 : decode cX6_put 50 = .ok (.iinc 2 (-8), 3) := by decide +kernel
theorem dX6_put_53 : decode cX6_put 53 = .ok (.goto (-50), 3) := by decide +kernel
theorem dX6_put_56 : decode cX6_put 56 = .ok (.return_, 1) := by decide +kernel
theorem dX6_byteAt_0 : decode cX6_byteAt 0 = .ok (.iload_n 1, 1) := by decide +kernel
theorem dX6_byteAt_1 : decode cX6_byteAt 1 = .ok (.ifCond .lt 27, 3) := by decide +kernel
theorem dX6_byteAt_4 : decode cX6_byteAt 4 = .ok (.iload_n 1, 1) := by decide +kernel
theorem dX6_byteAt_5 : decode cX6_byteAt 5 = .ok (.aload_n 0, 1) := by decide +kernel
theorem dX6_byteAt_6 : decode cX6_byteAt 6 = .ok (.getfield 15, 3) := by decide +kernel
theorem dX6_byteAt_9 : decode cX6_byteAt 9 = .ok (.if_icmp .ge 19, 3) := by decide +kernel
theorem dX6_byteAt_12 : decode cX6_byteAt 12 = .ok (.iload_n 1, 1) := by decide +kernel
theorem dX6_byteAt_13 : decode cX6_byteAt 13 = .ok (.sipush 300, 3) := by decide +kernel
theorem dX6_byteAt_16 : decode cX6_byteAt 16 = .ok (.if_icmp .ge 12, 3) := by decide +kernel
theorem dX6_byteAt_19 : decode cX6_byteAt 19 = .ok (.aload_n 0, 1) := by decide +kernel
theorem dX6_byteAt_20 : decode cX6_byteAt 20 = .ok (.getfield 9, 3) := by decide +kernel
theorem dX6_byteAt_23 : decode cX6_byteAt 23 = .ok (.iload_n 1, 1) := by decide +kernel
theorem dX6_byteAt_24 : decode cX6_byteAt 24 = .ok (.iaload, 1) := by decide +kernel
theorem dX6_byteAt_25 : decode cX6_byteAt 25 = .ok (.goto 4, 3) := by decide +kernel
theorem dX6_byteAt_28 : decode cX6_byteAt 28 = .ok (.iconst (-1), 1) := by decide +kernel
theorem dX6_byteAt_29 : decode cX6_byteAt 29 = .ok (.ireturn, 1) := by decide +kernel
theorem dX7_init_0 : decode cX7_init 0 = .ok (.aload_n 0, 1) := by decide +kernel
theorem dX7_init_1 : decode cX7_init 1 = .ok (.invokespecial 3, 3) := by decide +kernel
theorem dX7_init_4 : decode cX7_init 4 = .ok (.aload_n 0, 1) := by decide +kernel
theorem dX7_init_5 : decode cX7_init 5 = .ok (.sipush 300, 3) := by decide +kernel
theorem dX7_init_8 : decode cX7_init 8 = .ok (.newarray .int, 2) := by decide +kernel
theorem dX7_init_10 : decode cX7_init 10 = .ok (.putfield 9, 3) := by decide +kernel
theorem dX7_init_13 : decode cX7_init 13 = .ok (.aload_n 0, 1) := by decide +kernel
theorem dX7_init_14 : decode cX7_init 14 = .ok (.bipush 20, 2) := by decide +kernel
theorem dX7_init_16 : decode cX7_init 16 = .ok (.newarray .int, 2) := by decide +kernel
theorem dX7_init_18 : decode cX7_init 18 = .ok (.putfield 15, 3) := by decide +kernel
theorem dX7_init_21 : decode cX7_init 21 = .ok (.aload_n 0, 1) := by decide +kernel
theorem dX7_init_22 : decode cX7_init 22 = .ok (.bipush 20, 2) := by decide +kernel
theorem dX7_init_24 : decode cX7_init 24 = .ok (.newarray .int, 2) := by decide +kernel
theorem dX7_init_26 : decode cX7_init 26 = .ok (.putfield 18, 3) := by decide +kernel
theorem dX7_init_29 : decode cX7_init 29 = .ok (.aload_n 0, 1) := by decide +kernel
theorem dX7_init_30 : decode cX7_init 30 = .ok (.bipush 20, 2) := by decide +kernel
theorem dX7_init_32 : decode cX7_init 32 = .ok (.newarray .int, 2) := by decide +kernel
theorem dX7_init_34 : decode cX7_init 34 = .ok (.putfield 21, 3) := by decide +kernel
theorem dX7_init_37 : decode cX7_init 37 = .ok (.return_, 1) := by decide +kernel
theorem dX7_clear_0 : decode cX7_clear 0 = .ok (.aload_n 0, 1) := by decide +kernel
theorem dX7_clear_1 : decode cX7_clear 1 = .ok (.iconst 0, 1) := by decide +kernel
theorem dX7_clear_2 : decode cX7_clear 2 = .ok (.putfield 24, 3) := by decide +kernel
theorem dX7_clear_5 : decode cX7_clear 5 = .ok (.aload_n 0, 1) := by decide +kernel
theorem dX7_clear_6 : decode cX7_clear 6 = .ok (.iconst 0, 1) := by decide +kernel
theorem dX7_clear_7 : decode cX7_clear 7 = .ok (.putfield 28, 3) := by decide +kernel
theorem dX7_clear_10 : decode cX7_clear 10 = .ok (.aload_n 0, 1) := by decide +kernel
theorem dX7_clear_11 : decode cX7_clear 11 = .ok (.iconst 0, 1) := by decide +kernel
theorem dX7_clear_12 : decode cX7_clear 12 = .ok (.putfield 31, 3) := by decide +kernel
theorem dX7_clear_15 : decode cX7_clear 15 = .ok (.aload_n 0, 1) := by decide +kernel
theorem dX7_clear_16 : decode cX7_clear 16 = .ok (.iconst 0, 1) := by decide +kernel
theorem dX7_clear_17 : decode cX7_clear 17 = .ok (.putfield 34, 3) := by decide +kernel
theorem dX7_clear_20 : decode cX7_clear 20 = .ok (.aload_n 0, 1) := by decide +kernel
theorem dX7_clear_21 : decode cX7_clear 21 = .ok (.iconst 0, 1) := by decide +kernel
theorem dX7_clear_22 : decode cX7_clear 22 = .ok (.putfield 37, 3) := by decide +kernel
theorem dX7_clear_25 : decode cX7_clear 25 = .ok (.aload_n 0, 1) := by decide +kernel
theorem dX7_clear_26 : decode cX7_clear 26 = .ok (.iconst 0, 1) := by decide +kernel
theorem dX7_clear_27 : decode cX7_clear 27 = .ok (.putfield 40, 3) := by decide +kernel
theorem dX7_clear_30 : decode cX7_clear 30 = .ok (.return_, 1) := by decide +kernel
theorem dX7_copyOf_0 : decode cX7_copyOf 0 = .ok (.aload_n 1, 1) := by decide +kernel
theorem dX7_copyOf_1 : decode cX7_copyOf 1 = .ok (.getfield 9, 3) := by decide +kernel
theorem dX7_copyOf_4 : decode cX7_copyOf 4 = .ok (.iconst 0, 1) := by decide +kernel
theorem dX7_copyOf_5 : decode cX7_copyOf 5 = .ok (.aload_n 0, 1) := by decide +kernel
theorem dX7_copyOf_6 : decode cX7_copyOf 6 = .ok (.getfield 9, 3) := by decide +kernel
theorem dX7_copyOf_9 : decode cX7_copyOf 9 = .ok (.iconst 0, 1) := by decide +kernel
theorem dX7_copyOf_10 : decode cX7_copyOf 10 = .ok (.sipush 300, 3) := by decide +kernel
theorem dX7_copyOf_13 : decode cX7_copyOf 13 = .ok (.invokestatic 43, 3) := by decide +kernel
theorem dX7_copyOf_16 : decode cX7_copyOf 16 = .ok (.aload_n 1, 1) := by decide +kernel
theorem dX7_copyOf_17 : decode cX7_copyOf 17 = .ok (.getfield 15, 3) := by decide +kernel
theorem dX7_copyOf_20 : decode cX7_copyOf 20 = .ok (.iconst 0, 1) := by decide +kernel
theorem dX7_copyOf_21 : decode cX7_copyOf 21 = .ok (.aload_n 0, 1) := by decide +kernel
theorem dX7_copyOf_22 : decode cX7_copyOf 22 = .ok (.getfield 15, 3) := by decide +kernel
theorem dX7_copyOf_25 : decode cX7_copyOf 25 = .ok (.iconst 0, 1) := by decide +kernel
theorem dX7_copyOf_26 : decode cX7_copyOf 26 = .ok (.bipush 20, 2) := by decide +kernel
theorem dX7_copyOf_28 : decode cX7_copyOf 28 = .ok (.invokestatic 43, 3) := by decide +kernel
theorem dX7_copyOf_31 : decode cX7_copyOf 31 = .ok (.aload_n 1, 1) := by decide +kernel
theorem dX7_copyOf_32 : decode cX7_copyOf 32 = .ok (.getfield 18, 3) := by decide +kernel
theorem dX7_copyOf_35 : decode cX7_copyOf 35 = .ok (.iconst 0, 1) := by decide +kernel
theorem dX7_copyOf_36 : decode cX7_copyOf 36 = .ok (.aload_n 0, 1) := by decide +kernel
theorem dX7_copyOf_37 : decode cX7_copyOf 37 = .ok (.getfield 18, 3) := by decide +kernel
theorem dX7_copyOf_40 : decode cX7_copyOf 40 = .ok (.iconst 0, 1) := by decide +kernel
theorem dX7_copyOf_41 : decode cX7_copyOf 41 = .ok (.bipush 20, 2) := by decide +kernel
theorem dX7_copyOf_43 : decode cX7_copyOf 43 = .ok (.invokestatic 43, 3) := by decide +kernel
theorem dX7_copyOf_46 : decode cX7_copyOf 46 = .ok (.aload_n 1, 1) := by decide +kernel
theorem dX7_copyOf_47 : decode cX7_copyOf 47 = .ok (.getfield 21, 3) := by decide +kernel
theorem dX7_copyOf_50 : decode cX7_copyOf 50 = .ok (.iconst 0, 1) := by decide +kernel
theorem dX7_copyOf_51 : decode cX7_copyOf 51 = .ok (.aload_n 0, 1) := by decide +kernel
theorem dX7_copyOf_52 : decode cX7_copyOf 52 = .ok (.getfield 21, 3) := by decide +kernel
theorem dX7_copyOf_55 : decode cX7_copyOf 55 = .ok (.iconst 0, 1) := by decide +kernel
theorem dX7_copyOf_56 : decode cX7_copyOf 56 = .ok (.bipush 20, 2) := by decide +kernel
theorem dX7_copyOf_58 : decode cX7_copyOf 58 = .ok (.invokestatic 43, 3) := by decide +kernel
theorem dX7_copyOf_61 : decode cX7_copyOf 61 = .ok (.aload_n 0, 1) := by decide +kernel
theorem dX7_copyOf_62 : decode cX7_copyOf 62 = .ok (.aload_n 1, 1) := by decide +kernel
theorem dX7_copyOf_63 : decode cX7_copyOf 63 = .ok (.getfield 24, 3) := by decide +kernel
theorem dX7_copyOf_66 : decode cX7_copyOf 66 = .ok (.putfield 24, 3) := by decide +kernel
theorem dX7_copyOf_69 : decode cX7_copyOf 69 = .ok (.aload_n 0, 1) := by decide +kernel
theorem dX7_copyOf_70 : decode cX7_copyOf 70 = .ok (.aload_n 1, 1) := by decide +kernel
theorem dX7_copyOf_71 : decode cX7_copyOf 71 = .ok (.getfield 28, 3) := by decide +kernel
theorem dX7_copyOf_74 : decode cX7_copyOf 74 = .ok (.putfield 28, 3) := by decide +kernel
theorem dX7_copyOf_77 : decode cX7_copyOf 77 = .ok (.aload_n 0, 1) := by decide +kernel
theorem dX7_copyOf_78 : decode cX7_copyOf 78 = .ok (.aload_n 1, 1) := by decide +kernel
theorem dX7_copyOf_79 : decode cX7_copyOf 79 = .ok (.getfield 31, 3) := by decide +kernel
theorem dX7_copyOf_82 : decode cX7_copyOf 82 = .ok (.putfield 31, 3) := by decide +kernel
theorem dX7_copyOf_85 : decode cX7_copyOf 85 = .ok (.aload_n 0, 1) := by decide +kernel
theorem dX7_copyOf_86 : decode cX7_copyOf 86 = .ok (.aload_n 1, 1) := by decide +kernel
theorem dX7_copyOf_87 : decode cX7_copyOf 87 = .ok (.getfield 34, 3) := by decide +kernel
theorem dX7_copyOf_90 : decode cX7_copyOf 90 = .ok (.putfield 34, 3) := by decide +kernel
theorem dX7_copyOf_93 : decode cX7_copyOf 93 = .ok (.aload_n 0, 1) := by decide +kernel
theorem dX7_copyOf_94 : decode cX7_copyOf 94 = .ok (.aload_n 1, 1) := by decide +kernel
theorem dX7_copyOf_95 : decode cX7_copyOf 95 = .ok (.getfield 37, 3) := by decide +kernel
theorem dX7_copyOf_98 : decode cX7_copyOf 98 = .ok (.putfield 37, 3) := by decide +kernel
theorem dX7_copyOf_101 : decode cX7_copyOf 101 = .ok (.aload_n 0, 1) := by decide +kernel
theorem dX7_copyOf_102 : decode cX7_copyOf 102 = .ok (.aload_n 1, 1) := by decide +kernel
theorem dX7_copyOf_103 : decode cX7_copyOf 103 = .ok (.getfield 40, 3) := by decide +kernel
theorem dX7_copyOf_106 : decode cX7_copyOf 106 = .ok (.putfield 40, 3) := by decide +kernel
theorem dX7_copyOf_109 : decode cX7_copyOf 109 = .ok (.return_, 1) := by decide +kernel
theorem dX7_hasGlove_0 : decode cX7_hasGlove 0 = .ok (.aload_n 0, 1) := by decide +kernel
theorem dX7_hasGlove_1 : decode cX7_hasGlove 1 = .ok (.getfield 31, 3) := by decide +kernel
theorem dX7_hasGlove_4 : decode cX7_hasGlove 4 = .ok (.aload_n 0, 1) := by decide +kernel
theorem dX7_hasGlove_5 : decode cX7_hasGlove 5 = .ok (.getfield 28, 3) := by decide +kernel
theorem dX7_hasGlove_8 : decode cX7_hasGlove 8 = .ok (.if_icmp .le 7, 3) := by decide +kernel
theorem dX7_hasGlove_11 : decode cX7_hasGlove 11 = .ok (.iconst 1, 1) := by decide +kernel
theorem dX7_hasGlove_12 : decode cX7_hasGlove 12 = .ok (.goto 4, 3) := by decide +kernel
theorem dX7_hasGlove_15 : decode cX7_hasGlove 15 = .ok (.iconst 0, 1) := by decide +kernel
theorem dX7_hasGlove_16 : decode cX7_hasGlove 16 = .ok (.ireturn, 1) := by decide +kernel
theorem dX7_hasGrain_0 : decode cX7_hasGrain 0 = .ok (.aload_n 0, 1) := by decide +kernel
theorem dX7_hasGrain_1 : decode cX7_hasGrain 1 = .ok (.getfield 37, 3) := by decide +kernel
theorem dX7_hasGrain_4 : decode cX7_hasGrain 4 = .ok (.aload_n 0, 1) := by decide +kernel
theorem dX7_hasGrain_5 : decode cX7_hasGrain 5 = .ok (.getfield 34, 3) := by decide +kernel
theorem dX7_hasGrain_8 : decode cX7_hasGrain 8 = .ok (.if_icmp .le 7, 3) := by decide +kernel
theorem dX7_hasGrain_11 : decode cX7_hasGrain 11 = .ok (.iconst 1, 1) := by decide +kernel
theorem dX7_hasGrain_12 : decode cX7_hasGrain 12 = .ok (.goto 4, 3) := by decide +kernel
theorem dX7_hasGrain_15 : decode cX7_hasGrain 15 = .ok (.iconst 0, 1) := by decide +kernel
theorem dX7_hasGrain_16 : decode cX7_hasGrain 16 = .ok (.ireturn, 1) := by decide +kernel
theorem dX7_put_0 : decode cX7_put 0 = .ok (.aload_n 0, 1) := by decide +kernel
theorem dX7_put_1 : decode cX7_put 1 = .ok (.getfield 24, 3) := by decide +kernel
theorem dX7_put_4 : decode cX7_put 4 = .ok (.ifCond .lt 13, 3) := by decide +kernel
theorem dX7_put_7 : decode cX7_put 7 = .ok (.aload_n 0, 1) := by decide +kernel
theorem dX7_put_8 : decode cX7_put 8 = .ok (.getfield 24, 3) := by decide +kernel
theorem dX7_put_11 : decode cX7_put 11 = .ok (.sipush 300, 3) := by decide +kernel
theorem dX7_put_14 : decode cX7_put 14 = .ok (.if_icmp .lt 5, 3) := by decide +kernel
theorem dX7_put_17 : decode cX7_put 17 = .ok (.iconst 0, 1) := by decide +kernel
theorem dX7_put_18 : decode cX7_put 18 = .ok (.ireturn, 1) := by decide +kernel
theorem dX7_put_19 : decode cX7_put 19 = .ok (.aload_n 0, 1) := by decide +kernel
theorem dX7_put_20 : decode cX7_put 20 = .ok (.getfield 9, 3) := by decide +kernel
theorem dX7_put_23 : decode cX7_put 23 = .ok (.aload_n 0, 1) := by decide +kernel
theorem dX7_put_24 : decode cX7_put 24 = .ok (.getfield 24, 3) := by decide +kernel
theorem dX7_put_27 : decode cX7_put 27 = .ok (.iload_n 1, 1) := by decide +kernel
theorem dX7_put_28 : decode cX7_put 28 = .ok (.iastore, 1) := by decide +kernel
theorem dX7_put_29 : decode cX7_put 29 = .ok (.aload_n 0, 1) := by decide +kernel
theorem dX7_put_30 : decode cX7_put 30 = .ok (.dup, 1) := by decide +kernel
theorem dX7_put_31 : decode cX7_put 31 = .ok (.getfield 24, 3) := by decide +kernel
theorem dX7_put_34 : decode cX7_put 34 = .ok (.iconst 1, 1) := by decide +kernel
theorem dX7_put_35 : decode cX7_put 35 = .ok (.iadd, 1) := by decide +kernel
theorem dX7_put_36 : decode cX7_put 36 = .ok (.putfield 24, 3) := by decide +kernel
theorem dX7_put_39 : decode cX7_put 39 = .ok (.iconst 1, 1) := by decide +kernel
theorem dX7_put_40 : decode cX7_put 40 = .ok (.ireturn, 1) := by decide +kernel
theorem dX7_addClause_0 : decode cX7_addClause 0 = .ok (.aload_n 0, 1) := by decide +kernel
theorem dX7_addClause_1 : decode cX7_addClause 1 = .ok (.getfield 40, 3) := by decide +kernel
theorem dX7_addClause_4 : decode cX7_addClause 4 = .ok (.ifCond .lt 52, 3) := by decide +kernel
theorem dX7_addClause_7 : decode cX7_addClause 7 = .ok (.aload_n 0, 1) := by decide +kernel
theorem dX7_addClause_8 : decode cX7_addClause 8 = .ok (.getfield 40, 3) := by decide +kernel
theorem dX7_addClause_11 : decode cX7_addClause 11 = .ok (.bipush 20, 2) := by decide +kernel
theorem dX7_addClause_13 : decode cX7_addClause 13 = .ok (.if_icmp .ge 43, 3) := by decide +kernel
theorem dX7_addClause_16 : decode cX7_addClause 16 = .ok (.aload_n 0, 1) := by decide +kernel
theorem dX7_addClause_17 : decode cX7_addClause 17 = .ok (.getfield 15, 3) := by decide +kernel
theorem dX7_addClause_20 : decode cX7_addClause 20 = .ok (.aload_n 0, 1) := by decide +kernel
theorem dX7_addClause_21 : decode cX7_addClause 21 = .ok (.getfield 40, 3) := by decide +kernel
theorem dX7_addClause_24 : decode cX7_addClause 24 = .ok (.iload_n 1, 1) := by decide +kernel
theorem dX7_addClause_25 : decode cX7_addClause 25 = .ok (.iastore, 1) := by decide +kernel
theorem dX7_addClause_26 : decode cX7_addClause 26 = .ok (.aload_n 0, 1) := by decide +kernel
theorem dX7_addClause_27 : decode cX7_addClause 27 = .ok (.getfield 18, 3) := by decide +kernel
theorem dX7_addClause_30 : decode cX7_addClause 30 = .ok (.aload_n 0, 1) := by decide +kernel
theorem dX7_addClause_31 : decode cX7_addClause 31 = .ok (.getfield 40, 3) := by decide +kernel
theorem dX7_addClause_34 : decode cX7_addClause 34 = .ok (.iload_n 2, 1) := by decide +kernel
theorem dX7_addClause_35 : decode cX7_addClause 35 = .ok (.iastore, 1) := by decide +kernel
theorem dX7_addClause_36 : decode cX7_addClause 36 = .ok (.aload_n 0, 1) := by decide +kernel
theorem dX7_addClause_37 : decode cX7_addClause 37 = .ok (.getfield 21, 3) := by decide +kernel
theorem dX7_addClause_40 : decode cX7_addClause 40 = .ok (.aload_n 0, 1) := by decide +kernel
theorem dX7_addClause_41 : decode cX7_addClause 41 = .ok (.getfield 40, 3) := by decide +kernel
theorem dX7_addClause_44 : decode cX7_addClause 44 = .ok (.iload_n 3, 1) := by decide +kernel
theorem dX7_addClause_45 : decode cX7_addClause 45 = .ok (.iastore, 1) := by decide +kernel
theorem dX7_addClause_46 : decode cX7_addClause 46 = .ok (.aload_n 0, 1) := by decide +kernel
theorem dX7_addClause_47 : decode cX7_addClause 47 = .ok (.dup, 1) := by decide +kernel
theorem dX7_addClause_48 : decode cX7_addClause 48 = .ok (.getfield 40, 3) := by decide +kernel
theorem dX7_addClause_51 : decode cX7_addClause 51 = .ok (.iconst 1, 1) := by decide +kernel
theorem dX7_addClause_52 : decode cX7_addClause 52 = .ok (.iadd, 1) := by decide +kernel
theorem dX7_addClause_53 : decode cX7_addClause 53 = .ok (.putfield 40, 3) := by decide +kernel
theorem dX7_addClause_56 : decode cX7_addClause 56 = .ok (.return_, 1) := by decide +kernel
theorem dX7_addLaw_0 : decode cX7_addLaw 0 = .ok (.iload_n 1, 1) := by decide +kernel
theorem dX7_addLaw_1 : decode cX7_addLaw 1 = .ok (.iconst 4, 1) := by decide +kernel
theorem dX7_addLaw_2 : decode cX7_addLaw 2 = .ok (.if_icmp .ne 19, 3) := by decide +kernel
theorem dX7_addLaw_5 : decode cX7_addLaw 5 = .ok (.aload_n 0, 1) := by decide +kernel
theorem dX7_addLaw_6 : decode cX7_addLaw 6 = .ok (.iload_n 2, 1) := by decide +kernel
theorem dX7_addLaw_7 : decode cX7_addLaw 7 = .ok (.putfield 28, 3) := by decide +kernel
theorem dX7_addLaw_10 : decode cX7_addLaw 10 = .ok (.aload_n 0, 1) := by decide +kernel
theorem dX7_addLaw_11 : decode cX7_addLaw 11 = .ok (.aload_n 0, 1) := by decide +kernel
theorem dX7_addLaw_12 : decode cX7_addLaw 12 = .ok (.getfield 24, 3) := by decide +kernel
theorem dX7_addLaw_15 : decode cX7_addLaw 15 = .ok (.putfield 31, 3) := by decide +kernel
theorem dX7_addLaw_18 : decode cX7_addLaw 18 = .ok (.goto 16, 3) := by decide +kernel
theorem dX7_addLaw_21 : decode cX7_addLaw 21 = .ok (.aload_n 0, 1) := by decide +kernel
theorem dX7_addLaw_22 : decode cX7_addLaw 22 = .ok (.iload_n 2, 1) := by decide +kernel
theorem dX7_addLaw_23 : decode cX7_addLaw 23 = .ok (.putfield 34, 3) := by decide +kernel
theorem dX7_addLaw_26 : decode cX7_addLaw 26 = .ok (.aload_n 0, 1) := by decide +kernel
theorem dX7_addLaw_27 : decode cX7_addLaw 27 = .ok (.aload_n 0, 1) := by decide +kernel
theorem dX7_addLaw_28 : decode cX7_addLaw 28 = .ok (.getfield 24, 3) := by decide +kernel
theorem dX7_addLaw_31 : decode cX7_addLaw 31 = .ok (.putfield 37, 3) := by decide +kernel
theorem dX7_addLaw_34 : decode cX7_addLaw 34 = .ok (.aload_n 0, 1) := by decide +kernel
theorem dX7_addLaw_35 : decode cX7_addLaw 35 = .ok (.iload_n 1, 1) := by decide +kernel
theorem dX7_addLaw_36 : decode cX7_addLaw 36 = .ok (.iconst 0, 1) := by decide +kernel
theorem dX7_addLaw_37 : decode cX7_addLaw 37 = .ok (.iconst 0, 1) := by decide +kernel
theorem dX7_addLaw_38 : decode cX7_addLaw 38 = .ok (.invokevirtual 49, 3) := by decide +kernel
theorem dX7_addLaw_41 : decode cX7_addLaw 41 = .ok (.return_, 1) := by decide +kernel
theorem dX8_init_0 : decode cX8_init 0 = .ok (.aload_n 0, 1) := by decide +kernel
theorem dX8_init_1 : decode cX8_init 1 = .ok (.invokespecial 3, 3) := by decide +kernel
theorem dX8_init_4 : decode cX8_init 4 = .ok (.aload_n 0, 1) := by decide +kernel
theorem dX8_init_5 : decode cX8_init 5 = .ok (.sipush 300, 3) := by decide +kernel
theorem dX8_init_8 : decode cX8_init 8 = .ok (.newarray .int, 2) := by decide +kernel
theorem dX8_init_10 : decode cX8_init 10 = .ok (.putfield 9, 3) := by decide +kernel
theorem dX8_init_13 : decode cX8_init 13 = .ok (.aload_n 0, 1) := by decide +kernel
theorem dX8_init_14 : decode cX8_init 14 = .ok (.sipush 300, 3) := by decide +kernel
theorem dX8_init_17 : decode cX8_init 17 = .ok (.newarray .int, 2) := by decide +kernel
theorem dX8_init_19 : decode cX8_init 19 = .ok (.putfield 15, 3) := by decide +kernel
theorem dX8_init_22 : decode cX8_init 22 = .ok (.aload_n 0, 1) := by decide +kernel
theorem dX8_init_23 : decode cX8_init 23 = .ok (.sipush 300, 3) := by decide +kernel
theorem dX8_init_26 : decode cX8_init 26 = .ok (.newarray .int, 2) := by decide +kernel
theorem dX8_init_28 : decode cX8_init 28 = .ok (.putfield 18, 3) := by decide +kernel
theorem dX8_init_31 : decode cX8_init 31 = .ok (.aload_n 0, 1) := by decide +kernel
theorem dX8_init_32 : decode cX8_init 32 = .ok (.sipush 300, 3) := by decide +kernel
theorem dX8_init_35 : decode cX8_init 35 = .ok (.newarray .int, 2) := by decide +kernel
theorem dX8_init_37 : decode cX8_init 37 = .ok (.putfield 21, 3) := by decide +kernel
theorem dX8_init_40 : decode cX8_init 40 = .ok (.return_, 1) := by decide +kernel
theorem dX8_cut_0 : decode cX8_cut 0 = .ok (.aload_n 0, 1) := by decide +kernel
theorem dX8_cut_1 : decode cX8_cut 1 = .ok (.iconst 0, 1) := by decide +kernel
theorem dX8_cut_2 : decode cX8_cut 2 = .ok (.putfield 24, 3) := by decide +kernel
theorem dX8_cut_5 : decode cX8_cut 5 = .ok (.aload_n 0, 1) := by decide +kernel
theorem dX8_cut_6 : decode cX8_cut 6 = .ok (.aload_n 1, 1) := by decide +kernel
theorem dX8_cut_7 : decode cX8_cut 7 = .ok (.getfield 28, 3) := by decide +kernel
theorem dX8_cut_10 : decode cX8_cut 10 = .ok (.putfield 33, 3) := by decide +kernel
theorem dX8_cut_13 : decode cX8_cut 13 = .ok (.iconst 0, 1) := by decide +kernel
theorem dX8_cut_14 : decode cX8_cut 14 = .ok (.istore_n 2, 1) := by decide +kernel
theorem dX8_cut_15 : decode cX8_cut 15 = .ok (.iload_n 2, 1) := by decide +kernel
theorem dX8_cut_16 : decode cX8_cut 16 = .ok (.aload_n 0, 1) := by decide +kernel
theorem dX8_cut_17 : decode cX8_cut 17 = .ok (.getfield 33, 3) := by decide +kernel
theorem dX8_cut_20 : decode cX8_cut 20 = .ok (.if_icmp .ge 46, 3) := by decide +kernel
theorem dX8_cut_23 : decode cX8_cut 23 = .ok (.iload_n 2, 1) := by decide +kernel
theorem dX8_cut_24 : decode cX8_cut 24 = .ok (.sipush 300, 3) := by decide +kernel
theorem dX8_cut_27 : decode cX8_cut 27 = .ok (.if_icmp .ge 39, 3) := by decide +kernel
theorem dX8_cut_30 : decode cX8_cut 30 = .ok (.aload_n 1, 1) := by decide +kernel
theorem dX8_cut_31 : decode cX8_cut 31 = .ok (.iload_n 2, 1) := by decide +kernel
theorem dX8_cut_32 : decode cX8_cut 32 = .ok (.invokevirtual 34, 3) := by decide +kernel
theorem dX8_cut_35 : decode cX8_cut 35 = .ok (.istore_n 3, 1) := by decide +kernel
theorem dX8_cut_36 : decode cX8_cut 36 = .ok (.iload_n 3, 1) := by decide +kernel
theorem dX8_cut_37 : decode cX8_cut 37 = .ok (.invokestatic 38, 3) := by decide +kernel
theorem dX8_cut_40 : decode cX8_cut 40 = .ok (.ifCond .ne 20, 3) := by decide +kernel
theorem dX8_cut_43 : decode cX8_cut 43 = .ok (.aload_n 0, 1) := by decide +kernel
theorem dX8_cut_44 : decode cX8_cut 44 = .ok (.iload_n 3, 1) := by decide +kernel
theorem dX8_cut_45 : decode cX8_cut 45 = .ok (.iload_n 2, 1) := by decide +kernel
theorem dX8_cut_46 : decode cX8_cut 46 = .ok (.aload_n 1, 1) := by decide +kernel
theorem dX8_cut_47 : decode cX8_cut 47 = .ok (.iload_n 2, 1) := by decide +kernel
theorem dX8_cut_48 : decode cX8_cut 48 = .ok (.iconst 1, 1) := by decide +kernel
theorem dX8_cut_49 : decode cX8_cut 49 = .ok (.isub, 1) := by decide +kernel
theorem dX8_cut_50 : decode cX8_cut 50 = .ok (.invokevirtual 34, 3) := by decide +kernel
theorem dX8_cut_53 : decode cX8_cut 53 = .ok (.iload_n 3, 1) := by decide +kernel
theorem dX8_cut_54 : decode cX8_cut 54 = .ok (.invokestatic 42, 3) := by decide +kernel
theorem dX8_cut_57 : decode cX8_cut 57 = .ok (.invokevirtual 46, 3) := by decide +kernel
theorem dX8_cut_60 : decode cX8_cut 60 = .ok (.iinc 2 1, 3) := by decide +kernel
theorem dX8_cut_63 : decode cX8_cut 63 = .ok (.goto (-48), 3) := by decide +kernel
theorem dX8_cut_66 : decode cX8_cut 66 = .ok (.iconst 0, 1) := by decide +kernel
theorem dX8_cut_67 : decode cX8_cut 67 = .ok (.istore_n 2, 1) := by decide +kernel
theorem dX8_cut_68 : decode cX8_cut 68 = .ok (.iload_n 2, 1) := by decide +kernel
theorem dX8_cut_69 : decode cX8_cut 69 = .ok (.aload_n 0, 1) := by decide +kernel
theorem dX8_cut_70 : decode cX8_cut 70 = .ok (.getfield 24, 3) := by decide +kernel
theorem dX8_cut_73 : decode cX8_cut 73 = .ok (.if_icmp .ge 38, 3) := by decide +kernel
theorem dX8_cut_76 : decode cX8_cut 76 = .ok (.iload_n 2, 1) := by decide +kernel
theorem dX8_cut_77 : decode cX8_cut 77 = .ok (.sipush 300, 3) := by decide +kernel
theorem dX8_cut_80 : decode cX8_cut 80 = .ok (.if_icmp .ge 31, 3) := by decide +kernel
theorem dX8_cut_83 : decode cX8_cut 83 = .ok (.aload_n 0, 1) := by decide +kernel
theorem dX8_cut_84 : decode cX8_cut 84 = .ok (.getfield 9, 3) := by decide +kernel
theorem dX8_cut_87 : decode cX8_cut 87 = .ok (.iload_n 2, 1) := by decide +kernel
theorem dX8_cut_88 : decode cX8_cut 88 = .ok (.iaload, 1) := by decide +kernel
theorem dX8_cut_89 : decode cX8_cut 89 = .ok (.iconst 3, 1) := by decide +kernel
theorem dX8_cut_90 : decode cX8_cut 90 = .ok (.if_icmp .ne 15, 3) := by decide +kernel
theorem dX8_cut_93 : decode cX8_cut 93 = .ok (.aload_n 0, 1) := by decide +kernel
theorem dX8_cut_94 : decode cX8_cut 94 = .ok (.getfield 9, 3) := by decide +kernel
theorem dX8_cut_97 : decode cX8_cut 97 = .ok (.iload_n 2, 1) := by decide +kernel
theorem dX8_cut_98 : decode cX8_cut 98 = .ok (.aload_n 0, 1) := by decide +kernel
theorem dX8_cut_99 : decode cX8_cut 99 = .ok (.aload_n 1, 1) := by decide +kernel
theorem dX8_cut_100 : decode cX8_cut 100 = .ok (.iload_n 2, 1) := by decide +kernel
theorem dX8_cut_101 : decode cX8_cut 101 = .ok (.invokevirtual 50, 3) := by decide +kernel
theorem dX8_cut_104 : decode cX8_cut 104 = .ok (.iastore, 1) := by decide +kernel
theorem dX8_cut_105 : decode cX8_cut 105 = .ok (.iinc 2 1, 3) := by decide +kernel
theorem dX8_cut_108 : decode cX8_cut 108 = .ok (.goto (-40), 3) := by decide +kernel
theorem dX8_cut_111 : decode cX8_cut 111 = .ok (.aload_n 0, 1) := by decide +kernel
theorem dX8_cut_112 : decode cX8_cut 112 = .ok (.iconst (-1), 1) := by decide +kernel
theorem dX8_cut_113 : decode cX8_cut 113 = .ok (.putfield 54, 3) := by decide +kernel
theorem dX8_cut_116 : decode cX8_cut 116 = .ok (.aload_n 0, 1) := by decide +kernel
theorem dX8_cut_117 : decode cX8_cut 117 = .ok (.invokevirtual 57, 3) := by decide +kernel
theorem dX8_cut_120 : decode cX8_cut 120 = .ok (.return_, 1) := by decide +kernel
theorem dX8_next_0 : decode cX8_next 0 = .ok (.aload_n 0, 1) := by decide +kernel
theorem dX8_next_1 : decode cX8_next 1 = .ok (.dup, 1) := by decide +kernel
theorem dX8_next_2 : decode cX8_next 2 = .ok (.getfield 54, 3) := by decide +kernel
theorem dX8_next_5 : decode cX8_next 5 = .ok (.iconst 1, 1) := by decide +kernel
theorem dX8_next_6 : decode cX8_next 6 = .ok (.iadd, 1) := by decide +kernel
theorem dX8_next_7 : decode cX8_next 7 = .ok (.putfield 54, 3) := by decide +kernel
theorem dX8_next_10 : decode cX8_next 10 = .ok (.aload_n 0, 1) := by decide +kernel
theorem dX8_next_11 : decode cX8_next 11 = .ok (.getfield 54, 3) := by decide +kernel
theorem dX8_next_14 : decode cX8_next 14 = .ok (.ifCond .lt 28, 3) := by decide +kernel
theorem dX8_next_17 : decode cX8_next 17 = .ok (.aload_n 0, 1) := by decide +kernel
theorem dX8_next_18 : decode cX8_next 18 = .ok (.getfield 54, 3) := by decide +kernel
theorem dX8_next_21 : decode cX8_next 21 = .ok (.aload_n 0, 1) := by decide +kernel
theorem dX8_next_22 : decode cX8_next 22 = .ok (.getfield 24, 3) := by decide +kernel
theorem dX8_next_25 : decode cX8_next 25 = .ok (.if_icmp .ge 17, 3) := by decide +kernel
theorem dX8_next_28 : decode cX8_next 28 = .ok (.aload_n 0, 1) := by decide +kernel
theorem dX8_next_29 : decode cX8_next 29 = .ok (.getfield 54, 3) := by decide +kernel
theorem dX8_next_32 : decode cX8_next 32 = .ok (.sipush 300, 3) := by decide +kernel
theorem dX8_next_35 : decode cX8_next 35 = .ok (.if_icmp .ge 7, 3) := by decide +kernel
theorem dX8_next_38 : decode cX8_next 38 = .ok (.iconst 1, 1) := by decide +kernel
theorem dX8_next_39 : decode cX8_next 39 = .ok (.goto 4, 3) := by decide +kernel
theorem dX8_next_42 : decode cX8_next 42 = .ok (.iconst 0, 1) := by decide +kernel
theorem dX8_next_43 : decode cX8_next 43 = .ok (.istore_n 1, 1) := by decide +kernel
theorem dX8_next_44 : decode cX8_next 44 = .ok (.aload_n 0, 1) := by decide +kernel
theorem dX8_next_45 : decode cX8_next 45 = .ok (.iload_n 1, 1) := by decide +kernel
theorem dX8_next_46 : decode cX8_next 46 = .ok (.ifCond .eq 15, 3) := by decide +kernel
theorem dX8_next_49 : decode cX8_next 49 = .ok (.aload_n 0, 1) := by decide +kernel
theorem dX8_next_50 : decode cX8_next 50 = .ok (.getfield 9, 3) := by decide +kernel
theorem dX8_next_53 : decode cX8_next 53 = .ok (.aload_n 0, 1) := by decide +kernel
theorem dX8_next_54 : decode cX8_next 54 = .ok (.getfield 54, 3) := by decide +kernel
theorem dX8_next_57 : decode cX8_next 57 = .ok (.iaload, 1) := by decide +kernel
theorem dX8_next_58 : decode cX8_next 58 = .ok (.goto 4, 3) := by decide +kernel
theorem dX8_next_61 : decode cX8_next 61 = .ok (.iconst 0, 1) := by decide +kernel
theorem dX8_next_62 : decode cX8_next 62 = .ok (.putfield 60, 3) := by decide +kernel
theorem dX8_next_65 : decode cX8_next 65 = .ok (.aload_n 0, 1) := by decide +kernel
theorem dX8_next_66 : decode cX8_next 66 = .ok (.iload_n 1, 1) := by decide +kernel
theorem dX8_next_67 : decode cX8_next 67 = .ok (.ifCond .eq 15, 3) := by decide +kernel
theorem dX8_next_70 : decode cX8_next 70 = .ok (.aload_n 0, 1) := by decide +kernel
theorem dX8_next_71 : decode cX8_next 71 = .ok (.getfield 15, 3) := by decide +kernel
theorem dX8_next_74 : decode cX8_next 74 = .ok (.aload_n 0, 1) := by decide +kernel
theorem dX8_next_75 : decode cX8_next 75 = .ok (.getfield 54, 3) := by decide +kernel
theorem dX8_next_78 : decode cX8_next 78 = .ok (.iaload, 1) := by decide +kernel
theorem dX8_next_79 : decode cX8_next 79 = .ok (.goto 4, 3) := by decide +kernel
theorem dX8_next_82 : decode cX8_next 82 = .ok (.iconst 0, 1) := by decide +kernel
theorem dX8_next_83 : decode cX8_next 83 = .ok (.putfield 63, 3) := by decide +kernel
theorem dX8_next_86 : decode cX8_next 86 = .ok (.aload_n 0, 1) := by decide +kernel
theorem dX8_next_87 : decode cX8_next 87 = .ok (.iload_n 1, 1) := by decide +kernel
theorem dX8_next_88 : decode cX8_next 88 = .ok (.ifCond .eq 15, 3) := by decide +kernel
theorem dX8_next_91 : decode cX8_next 91 = .ok (.aload_n 0, 1) := by decide +kernel
theorem dX8_next_92 : decode cX8_next 92 = .ok (.getfield 18, 3) := by decide +kernel
theorem dX8_next_95 : decode cX8_next 95 = .ok (.aload_n 0, 1) := by decide +kernel
theorem dX8_next_96 : decode cX8_next 96 = .ok (.getfield 54, 3) := by decide +kernel
theorem dX8_next_99 : decode cX8_next 99 = .ok (.iaload, 1) := by decide +kernel
theorem dX8_next_100 : decode cX8_next 100 = .ok (.goto 7, 3) := by decide +kernel
theorem dX8_next_103 : decode cX8_next 103 = .ok (.aload_n 0, 1) := by decide +kernel
theorem dX8_next_104 : decode cX8_next 104 = .ok (.getfield 33, 3) := by decide +kernel
theorem dX8_next_107 : decode cX8_next 107 = .ok (.putfield 66, 3) := by decide +kernel
theorem dX8_next_110 : decode cX8_next 110 = .ok (.return_, 1) := by decide +kernel
theorem dX8_isToken_0 : decode cX8_isToken 0 = .ok (.iload_n 1, 1) := by decide +kernel
theorem dX8_isToken_1 : decode cX8_isToken 1 = .ok (.ifCond .lt 22, 3) := by decide +kernel
theorem dX8_isToken_4 : decode cX8_isToken 4 = .ok (.iload_n 1, 1) := by decide +kernel
theorem dX8_isToken_5 : decode cX8_isToken 5 = .ok (.aload_n 0, 1) := by decide +kernel
theorem dX8_isToken_6 : decode cX8_isToken 6 = .ok (.getfield 24, 3) := by decide +kernel
theorem dX8_isToken_9 : decode cX8_isToken 9 = .ok (.if_icmp .ge 14, 3) := by decide +kernel
theorem dX8_isToken_12 : decode cX8_isToken 12 = .ok (.iload_n 1, 1) := by decide +kernel
theorem dX8_isToken_13 : decode cX8_isToken 13 = .ok (.sipush 300, 3) := by decide +kernel
theorem dX8_isToken_16 : decode cX8_isToken 16 = .ok (.if_icmp .ge 7, 3) := by decide +kernel
theorem dX8_isToken_19 : decode cX8_isToken 19 = .ok (.iconst 1, 1) := by decide +kernel
theorem dX8_isToken_20 : decode cX8_isToken 20 = .ok (.goto 4, 3) := by decide +kernel
theorem dX8_isToken_23 : decode cX8_isToken 23 = .ok (.iconst 0, 1) := by decide +kernel
theorem dX8_isToken_24 : decode cX8_isToken 24 = .ok (.ireturn, 1) := by decide +kernel
theorem dX8_isBlank_0 : decode cX8_isBlank 0 = .ok (.iload_n 0, 1) := by decide +kernel
theorem dX8_isBlank_1 : decode cX8_isBlank 1 = .ok (.bipush 32, 2) := by decide +kernel
theorem dX8_isBlank_3 : decode cX8_isBlank 3 = .ok (.if_icmp .eq 9, 3) := by decide +kernel
theorem dX8_isBlank_6 : decode cX8_isBlank 6 = .ok (.iload_n 0, 1) := by decide +kernel
theorem dX8_isBlank_7 : decode cX8_isBlank 7 = .ok (.bipush 10, 2) := by decide +kernel
theorem dX8_isBlank_9 : decode cX8_isBlank 9 = .ok (.if_icmp .ne 7, 3) := by decide +kernel
theorem dX8_isBlank_12 : decode cX8_isBlank 12 = .ok (.iconst 1, 1) := by decide +kernel
theorem dX8_isBlank_13 : decode cX8_isBlank 13 = .ok (.goto 4, 3) := by decide +kernel
theorem dX8_isBlank_16 : decode cX8_isBlank 16 = .ok (.iconst 0, 1) := by decide +kernel
theorem dX8_isBlank_17 : decode cX8_isBlank 17 = .ok (.ireturn, 1) := by decide +kernel
theorem dX8_isLetter_0 : decode cX8_isLetter 0 = .ok (.iload_n 0, 1) := by decide +kernel
theorem dX8_isLetter_1 : decode cX8_isLetter 1 = .ok (.bipush 97, 2) := by decide +kernel
theorem dX8_isLetter_3 : decode cX8_isLetter 3 = .ok (.if_icmp .lt 9, 3) := by decide +kernel
theorem dX8_isLetter_6 : decode cX8_isLetter 6 = .ok (.iload_n 0, 1) := by decide +kernel
theorem dX8_isLetter_7 : decode cX8_isLetter 7 = .ok (.bipush 122, 2) := by decide +kernel
theorem dX8_isLetter_9 : decode cX8_isLetter 9 = .ok (.if_icmp .le 15, 3) := by decide +kernel
theorem dX8_isLetter_12 : decode cX8_isLetter 12 = .ok (.iload_n 0, 1) := by decide +kernel
theorem dX8_isLetter_13 : decode cX8_isLetter 13 = .ok (.bipush 65, 2) := by decide +kernel
theorem dX8_isLetter_15 : decode cX8_isLetter 15 = .ok (.if_icmp .lt 13, 3) := by decide +kernel
theorem dX8_isLetter_18 : decode cX8_isLetter 18 = .ok (.iload_n 0, 1) := by decide +kernel
theorem dX8_isLetter_19 : decode cX8_isLetter 19 = .ok (.bipush 90, 2) := by decide +kernel
theorem dX8_isLetter_21 : decode cX8_isLetter 21 = .ok (.if_icmp .gt 7, 3) := by decide +kernel
theorem dX8_isLetter_24 : decode cX8_isLetter 24 = .ok (.iconst 1, 1) := by decide +kernel
theorem dX8_isLetter_25 : decode cX8_isLetter 25 = .ok (.goto 4, 3) := by decide +kernel
theorem dX8_isLetter_28 : decode cX8_isLetter 28 = .ok (.iconst 0, 1) := by decide +kernel
theorem dX8_isLetter_29 : decode cX8_isLetter 29 = .ok (.ireturn, 1) := by decide +kernel
theorem dX8_isDigit_0 : decode cX8_isDigit 0 = .ok (.iload_n 0, 1) := by decide +kernel
theorem dX8_isDigit_1 : decode cX8_isDigit 1 = .ok (.bipush 48, 2) := by decide +kernel
theorem dX8_isDigit_3 : decode cX8_isDigit 3 = .ok (.if_icmp .lt 13, 3) := by decide +kernel
theorem dX8_isDigit_6 : decode cX8_isDigit 6 = .ok (.iload_n 0, 1) := by decide +kernel
theorem dX8_isDigit_7 : decode cX8_isDigit 7 = .ok (.bipush 57, 2) := by decide +kernel
theorem dX8_isDigit_9 : decode cX8_isDigit 9 = .ok (.if_icmp .gt 7, 3) := by decide +kernel
theorem dX8_isDigit_12 : decode cX8_isDigit 12 = .ok (.iconst 1, 1) := by decide +kernel
theorem dX8_isDigit_13 : decode cX8_isDigit 13 = .ok (.goto 4, 3) := by decide +kernel
theorem dX8_isDigit_16 : decode cX8_isDigit 16 = .ok (.iconst 0, 1) := by decide +kernel
theorem dX8_isDigit_17 : decode cX8_isDigit 17 = .ok (.ireturn, 1) := by decide +kernel
theorem dX8_joins_0 : decode cX8_joins 0 = .ok (.iload_n 0, 1) := by decide +kernel
theorem dX8_joins_1 : decode cX8_joins 1 = .ok (.invokestatic 69, 3) := by decide +kernel
theorem dX8_joins_4 : decode cX8_joins 4 = .ok (.ifCond .eq 10, 3) := by decide +kernel
theorem dX8_joins_7 : decode cX8_joins 7 = .ok (.iload_n 1, 1) := by decide +kernel
theorem dX8_joins_8 : decode cX8_joins 8 = .ok (.invokestatic 69, 3) := by decide +kernel
theorem dX8_joins_11 : decode cX8_joins 11 = .ok (.ifCond .ne 35, 3) := by decide +kernel
theorem dX8_joins_14 : decode cX8_joins 14 = .ok (.iload_n 0, 1) := by decide +kernel
theorem dX8_joins_15 : decode cX8_joins 15 = .ok (.invokestatic 72, 3) := by decide +kernel
theorem dX8_joins_18 : decode cX8_joins 18 = .ok (.ifCond .eq 10, 3) := by decide +kernel
theorem dX8_joins_21 : decode cX8_joins 21 = .ok (.iload_n 1, 1) := by decide +kernel
theorem dX8_joins_22 : decode cX8_joins 22 = .ok (.invokestatic 72, 3) := by decide +kernel
theorem dX8_joins_25 : decode cX8_joins 25 = .ok (.ifCond .ne 21, 3) := by decide +kernel
theorem dX8_joins_28 : decode cX8_joins 28 = .ok (.iload_n 0, 1) := by decide +kernel
theorem dX8_joins_29 : decode cX8_joins 29 = .ok (.bipush 60, 2) := by decide +kernel
theorem dX8_joins_31 : decode cX8_joins 31 = .ok (.if_icmp .eq 9, 3) := by decide +kernel
theorem dX8_joins_34 : decode cX8_joins 34 = .ok (.iload_n 0, 1) := by decide +kernel
theorem dX8_joins_35 : decode cX8_joins 35 = .ok (.bipush 62, 2) := by decide +kernel
theorem dX8_joins_37 : decode cX8_joins 37 = .ok (.if_icmp .ne 13, 3) := by decide +kernel
theorem dX8_joins_40 : decode cX8_joins 40 = .ok (.iload_n 1, 1) := by decide +kernel
theorem dX8_joins_41 : decode cX8_joins 41 = .ok (.bipush 61, 2) := by decide +kernel
theorem dX8_joins_43 : decode cX8_joins 43 = .ok (.if_icmp .ne 7, 3) := by decide +kernel
theorem dX8_joins_46 : decode cX8_joins 46 = .ok (.iconst 1, 1) := by decide +kernel
theorem dX8_joins_47 : decode cX8_joins 47 = .ok (.goto 4, 3) := by decide +kernel
theorem dX8_joins_50 : decode cX8_joins 50 = .ok (.iconst 0, 1) := by decide +kernel
theorem dX8_joins_51 : decode cX8_joins 51 = .ok (.ireturn, 1) := by decide +kernel
theorem dX8_take_0 : decode cX8_take 0 = .ok (.iload_n 3, 1) := by decide +kernel
theorem dX8_take_1 : decode cX8_take 1 = .ok (.ifCond .eq 12, 3) := by decide +kernel
theorem dX8_take_4 : decode cX8_take 4 = .ok (.aload_n 0, 1) := by decide +kernel
theorem dX8_take_5 : decode cX8_take 5 = .ok (.getfield 24, 3) := by decide +kernel
theorem dX8_take_8 : decode cX8_take 8 = .ok (.iconst 1, 1) := by decide +kernel
theorem dX8_take_9 : decode cX8_take 9 = .ok (.isub, 1) := by decide +kernel
theorem dX8_take_10 : decode cX8_take 10 = .ok (.goto 7, 3) := by decide +kernel
theorem dX8_take_13 : decode cX8_take 13 = .ok (.aload_n 0, 1) := by decide +kernel
theorem dX8_take_14 : decode cX8_take 14 = .ok (.getfield 24, 3) := by decide +kernel
theorem dX8_take_17 : decode cX8_take 17 = .ok (.istore 4, 2) := by decide +kernel
theorem dX8_take_19 : decode cX8_take 19 = .ok (.iload 4, 2) := by decide +kernel
theorem dX8_take_21 : decode cX8_take 21 = .ok (.ifCond .lt 11, 3) := by decide +kernel
theorem dX8_take_24 : decode cX8_take 24 = .ok (.iload 4, 2) := by decide +kernel
theorem dX8_take_26 : decode cX8_take 26 = .ok (.sipush 300, 3) := by decide +kernel
theorem dX8_take_29 : decode cX8_take 29 = .ok (.if_icmp .lt 4, 3) := by decide +kernel
theorem dX8_take_32 : decode cX8_take 32 = .ok (.return_, 1) := by decide +kernel
theorem dX8_take_33 : decode cX8_take 33 = .ok (.iload_n 3, 1) := by decide +kernel
theorem dX8_take_34 : decode cX8_take 34 = .ok (.ifCond .eq 22, 3) := by decide +kernel
theorem dX8_take_37 : decode cX8_take 37 = .ok (.aload_n 0, 1) := by decide +kernel
theorem dX8_take_38 : decode cX8_take 38 = .ok (.getfield 21, 3) := by decide +kernel
theorem dX8_take_41 : decode cX8_take 41 = .ok (.iload 4, 2) := by decide +kernel
theorem dX8_take_43 : decode cX8_take 43 = .ok (.dup2, 1) := by decide +kernel
theorem dX8_take_44 : decode cX8_take 44 = .ok (.iaload, 1) := by decide +kernel
theorem dX8_take_45 : decode cX8_take 45 = .ok (.iconst 1, 1) := by decide +kernel
theorem dX8_take_46 : decode cX8_take 46 = .ok (.iadd, 1) := by decide +kernel
theorem dX8_take_47 : decode cX8_take 47 = .ok (.iastore, 1) := by decide +kernel
theorem dX8_take_48 : decode cX8_take 48 = .ok (.aload_n 0, 1) := by decide +kernel
theorem dX8_take_49 : decode cX8_take 49 = .ok (.iload 4, 2) := by decide +kernel
theorem dX8_take_51 : decode cX8_take 51 = .ok (.iload_n 1, 1) := by decide +kernel
theorem dX8_take_52 : decode cX8_take 52 = .ok (.invokevirtual 75, 3) := by decide +kernel
theorem dX8_take_55 : decode cX8_take 55 = .ok (.return_, 1) := by decide +kernel
theorem dX8_take_56 : decode cX8_take 56 = .ok (.aload_n 0, 1) := by decide +kernel
theorem dX8_take_57 : decode cX8_take 57 = .ok (.getfield 9, 3) := by decide +kernel
theorem dX8_take_60 : decode cX8_take 60 = .ok (.iload 4, 2) := by decide +kernel
theorem dX8_take_62 : decode cX8_take 62 = .ok (.iload_n 1, 1) := by decide +kernel
theorem dX8_take_63 : decode cX8_take 63 = .ok (.invokestatic 79, 3) := by decide +kernel
theorem dX8_take_66 : decode cX8_take 66 = .ok (.iastore, 1) := by decide +kernel
theorem dX8_take_67 : decode cX8_take 67 = .ok (.aload_n 0, 1) := by decide +kernel
theorem dX8_take_68 : decode cX8_take 68 = .ok (.getfield 15, 3) := by decide +kernel
theorem dX8_take_71 : decode cX8_take 71 = .ok (.iload 4, 2) := by decide +kernel
theorem dX8_take_73 : decode cX8_take 73 = .ok (.iload_n 1, 1) := by decide +kernel
theorem dX8_take_74 : decode cX8_take 74 = .ok (.invokestatic 72, 3) := by decide +kernel
theorem dX8_take_77 : decode cX8_take 77 = .ok (.ifCond .eq 10, 3) := by decide +kernel
theorem dX8_take_80 : decode cX8_take 80 = .ok (.iload_n 1, 1) := by decide +kernel
theorem dX8_take_81 : decode cX8_take 81 = .ok (.bipush 48, 2) := by decide +kernel
theorem dX8_take_83 : decode cX8_take 83 = .ok (.isub, 1) := by decide +kernel
theorem dX8_take_84 : decode cX8_take 84 = .ok (.goto 4, 3) := by decide +kernel
theorem dX8_take_87 : decode cX8_take 87 = .ok (.iconst 0, 1) := by decide +kernel
theorem dX8_take_88 : decode cX8_take 88 = .ok (.iastore, 1) := by decide +kernel
theorem dX8_take_89 : decode cX8_take 89 = .ok (.aload_n 0, 1) := by decide +kernel
theorem dX8_take_90 : decode cX8_take 90 = .ok (.getfield 18, 3) := by decide +kernel
theorem dX8_take_93 : decode cX8_take 93 = .ok (.iload 4, 2) := by decide +kernel
theorem dX8_take_95 : decode cX8_take 95 = .ok (.iload_n 2, 1) := by decide +kernel
theorem dX8_take_96 : decode cX8_take 96 = .ok (.iastore, 1) := by decide +kernel
theorem dX8_take_97 : decode cX8_take 97 = .ok (.aload_n 0, 1) := by decide +kernel
theorem dX8_take_98 : decode cX8_take 98 = .ok (.getfield 21, 3) := by decide +kernel
theorem dX8_take_101 : decode cX8_take 101 = .ok (.iload 4, 2) := by decide +kernel
theorem dX8_take_103 : decode cX8_take 103 = .ok (.iconst 1, 1) := by decide +kernel
theorem dX8_take_104 : decode cX8_take 104 = .ok (.iastore, 1) := by decide +kernel
theorem dX8_take_105 : decode cX8_take 105 = .ok (.aload_n 0, 1) := by decide +kernel
theorem dX8_take_106 : decode cX8_take 106 = .ok (.dup, 1) := by decide +kernel
theorem dX8_take_107 : decode cX8_take 107 = .ok (.getfield 24, 3) := by decide +kernel
theorem dX8_take_110 : decode cX8_take 110 = .ok (.iconst 1, 1) := by decide +kernel
theorem dX8_take_111 : decode cX8_take 111 = .ok (.iadd, 1) := by decide +kernel
theorem dX8_take_112 : decode cX8_take 112 = .ok (.putfield 24, 3) := by decide +kernel
theorem dX8_take_115 : decode cX8_take 115 = .ok (.return_, 1) := by decide +kernel
theorem dX8_lengthen_0 : decode cX8_lengthen 0 = .ok (.aload_n 0, 1) := by decide +kernel
theorem dX8_lengthen_1 : decode cX8_lengthen 1 = .ok (.iload_n 1, 1) := by decide +kernel
theorem dX8_lengthen_2 : decode cX8_lengthen 2 = .ok (.invokevirtual 82, 3) := by decide +kernel
theorem dX8_lengthen_5 : decode cX8_lengthen 5 = .ok (.ifCond .ne 4, 3) := by decide +kernel
theorem dX8_lengthen_8 : decode cX8_lengthen 8 = .ok (.return_, 1) := by decide +kernel
theorem dX8_lengthen_9 : decode cX8_lengthen 9 = .ok (.aload_n 0, 1) := by decide +kernel
theorem dX8_lengthen_10 : decode cX8_lengthen 10 = .ok (.getfield 9, 3) := by decide +kernel
theorem dX8_lengthen_13 : decode cX8_lengthen 13 = .ok (.iload_n 1, 1) := by decide +kernel
theorem dX8_lengthen_14 : decode cX8_lengthen 14 = .ok (.iaload, 1) := by decide +kernel
theorem dX8_lengthen_15 : decode cX8_lengthen 15 = .ok (.bipush 20, 2) := by decide +kernel
theorem dX8_lengthen_17 : decode cX8_lengthen 17 = .ok (.if_icmp .ne 14, 3) := by decide +kernel
theorem dX8_lengthen_20 : decode cX8_lengthen 20 = .ok (.aload_n 0, 1) := by decide +kernel
theorem dX8_lengthen_21 : decode cX8_lengthen 21 = .ok (.getfield 9, 3) := by decide +kernel
theorem dX8_lengthen_24 : decode cX8_lengthen 24 = .ok (.iload_n 1, 1) := by decide +kernel
theorem dX8_lengthen_25 : decode cX8_lengthen 25 = .ok (.bipush 21, 2) := by decide +kernel
theorem dX8_lengthen_27 : decode cX8_lengthen 27 = .ok (.iastore, 1) := by decide +kernel
theorem dX8_lengthen_28 : decode cX8_lengthen 28 = .ok (.goto 61, 3) := by decide +kernel
theorem dX8_lengthen_31 : decode cX8_lengthen 31 = .ok (.aload_n 0, 1) := by decide +kernel
theorem dX8_lengthen_32 : decode cX8_lengthen 32 = .ok (.getfield 9, 3) := by decide +kernel
theorem dX8_lengthen_35 : decode cX8_lengthen 35 = .ok (.iload_n 1, 1) := by decide +kernel
theorem dX8_lengthen_36 : decode cX8_lengthen 36 = .ok (.iaload, 1) := by decide +kernel
theorem dX8_lengthen_37 : decode cX8_lengthen 37 = .ok (.bipush 22, 2) := by decide +kernel
theorem dX8_lengthen_39 : decode cX8_lengthen 39 = .ok (.if_icmp .ne 14, 3) := by decide +kernel
theorem dX8_lengthen_42 : decode cX8_lengthen 42 = .ok (.aload_n 0, 1) := by decide +kernel
theorem dX8_lengthen_43 : decode cX8_lengthen 43 = .ok (.getfield 9, 3) := by decide +kernel
theorem dX8_lengthen_46 : decode cX8_lengthen 46 = .ok (.iload_n 1, 1) := by decide +kernel
theorem dX8_lengthen_47 : decode cX8_lengthen 47 = .ok (.bipush 23, 2) := by decide +kernel
theorem dX8_lengthen_49 : decode cX8_lengthen 49 = .ok (.iastore, 1) := by decide +kernel
theorem dX8_lengthen_50 : decode cX8_lengthen 50 = .ok (.goto 39, 3) := by decide +kernel
theorem dX8_lengthen_53 : decode cX8_lengthen 53 = .ok (.aload_n 0, 1) := by decide +kernel
theorem dX8_lengthen_54 : decode cX8_lengthen 54 = .ok (.getfield 9, 3) := by decide +kernel
theorem dX8_lengthen_57 : decode cX8_lengthen 57 = .ok (.iload_n 1, 1) := by decide +kernel
theorem dX8_lengthen_58 : decode cX8_lengthen 58 = .ok (.iaload, 1) := by decide +kernel
theorem dX8_lengthen_59 : decode cX8_lengthen 59 = .ok (.iconst 2, 1) := by decide +kernel
theorem dX8_lengthen_60 : decode cX8_lengthen 60 = .ok (.if_icmp .ne 29, 3) := by decide +kernel
theorem dX8_lengthen_63 : decode cX8_lengthen 63 = .ok (.aload_n 0, 1) := by decide +kernel
theorem dX8_lengthen_64 : decode cX8_lengthen 64 = .ok (.getfield 15, 3) := by decide +kernel
theorem dX8_lengthen_67 : decode cX8_lengthen 67 = .ok (.iload_n 1, 1) := by decide +kernel
theorem dX8_lengthen_68 : decode cX8_lengthen 68 = .ok (.aload_n 0, 1) := by decide +kernel
theorem dX8_lengthen_69 : decode cX8_lengthen 69 = .ok (.getfield 15, 3) := by decide +kernel
theorem dX8_lengthen_72 : decode cX8_lengthen 72 = .ok (.iload_n 1, 1) := by decide +kernel
theorem dX8_lengthen_73 : decode cX8_lengthen 73 = .ok (.iaload, 1) := by decide +kernel
theorem dX8_lengthen_74 : decode cX8_lengthen 74 = .ok (.bipush 10, 2) := by decide +kernel
theorem dX8_lengthen_76 : decode cX8_lengthen 76 = .ok (.imul, 1) := by decide +kernel
theorem dX8_lengthen_77 : decode cX8_lengthen 77 = .ok (.iload_n 2, 1) := by decide +kernel
theorem dX8_lengthen_78 : decode cX8_lengthen 78 = .ok (.iadd, 1) := by decide +kernel
theorem dX8_lengthen_79 : decode cX8_lengthen 79 = .ok (.bipush 48, 2) := by decide +kernel
theorem dX8_lengthen_81 : decode cX8_lengthen 81 = .ok (.isub, 1) := by decide +kernel
theorem dX8_lengthen_82 : decode cX8_lengthen 82 = .ok (.sipush 10000, 3) := by decide +kernel
theorem dX8_lengthen_85 : decode cX8_lengthen 85 = .ok (.invokestatic 85, 3) := by decide +kernel
theorem dX8_lengthen_88 : decode cX8_lengthen 88 = .ok (.iastore, 1) := by decide +kernel
theorem dX8_lengthen_89 : decode cX8_lengthen 89 = .ok (.return_, 1) := by decide +kernel
theorem dX8_kindOf_0 : decode cX8_kindOf 0 = .ok (.iload_n 0, 1) := by decide +kernel
theorem dX8_kindOf_1 : decode cX8_kindOf 1 = .ok (.invokestatic 69, 3) := by decide +kernel
theorem dX8_kindOf_4 : decode cX8_kindOf 4 = .ok (.ifCond .eq 5, 3) := by decide +kernel
theorem dX8_kindOf_7 : decode cX8_kindOf 7 = .ok (.iconst 3, 1) := by decide +kernel
theorem dX8_kindOf_8 : decode cX8_kindOf 8 = .ok (.ireturn, 1) := by decide +kernel
theorem dX8_kindOf_9 : decode cX8_kindOf 9 = .ok (.iload_n 0, 1) := by decide +kernel
theorem dX8_kindOf_10 : decode cX8_kindOf 10 = .ok (.invokestatic 72, 3) := by decide +kernel
theorem dX8_kindOf_13 : decode cX8_kindOf 13 = .ok (.ifCond .eq 5, 3) := by decide +kernel
theorem dX8_kindOf_16 : decode cX8_kindOf 16 = .ok (.iconst 2, 1) := by decide +kernel
theorem dX8_kindOf_17 : decode cX8_kindOf 17 = .ok (.ireturn, 1) := by decide +kernel
theorem dX8_kindOf_18 : decode cX8_kindOf 18 = .ok (.iload_n 0, 1) := by decide +kernel
theorem dX8_kindOf_19 : decode cX8_kindOf 19 = .ok (.tableswitch 158 35 62 #[134, 158, 158, 158, 158, 149, 152, 143, 137, 158, 140, 158, 146, 158, 158, 158, 158, 158, 158, 158, 158, 158, 158, 158, 155, 125, 131, 128], 125) := by decide +kernel
theorem dX8_kindOf_144 : decode cX8_kindOf 144 = .ok (.bipush 20, 2) := by decide +kernel
theorem dX8_kindOf_146 : decode cX8_kindOf 146 = .ok (.ireturn, 1) := by decide +kernel
theorem dX8_kindOf_147 : decode cX8_kindOf 147 = .ok (.bipush 22, 2) := by decide +kernel
theorem dX8_kindOf_149 : decode cX8_kindOf 149 = .ok (.ireturn, 1) := by decide +kernel
theorem dX8_kindOf_150 : decode cX8_kindOf 150 = .ok (.bipush 24, 2) := by decide +kernel
theorem dX8_kindOf_152 : decode cX8_kindOf 152 = .ok (.ireturn, 1) := by decide +kernel
theorem dX8_kindOf_153 : decode cX8_kindOf 153 = .ok (.bipush 25, 2) := by decide +kernel
theorem dX8_kindOf_155 : decode cX8_kindOf 155 = .ok (.ireturn, 1) := by decide +kernel
theorem dX8_kindOf_156 : decode cX8_kindOf 156 = .ok (.bipush 26, 2) := by decide +kernel
theorem dX8_kindOf_158 : decode cX8_kindOf 158 = .ok (.ireturn, 1) := by decide +kernel
theorem dX8_kindOf_159 : decode cX8_kindOf 159 = .ok (.bipush 27, 2) := by decide +kernel
theorem dX8_kindOf_161 : decode cX8_kindOf 161 = .ok (.ireturn, 1) := by decide +kernel
theorem dX8_kindOf_162 : decode cX8_kindOf 162 = .ok (.bipush 28, 2) := by decide +kernel
theorem dX8_kindOf_164 : decode cX8_kindOf 164 = .ok (.ireturn, 1) := by decide +kernel
theorem dX8_kindOf_165 : decode cX8_kindOf 165 = .ok (.bipush 29, 2) := by decide +kernel
theorem dX8_kindOf_167 : decode cX8_kindOf 167 = .ok (.ireturn, 1) := by decide +kernel
theorem dX8_kindOf_168 : decode cX8_kindOf 168 = .ok (.bipush 30, 2) := by decide +kernel
theorem dX8_kindOf_170 : decode cX8_kindOf 170 = .ok (.ireturn, 1) := by decide +kernel
theorem dX8_kindOf_171 : decode cX8_kindOf 171 = .ok (.bipush 31, 2) := by decide +kernel
theorem dX8_kindOf_173 : decode cX8_kindOf 173 = .ok (.ireturn, 1) := by decide +kernel
theorem dX8_kindOf_174 : decode cX8_kindOf 174 = .ok (.bipush 32, 2) := by decide +kernel
theorem dX8_kindOf_176 : decode cX8_kindOf 176 = .ok (.ireturn, 1) := by decide +kernel
theorem dX8_kindOf_177 : decode cX8_kindOf 177 = .ok (.iconst 1, 1) := by decide +kernel
theorem dX8_kindOf_178 : decode cX8_kindOf 178 = .ok (.ireturn, 1) := by decide +kernel
theorem dX8_wordKind_0 : decode cX8_wordKind 0 = .ok (.aload_n 0, 1) := by decide +kernel
theorem dX8_wordKind_1 : decode cX8_wordKind 1 = .ok (.aload_n 1, 1) := by decide +kernel
theorem dX8_wordKind_2 : decode cX8_wordKind 2 = .ok (.iload_n 2, 1) := by decide +kernel
theorem dX8_wordKind_3 : decode cX8_wordKind 3 = .ok (.ldc 91, 2) := by decide +kernel
theorem dX8_wordKind_5 : decode cX8_wordKind 5 = .ok (.invokevirtual 93, 3) := by decide +kernel
theorem dX8_wordKind_8 : decode cX8_wordKind 8 = .ok (.ifCond .eq 5, 3) := by decide +kernel
theorem dX8_wordKind_11 : decode cX8_wordKind 11 = .ok (.iconst 4, 1) := by decide +kernel
theorem dX8_wordKind_12 : decode cX8_wordKind 12 = .ok (.ireturn, 1) := by decide +kernel
theorem dX8_wordKind_13 : decode cX8_wordKind 13 = .ok (.aload_n 0, 1) := by decide +kernel
theorem dX8_wordKind_14 : decode cX8_wordKind 14 = .ok (.aload_n 1, 1) := by decide +kernel
theorem dX8_wordKind_15 : decode cX8_wordKind 15 = .ok (.iload_n 2, 1) := by decide +kernel
theorem dX8_wordKind_16 : decode cX8_wordKind 16 = .ok (.ldc 97, 2) := by decide +kernel
theorem dX8_wordKind_18 : decode cX8_wordKind 18 = .ok (.invokevirtual 93, 3) := by decide +kernel
theorem dX8_wordKind_21 : decode cX8_wordKind 21 = .ok (.ifCond .eq 5, 3) := by decide +kernel
theorem dX8_wordKind_24 : decode cX8_wordKind 24 = .ok (.iconst 5, 1) := by decide +kernel
theorem dX8_wordKind_25 : decode cX8_wordKind 25 = .ok (.ireturn, 1) := by decide +kernel
theorem dX8_wordKind_26 : decode cX8_wordKind 26 = .ok (.aload_n 0, 1) := by decide +kernel
theorem dX8_wordKind_27 : decode cX8_wordKind 27 = .ok (.aload_n 1, 1) := by decide +kernel
theorem dX8_wordKind_28 : decode cX8_wordKind 28 = .ok (.iload_n 2, 1) := by decide +kernel
theorem dX8_wordKind_29 : decode cX8_wordKind 29 = .ok (.ldc 99, 2) := by decide +kernel
theorem dX8_wordKind_31 : decode cX8_wordKind 31 = .ok (.invokevirtual 93, 3) := by decide +kernel
theorem dX8_wordKind_34 : decode cX8_wordKind 34 = .ok (.ifCond .eq 6, 3) := by decide +kernel
theorem dX8_wordKind_37 : decode cX8_wordKind 37 = .ok (.bipush 6, 2) := by decide +kernel
theorem dX8_wordKind_39 : decode cX8_wordKind 39 = .ok (.ireturn, 1) := by decide +kernel
theorem dX8_wordKind_40 : decode cX8_wordKind 40 = .ok (.aload_n 0, 1) := by decide +kernel
theorem dX8_wordKind_41 : decode cX8_wordKind 41 = .ok (.aload_n 1, 1) := by decide +kernel
theorem dX8_wordKind_42 : decode cX8_wordKind 42 = .ok (.iload_n 2, 1) := by decide +kernel
theorem dX8_wordKind_43 : decode cX8_wordKind 43 = .ok (.ldc 101, 2) := by decide +kernel
theorem dX8_wordKind_45 : decode cX8_wordKind 45 = .ok (.invokevirtual 93, 3) := by decide +kernel
theorem dX8_wordKind_48 : decode cX8_wordKind 48 = .ok (.ifCond .eq 6, 3) := by decide +kernel
theorem dX8_wordKind_51 : decode cX8_wordKind 51 = .ok (.bipush 7, 2) := by decide +kernel
theorem dX8_wordKind_53 : decode cX8_wordKind 53 = .ok (.ireturn, 1) := by decide +kernel
theorem dX8_wordKind_54 : decode cX8_wordKind 54 = .ok (.aload_n 0, 1) := by decide +kernel
theorem dX8_wordKind_55 : decode cX8_wordKind 55 = .ok (.aload_n 1, 1) := by decide +kernel
theorem dX8_wordKind_56 : decode cX8_wordKind 56 = .ok (.iload_n 2, 1) := by decide +kernel
theorem dX8_wordKind_57 : decode cX8_wordKind 57 = .ok (.ldc 103, 2) := by decide +kernel
theorem dX8_wordKind_59 : decode cX8_wordKind 59 = .ok (.invokevirtual 93, 3) := by decide +kernel
theorem dX8_wordKind_62 : decode cX8_wordKind 62 = .ok (.ifCond .eq 6, 3) := by decide +kernel
theorem dX8_wordKind_65 : decode cX8_wordKind 65 = .ok (.bipush 8, 2) := by decide +kernel
theorem dX8_wordKind_67 : decode cX8_wordKind 67 = .ok (.ireturn, 1) := by decide +kernel
theorem dX8_wordKind_68 : decode cX8_wordKind 68 = .ok (.aload_n 0, 1) := by decide +kernel
theorem dX8_wordKind_69 : decode cX8_wordKind 69 = .ok (.aload_n 1, 1) := by decide +kernel
theorem dX8_wordKind_70 : decode cX8_wordKind 70 = .ok (.iload_n 2, 1) := by decide +kernel
theorem dX8_wordKind_71 : decode cX8_wordKind 71 = .ok (.ldc 105, 2) := by decide +kernel
theorem dX8_wordKind_73 : decode cX8_wordKind 73 = .ok (.invokevirtual 93, 3) := by decide +kernel
theorem dX8_wordKind_76 : decode cX8_wordKind 76 = .ok (.ifCond .eq 6, 3) := by decide +kernel
theorem dX8_wordKind_79 : decode cX8_wordKind 79 = .ok (.bipush 9, 2) := by decide +kernel
theorem dX8_wordKind_81 : decode cX8_wordKind 81 = .ok (.ireturn, 1) := by decide +kernel
theorem dX8_wordKind_82 : decode cX8_wordKind 82 = .ok (.aload_n 0, 1) := by decide +kernel
theorem dX8_wordKind_83 : decode cX8_wordKind 83 = .ok (.aload_n 1, 1) := by decide +kernel
theorem dX8_wordKind_84 : decode cX8_wordKind 84 = .ok (.iload_n 2, 1) := by decide +kernel
theorem dX8_wordKind_85 : decode cX8_wordKind 85 = .ok (.ldc 107, 2) := by decide +kernel
theorem dX8_wordKind_87 : decode cX8_wordKind 87 = .ok (.invokevirtual 93, 3) := by decide +kernel
theorem dX8_wordKind_90 : decode cX8_wordKind 90 = .ok (.ifCond .eq 6, 3) := by decide +kernel
theorem dX8_wordKind_93 : decode cX8_wordKind 93 = .ok (.bipush 10, 2) := by decide +kernel
theorem dX8_wordKind_95 : decode cX8_wordKind 95 = .ok (.ireturn, 1) := by decide +kernel
theorem dX8_wordKind_96 : decode cX8_wordKind 96 = .ok (.aload_n 0, 1) := by decide +kernel
theorem dX8_wordKind_97 : decode cX8_wordKind 97 = .ok (.aload_n 1, 1) := by decide +kernel
theorem dX8_wordKind_98 : decode cX8_wordKind 98 = .ok (.iload_n 2, 1) := by decide +kernel
theorem dX8_wordKind_99 : decode cX8_wordKind 99 = .ok (.ldc 109, 2) := by decide +kernel
theorem dX8_wordKind_101 : decode cX8_wordKind 101 = .ok (.invokevirtual 93, 3) := by decide +kernel
theorem dX8_wordKind_104 : decode cX8_wordKind 104 = .ok (.ifCond .eq 6, 3) := by decide +kernel
theorem dX8_wordKind_107 : decode cX8_wordKind 107 = .ok (.bipush 11, 2) := by decide +kernel
theorem dX8_wordKind_109 : decode cX8_wordKind 109 = .ok (.ireturn, 1) := by decide +kernel
theorem dX8_wordKind_110 : decode cX8_wordKind 110 = .ok (.aload_n 0, 1) := by decide +kernel
theorem dX8_wordKind_111 : decode cX8_wordKind 111 = .ok (.aload_n 1, 1) := by decide +kernel
theorem dX8_wordKind_112 : decode cX8_wordKind 112 = .ok (.iload_n 2, 1) := by decide +kernel
theorem dX8_wordKind_113 : decode cX8_wordKind 113 = .ok (.ldc 111, 2) := by decide +kernel
theorem dX8_wordKind_115 : decode cX8_wordKind 115 = .ok (.invokevirtual 93, 3) := by decide +kernel
theorem dX8_wordKind_118 : decode cX8_wordKind 118 = .ok (.ifCond .eq 6, 3) := by decide +kernel
theorem dX8_wordKind_121 : decode cX8_wordKind 121 = .ok (.bipush 12, 2) := by decide +kernel
theorem dX8_wordKind_123 : decode cX8_wordKind 123 = .ok (.ireturn, 1) := by decide +kernel
theorem dX8_wordKind_124 : decode cX8_wordKind 124 = .ok (.aload_n 0, 1) := by decide +kernel
theorem dX8_wordKind_125 : decode cX8_wordKind 125 = .ok (.aload_n 1, 1) := by decide +kernel
theorem dX8_wordKind_126 : decode cX8_wordKind 126 = .ok (.iload_n 2, 1) := by decide +kernel
theorem dX8_wordKind_127 : decode cX8_wordKind 127 = .ok (.invokevirtual 113, 3) := by decide +kernel
theorem dX8_wordKind_130 : decode cX8_wordKind 130 = .ok (.ireturn, 1) := by decide +kernel
theorem dX8_nameKind_0 : decode cX8_nameKind 0 = .ok (.aload_n 0, 1) := by decide +kernel
theorem dX8_nameKind_1 : decode cX8_nameKind 1 = .ok (.aload_n 1, 1) := by decide +kernel
theorem dX8_nameKind_2 : decode cX8_nameKind 2 = .ok (.iload_n 2, 1) := by decide +kernel
theorem dX8_nameKind_3 : decode cX8_nameKind 3 = .ok (.ldc 116, 2) := by decide +kernel
theorem dX8_nameKind_5 : decode cX8_nameKind 5 = .ok (.invokevirtual 93, 3) := by decide +kernel
theorem dX8_nameKind_8 : decode cX8_nameKind 8 = .ok (.ifCond .eq 6, 3) := by decide +kernel
theorem dX8_nameKind_11 : decode cX8_nameKind 11 = .ok (.bipush 13, 2) := by decide +kernel
theorem dX8_nameKind_13 : decode cX8_nameKind 13 = .ok (.ireturn, 1) := by decide +kernel
theorem dX8_nameKind_14 : decode cX8_nameKind 14 = .ok (.aload_n 0, 1) := by decide +kernel
theorem dX8_nameKind_15 : decode cX8_nameKind 15 = .ok (.aload_n 1, 1) := by decide +kernel
theorem dX8_nameKind_16 : decode cX8_nameKind 16 = .ok (.iload_n 2, 1) := by decide +kernel
theorem dX8_nameKind_17 : decode cX8_nameKind 17 = .ok (.ldc 118, 2) := by decide +kernel
theorem dX8_nameKind_19 : decode cX8_nameKind 19 = .ok (.invokevirtual 93, 3) := by decide +kernel
theorem dX8_nameKind_22 : decode cX8_nameKind 22 = .ok (.ifCond .eq 6, 3) := by decide +kernel
theorem dX8_nameKind_25 : decode cX8_nameKind 25 = .ok (.bipush 14, 2) := by decide +kernel
theorem dX8_nameKind_27 : decode cX8_nameKind 27 = .ok (.ireturn, 1) := by decide +kernel
theorem dX8_nameKind_28 : decode cX8_nameKind 28 = .ok (.aload_n 0, 1) := by decide +kernel
theorem dX8_nameKind_29 : decode cX8_nameKind 29 = .ok (.aload_n 1, 1) := by decide +kernel
theorem dX8_nameKind_30 : decode cX8_nameKind 30 = .ok (.iload_n 2, 1) := by decide +kernel
theorem dX8_nameKind_31 : decode cX8_nameKind 31 = .ok (.ldc 120, 2) := by decide +kernel
theorem dX8_nameKind_33 : decode cX8_nameKind 33 = .ok (.invokevirtual 93, 3) := by decide +kernel
theorem dX8_nameKind_36 : decode cX8_nameKind 36 = .ok (.ifCond .eq 6, 3) := by decide +kernel
theorem dX8_nameKind_39 : decode cX8_nameKind 39 = .ok (.bipush 15, 2) := by decide +kernel
theorem dX8_nameKind_41 : decode cX8_nameKind 41 = .ok (.ireturn, 1) := by decide +kernel
theorem dX8_nameKind_42 : decode cX8_nameKind 42 = .ok (.aload_n 0, 1) := by decide +kernel
theorem dX8_nameKind_43 : decode cX8_nameKind 43 = .ok (.aload_n 1, 1) := by decide +kernel
theorem dX8_nameKind_44 : decode cX8_nameKind 44 = .ok (.iload_n 2, 1) := by decide +kernel
theorem dX8_nameKind_45 : decode cX8_nameKind 45 = .ok (.ldc 122, 2) := by decide +kernel
theorem dX8_nameKind_47 : decode cX8_nameKind 47 = .ok (.invokevirtual 93, 3) := by decide +kernel
theorem dX8_nameKind_50 : decode cX8_nameKind 50 = .ok (.ifCond .eq 6, 3) := by decide +kernel
theorem dX8_nameKind_53 : decode cX8_nameKind 53 = .ok (.bipush 16, 2) := by decide +kernel
theorem dX8_nameKind_55 : decode cX8_nameKind 55 = .ok (.ireturn, 1) := by decide +kernel
theorem dX8_nameKind_56 : decode cX8_nameKind 56 = .ok (.aload_n 0, 1) := by decide +kernel
theorem dX8_nameKind_57 : decode cX8_nameKind 57 = .ok (.aload_n 1, 1) := by decide +kernel
theorem dX8_nameKind_58 : decode cX8_nameKind 58 = .ok (.iload_n 2, 1) := by decide +kernel
theorem dX8_nameKind_59 : decode cX8_nameKind 59 = .ok (.ldc 124, 2) := by decide +kernel
theorem dX8_nameKind_61 : decode cX8_nameKind 61 = .ok (.invokevirtual 93, 3) := by decide +kernel
theorem dX8_nameKind_64 : decode cX8_nameKind 64 = .ok (.ifCond .eq 6, 3) := by decide +kernel
theorem dX8_nameKind_67 : decode cX8_nameKind 67 = .ok (.bipush 17, 2) := by decide +kernel
theorem dX8_nameKind_69 : decode cX8_nameKind 69 = .ok (.ireturn, 1) := by decide +kernel
theorem dX8_nameKind_70 : decode cX8_nameKind 70 = .ok (.aload_n 0, 1) := by decide +kernel
theorem dX8_nameKind_71 : decode cX8_nameKind 71 = .ok (.aload_n 1, 1) := by decide +kernel
theorem dX8_nameKind_72 : decode cX8_nameKind 72 = .ok (.iload_n 2, 1) := by decide +kernel
theorem dX8_nameKind_73 : decode cX8_nameKind 73 = .ok (.ldc 126, 2) := by decide +kernel
theorem dX8_nameKind_75 : decode cX8_nameKind 75 = .ok (.invokevirtual 93, 3) := by decide +kernel
theorem dX8_nameKind_78 : decode cX8_nameKind 78 = .ok (.ifCond .eq 6, 3) := by decide +kernel
theorem dX8_nameKind_81 : decode cX8_nameKind 81 = .ok (.bipush 18, 2) := by decide +kernel
theorem dX8_nameKind_83 : decode cX8_nameKind 83 = .ok (.ireturn, 1) := by decide +kernel
theorem dX8_nameKind_84 : decode cX8_nameKind 84 = .ok (.aload_n 0, 1) := by decide +kernel
theorem dX8_nameKind_85 : decode cX8_nameKind 85 = .ok (.aload_n 1, 1) := by decide +kernel
theorem dX8_nameKind_86 : decode cX8_nameKind 86 = .ok (.iload_n 2, 1) := by decide +kernel
theorem dX8_nameKind_87 : decode cX8_nameKind 87 = .ok (.ldc 128, 2) := by decide +kernel
theorem dX8_nameKind_89 : decode cX8_nameKind 89 = .ok (.invokevirtual 93, 3) := by decide +kernel
theorem dX8_nameKind_92 : decode cX8_nameKind 92 = .ok (.ifCond .eq 6, 3) := by decide +kernel
theorem dX8_nameKind_95 : decode cX8_nameKind 95 = .ok (.bipush 19, 2) := by decide +kernel
theorem dX8_nameKind_97 : decode cX8_nameKind 97 = .ok (.ireturn, 1) := by decide +kernel
theorem dX8_nameKind_98 : decode cX8_nameKind 98 = .ok (.iconst 1, 1) := by decide +kernel
theorem dX8_nameKind_99 : decode cX8_nameKind 99 = .ok (.ireturn, 1) := by decide +kernel
theorem dX8_spells_0 : decode cX8_spells 0 = .ok (.aload_n 0, 1) := by decide +kernel
theorem dX8_spells_1 : decode cX8_spells 1 = .ok (.iload_n 2, 1) := by decide +kernel
theorem dX8_spells_2 : decode cX8_spells 2 = .ok (.invokevirtual 82, 3) := by decide +kernel
theorem dX8_spells_5 : decode cX8_spells 5 = .ok (.ifCond .eq 16, 3) := by decide +kernel
theorem dX8_spells_8 : decode cX8_spells 8 = .ok (.aload_n 0, 1) := by decide +kernel
theorem dX8_spells_9 : decode cX8_spells 9 = .ok (.getfield 21, 3) := by decide +kernel
theorem dX8_spells_12 : decode cX8_spells 12 = .ok (.iload_n 2, 1) := by decide +kernel
theorem dX8_spells_13 : decode cX8_spells 13 = .ok (.iaload, 1) := by decide +kernel
theorem dX8_spells_14 : decode cX8_spells 14 = .ok (.aload_n 3, 1) := by decide +kernel
theorem dX8_spells_15 : decode cX8_spells 15 = .ok (.invokevirtual 130, 3) := by decide +kernel
theorem dX8_spells_18 : decode cX8_spells 18 = .ok (.if_icmp .eq 5, 3) := by decide +kernel
theorem dX8_spells_21 : decode cX8_spells 21 = .ok (.iconst 0, 1) := by decide +kernel
theorem dX8_spells_22 : decode cX8_spells 22 = .ok (.ireturn, 1) := by decide +kernel
theorem dX8_spells_23 : decode cX8_spells 23 = .ok (.iconst 0, 1) := by decide +kernel
theorem dX8_spells_24 : decode cX8_spells 24 = .ok (.istore 4, 2) := by decide +kernel
theorem dX8_spells_26 : decode cX8_spells 26 = .ok (.iload 4, 2) := by decide +kernel
theorem dX8_spells_28 : decode cX8_spells 28 = .ok (.aload_n 3, 1) := by decide +kernel
theorem dX8_spells_29 : decode cX8_spells 29 = .ok (.invokevirtual 130, 3) := by decide +kernel
theorem dX8_spells_32 : decode cX8_spells 32 = .ok (.if_icmp .ge 33, 3) := by decide +kernel
theorem dX8_spells_35 : decode cX8_spells 35 = .ok (.aload_n 1, 1) := by decide +kernel
theorem dX8_spells_36 : decode cX8_spells 36 = .ok (.aload_n 0, 1) := by decide +kernel
theorem dX8_spells_37 : decode cX8_spells 37 = .ok (.getfield 18, 3) := by decide +kernel
theorem dX8_spells_40 : decode cX8_spells 40 = .ok (.iload_n 2, 1) := by decide +kernel
theorem dX8_spells_41 : decode cX8_spells 41 = .ok (.iaload, 1) := by decide +kernel
theorem dX8_spells_42 : decode cX8_spells 42 = .ok (.iload 4, 2) := by decide +kernel
theorem dX8_spells_44 : decode cX8_spells 44 = .ok (.iadd, 1) := by decide +kernel
theorem dX8_spells_45 : decode cX8_spells 45 = .ok (.invokevirtual 34, 3) := by decide +kernel
theorem dX8_spells_48 : decode cX8_spells 48 = .ok (.aload_n 3, 1) := by decide +kernel
theorem dX8_spells_49 : decode cX8_spells 49 = .ok (.iload 4, 2) := by decide +kernel
theorem dX8_spells_51 : decode cX8_spells 51 = .ok (.invokevirtual 135, 3) := by decide +kernel
theorem dX8_spells_54 : decode cX8_spells 54 = .ok (.if_icmp .eq 5, 3) := by decide +kernel
theorem dX8_spells_57 : decode cX8_spells 57 = .ok (.iconst 0, 1) := by decide +kernel
theorem dX8_spells_58 : decode cX8_spells 58 = .ok (.ireturn, 1) := by decide +kernel
theorem dX8_spells_59 : decode cX8_spells 59 = .ok (.iinc 4 1, 3) := by decide +kernel
theorem dX8_spells_62 : decode cX8_spells 62 = .ok (.goto (-36), 3) := by decide +kernel
theorem dX8_spells_65 : decode cX8_spells 65 = .ok (.iconst 1, 1) := by decide +kernel
theorem dX8_spells_66 : decode cX8_spells 66 = .ok (.ireturn, 1) := by decide +kernel
theorem dX9_init_0 : decode cX9_init 0 = .ok (.aload_n 0, 1) := by decide +kernel
