theorem dX8_aimOf_14 : decode cX8_aimOf 14 = .ok (.aload_n 0, 1) := by decide +kernel
theorem dX8_aimOf_15 : decode cX8_aimOf 15 = .ok (.invokevirtual 141, 3) := by decide +kernel
theorem dX8_aimOf_18 : decode cX8_aimOf 18 = .ok (.aload_n 0, 1) := by decide +kernel
theorem dX8_aimOf_19 : decode cX8_aimOf 19 = .ok (.getfield 35, 3) := by decide +kernel
theorem dX8_aimOf_22 : decode cX8_aimOf 22 = .ok (.iload_n 1, 1) := by decide +kernel
theorem dX8_aimOf_23 : decode cX8_aimOf 23 = .ok (.iaload, 1) := by decide +kernel
theorem dX8_aimOf_24 : decode cX8_aimOf 24 = .ok (.ireturn, 1) := by decide +kernel
set_option maxRecDepth 20000 in
theorem ggX8_wins_X8_in : GoodIn wsX8_wins wsX8_in := goodIn_r _ [8] (by decide +kernel) (by decide +kernel)
set_option maxRecDepth 20000 in
theorem gX8_wins_X8_in : GoodIn wsX8_wins (va_wsS RX8 69 yX8_in wsX8_in) := goodIn_app (goodIn_of _ (by decide +kernel)) ggX8_wins_X8_in
set_option maxRecDepth 20000 in
theorem ggX8_wins_X8_findThrows : GoodIn wsX8_wins wsX8_findThrows := goodIn_r _ [12, 13, 14, 15, 16, 7, 17, 2, 18, 19, 20, 21, 22, 23, 24, 25, 26, 27, 28, 29, 30, 31, 32, 33, 34, 35, 36, 37, 38, 39, 40, 4, 41, 42, 43, 44, 45, 46, 47, 48, 57, 58, 59, 60, 61, 62, 63, 64, 65, 66, 67, 68, 69, 70, 71, 72, 73, 74, 75, 76, 77, 78, 79, 80, 81, 82, 83, 84, 85] (by decide +kernel) (by decide +kernel)
set_option maxRecDepth 20000 in
theorem gX8_wins_X8_findThrows : GoodIn wsX8_wins (wsV RX8 141 RX8 yX8_findThrows wsX8_findThrows) := goodIn_app (goodIn_of _ (by decide +kernel)) ggX8_wins_X8_findThrows
set_option maxRecDepth 20000 in
theorem ggX8_wins_X8_bitsOf : GoodIn wsX8_wins wsX8_bitsOf := goodIn_r _ [51, 52, 53, 54, 55, 56] (by decide +kernel) (by decide +kernel)
set_option maxRecDepth 20000 in
theorem gX8_wins_X8_bitsOf : GoodIn wsX8_wins (va_wsS RX8 146 yX8_bitsOf wsX8_bitsOf) := goodIn_app (goodIn_of _ (by decide +kernel)) ggX8_wins_X8_bitsOf
theorem dX8_wins_0 : decode cX8_wins 0 = .ok (.iload_n 1, 1) := by decide +kernel
theorem dX8_wins_1 : decode cX8_wins 1 = .ok (.iconst 1, 1) := by decide +kernel
theorem dX8_wins_2 : decode cX8_wins 2 = .ok (.bipush 80, 2) := by decide +kernel
theorem dX8_wins_4 : decode cX8_wins 4 = .ok (.invokestatic 69, 3) := by decide +kernel
theorem dX8_wins_7 : decode cX8_wins 7 = .ok (.ifCond .eq 13, 3) := by decide +kernel
theorem dX8_wins_10 : decode cX8_wins 10 = .ok (.iload_n 2, 1) := by decide +kernel
theorem dX8_wins_11 : decode cX8_wins 11 = .ok (.iconst 1, 1) := by decide +kernel
theorem dX8_wins_12 : decode cX8_wins 12 = .ok (.bipush 80, 2) := by decide +kernel
theorem dX8_wins_14 : decode cX8_wins 14 = .ok (.invokestatic 69, 3) := by decide +kernel
theorem dX8_wins_17 : decode cX8_wins 17 = .ok (.ifCond .ne 7, 3) := by decide +kernel
theorem dX8_wins_20 : decode cX8_wins 20 = .ok (.ldc2_w 112, 3) := by decide +kernel
theorem dX8_wins_23 : decode cX8_wins 23 = .ok (.lreturn, 1) := by decide +kernel
theorem dX8_wins_24 : decode cX8_wins 24 = .ok (.aload_n 0, 1) := by decide +kernel
theorem dX8_wins_25 : decode cX8_wins 25 = .ok (.invokevirtual 141, 3) := by decide +kernel
theorem dX8_wins_28 : decode cX8_wins 28 = .ok (.aload_n 0, 1) := by decide +kernel
theorem dX8_wins_29 : decode cX8_wins 29 = .ok (.getfield 35, 3) := by decide +kernel
theorem dX8_wins_32 : decode cX8_wins 32 = .ok (.iload_n 1, 1) := by decide +kernel
theorem dX8_wins_33 : decode cX8_wins 33 = .ok (.iaload, 1) := by decide +kernel
theorem dX8_wins_34 : decode cX8_wins 34 = .ok (.iconst (-1), 1) := by decide +kernel
theorem dX8_wins_35 : decode cX8_wins 35 = .ok (.if_icmp .eq 13, 3) := by decide +kernel
theorem dX8_wins_38 : decode cX8_wins 38 = .ok (.aload_n 0, 1) := by decide +kernel
theorem dX8_wins_39 : decode cX8_wins 39 = .ok (.getfield 35, 3) := by decide +kernel
theorem dX8_wins_42 : decode cX8_wins 42 = .ok (.iload_n 2, 1) := by decide +kernel
theorem dX8_wins_43 : decode cX8_wins 43 = .ok (.iaload, 1) := by decide +kernel
theorem dX8_wins_44 : decode cX8_wins 44 = .ok (.iconst (-1), 1) := by decide +kernel
theorem dX8_wins_45 : decode cX8_wins 45 = .ok (.if_icmp .ne 9, 3) := by decide +kernel
theorem dX8_wins_48 : decode cX8_wins 48 = .ok (.ldc2_w 144, 3) := by decide +kernel
theorem dX8_wins_51 : decode cX8_wins 51 = .ok (.goto 17, 3) := by decide +kernel
theorem dX8_wins_54 : decode cX8_wins 54 = .ok (.aload_n 0, 1) := by decide +kernel
theorem dX8_wins_55 : decode cX8_wins 55 = .ok (.getfield 38, 3) := by decide +kernel
theorem dX8_wins_58 : decode cX8_wins 58 = .ok (.bipush 81, 2) := by decide +kernel
theorem dX8_wins_60 : decode cX8_wins 60 = .ok (.iload_n 1, 1) := by decide +kernel
theorem dX8_wins_61 : decode cX8_wins 61 = .ok (.imul, 1) := by decide +kernel
theorem dX8_wins_62 : decode cX8_wins 62 = .ok (.iload_n 2, 1) := by decide +kernel
theorem dX8_wins_63 : decode cX8_wins 63 = .ok (.iadd, 1) := by decide +kernel
theorem dX8_wins_64 : decode cX8_wins 64 = .ok (.daload, 1) := by decide +kernel
theorem dX8_wins_65 : decode cX8_wins 65 = .ok (.invokestatic 146, 3) := by decide +kernel
theorem dX8_wins_68 : decode cX8_wins 68 = .ok (.lreturn, 1) := by decide +kernel
theorem dX8_luck_0 : decode cX8_luck 0 = .ok (.iconst 0, 1) := by decide +kernel
theorem dX8_luck_1 : decode cX8_luck 1 = .ok (.istore_n 1, 1) := by decide +kernel
theorem dX8_luck_2 : decode cX8_luck 2 = .ok (.iconst 0, 1) := by decide +kernel
theorem dX8_luck_3 : decode cX8_luck 3 = .ok (.istore_n 2, 1) := by decide +kernel
theorem dX8_luck_4 : decode cX8_luck 4 = .ok (.iload_n 2, 1) := by decide +kernel
theorem dX8_luck_5 : decode cX8_luck 5 = .ok (.bipush 20, 2) := by decide +kernel
theorem dX8_luck_7 : decode cX8_luck 7 = .ok (.if_icmp .ge 41, 3) := by decide +kernel
theorem dX8_luck_10 : decode cX8_luck 10 = .ok (.aload_n 0, 1) := by decide +kernel
theorem dX8_luck_11 : decode cX8_luck 11 = .ok (.getfield 7, 3) := by decide +kernel
theorem dX8_luck_14 : decode cX8_luck 14 = .ok (.iload_n 2, 1) := by decide +kernel
theorem dX8_luck_15 : decode cX8_luck 15 = .ok (.iaload, 1) := by decide +kernel
theorem dX8_luck_16 : decode cX8_luck 16 = .ok (.aload_n 0, 1) := by decide +kernel
theorem dX8_luck_17 : decode cX8_luck 17 = .ok (.getfield 7, 3) := by decide +kernel
theorem dX8_luck_20 : decode cX8_luck 20 = .ok (.iload_n 2, 1) := by decide +kernel
theorem dX8_luck_21 : decode cX8_luck 21 = .ok (.iconst 1, 1) := by decide +kernel
theorem dX8_luck_22 : decode cX8_luck 22 = .ok (.iadd, 1) := by decide +kernel
theorem dX8_luck_23 : decode cX8_luck 23 = .ok (.bipush 20, 2) := by decide +kernel
theorem dX8_luck_25 : decode cX8_luck 25 = .ok (.irem, 1) := by decide +kernel
theorem dX8_luck_26 : decode cX8_luck 26 = .ok (.iaload, 1) := by decide +kernel
theorem dX8_luck_27 : decode cX8_luck 27 = .ok (.isub, 1) := by decide +kernel
theorem dX8_luck_28 : decode cX8_luck 28 = .ok (.istore_n 3, 1) := by decide +kernel
theorem dX8_luck_29 : decode cX8_luck 29 = .ok (.iload_n 1, 1) := by decide +kernel
theorem dX8_luck_30 : decode cX8_luck 30 = .ok (.iload_n 3, 1) := by decide +kernel
theorem dX8_luck_31 : decode cX8_luck 31 = .ok (.ifCond .ge 8, 3) := by decide +kernel
theorem dX8_luck_34 : decode cX8_luck 34 = .ok (.iload_n 3, 1) := by decide +kernel
theorem dX8_luck_35 : decode cX8_luck 35 = .ok (.ineg, 1) := by decide +kernel
theorem dX8_luck_36 : decode cX8_luck 36 = .ok (.goto 4, 3) := by decide +kernel
theorem dX8_luck_39 : decode cX8_luck 39 = .ok (.iload_n 3, 1) := by decide +kernel
theorem dX8_luck_40 : decode cX8_luck 40 = .ok (.iadd, 1) := by decide +kernel
theorem dX8_luck_41 : decode cX8_luck 41 = .ok (.istore_n 1, 1) := by decide +kernel
theorem dX8_luck_42 : decode cX8_luck 42 = .ok (.iinc 2 1, 3) := by decide +kernel
theorem dX8_luck_45 : decode cX8_luck 45 = .ok (.goto (-41), 3) := by decide +kernel
theorem dX8_luck_48 : decode cX8_luck 48 = .ok (.iload_n 1, 1) := by decide +kernel
theorem dX8_luck_49 : decode cX8_luck 49 = .ok (.ireturn, 1) := by decide +kernel
set_option maxRecDepth 20000 in
theorem ggX8_luckier_X8_luck : GoodIn wsX8_luckier wsX8_luck := goodIn_r _ [5, 6, 11, 12, 13, 14, 15, 16, 17, 18, 19, 20, 21, 22, 23, 24, 25, 26, 27, 28, 29, 30, 31, 32, 33, 34, 35, 36, 37, 38, 39] (by decide +kernel) (by decide +kernel)
set_option maxRecDepth 20000 in
theorem gX8_luckier_X8_luck : GoodIn wsX8_luckier (wsV RX8 150 RX8 yX8_luck wsX8_luck) := goodIn_app (goodIn_of _ (by decide +kernel)) ggX8_luckier_X8_luck
set_option maxRecDepth 20000 in
theorem ggX8_luckier_X8_exchange : GoodIn wsX8_luckier wsX8_exchange := goodIn_r _ [10, 6, 11, 12, 13, 14, 15, 16, 17, 18, 19, 20, 21, 22, 23, 24, 25, 26, 27, 28, 29, 30, 31, 32, 33, 34, 35, 36, 37, 38, 39] (by decide +kernel) (by decide +kernel)
set_option maxRecDepth 20000 in
theorem gX8_luckier_X8_exchange : GoodIn wsX8_luckier (wsV RX8 80 RX8 yX8_exchange wsX8_exchange) := goodIn_app (goodIn_of _ (by decide +kernel)) ggX8_luckier_X8_exchange
theorem dX8_luckier_0 : decode cX8_luckier 0 = .ok (.aload_n 0, 1) := by decide +kernel
theorem dX8_luckier_1 : decode cX8_luckier 1 = .ok (.invokevirtual 150, 3) := by decide +kernel
theorem dX8_luckier_4 : decode cX8_luckier 4 = .ok (.istore_n 1, 1) := by decide +kernel
theorem dX8_luckier_5 : decode cX8_luckier 5 = .ok (.iconst (-1), 1) := by decide +kernel
theorem dX8_luckier_6 : decode cX8_luckier 6 = .ok (.istore_n 2, 1) := by decide +kernel
theorem dX8_luckier_7 : decode cX8_luckier 7 = .ok (.iconst 0, 1) := by decide +kernel
theorem dX8_luckier_8 : decode cX8_luckier 8 = .ok (.istore_n 3, 1) := by decide +kernel
theorem dX8_luckier_9 : decode cX8_luckier 9 = .ok (.iload_n 3, 1) := by decide +kernel
theorem dX8_luckier_10 : decode cX8_luckier 10 = .ok (.bipush 20, 2) := by decide +kernel
theorem dX8_luckier_12 : decode cX8_luckier 12 = .ok (.if_icmp .ge 64, 3) := by decide +kernel
theorem dX8_luckier_15 : decode cX8_luckier 15 = .ok (.iload_n 3, 1) := by decide +kernel
theorem dX8_luckier_16 : decode cX8_luckier 16 = .ok (.iconst 1, 1) := by decide +kernel
theorem dX8_luckier_17 : decode cX8_luckier 17 = .ok (.iadd, 1) := by decide +kernel
theorem dX8_luckier_18 : decode cX8_luckier 18 = .ok (.istore 4, 2) := by decide +kernel
theorem dX8_luckier_20 : decode cX8_luckier 20 = .ok (.iload 4, 2) := by decide +kernel
theorem dX8_luckier_22 : decode cX8_luckier 22 = .ok (.bipush 20, 2) := by decide +kernel
theorem dX8_luckier_24 : decode cX8_luckier 24 = .ok (.if_icmp .ge 46, 3) := by decide +kernel
theorem dX8_luckier_27 : decode cX8_luckier 27 = .ok (.aload_n 0, 1) := by decide +kernel
theorem dX8_luckier_28 : decode cX8_luckier 28 = .ok (.iload_n 3, 1) := by decide +kernel
theorem dX8_luckier_29 : decode cX8_luckier 29 = .ok (.iload 4, 2) := by decide +kernel
theorem dX8_luckier_31 : decode cX8_luckier 31 = .ok (.invokevirtual 80, 3) := by decide +kernel
theorem dX8_luckier_34 : decode cX8_luckier 34 = .ok (.aload_n 0, 1) := by decide +kernel
theorem dX8_luckier_35 : decode cX8_luckier 35 = .ok (.invokevirtual 150, 3) := by decide +kernel
theorem dX8_luckier_38 : decode cX8_luckier 38 = .ok (.istore 5, 2) := by decide +kernel
theorem dX8_luckier_40 : decode cX8_luckier 40 = .ok (.aload_n 0, 1) := by decide +kernel
theorem dX8_luckier_41 : decode cX8_luckier 41 = .ok (.iload_n 3, 1) := by decide +kernel
theorem dX8_luckier_42 : decode cX8_luckier 42 = .ok (.iload 4, 2) := by decide +kernel
theorem dX8_luckier_44 : decode cX8_luckier 44 = .ok (.invokevirtual 80, 3) := by decide +kernel
theorem dX8_luckier_47 : decode cX8_luckier 47 = .ok (.iload 5, 2) := by decide +kernel
theorem dX8_luckier_49 : decode cX8_luckier 49 = .ok (.iload_n 1, 1) := by decide +kernel
theorem dX8_luckier_50 : decode cX8_luckier 50 = .ok (.if_icmp .le 14, 3) := by decide +kernel
theorem dX8_luckier_53 : decode cX8_luckier 53 = .ok (.iload 5, 2) := by decide +kernel
theorem dX8_luckier_55 : decode cX8_luckier 55 = .ok (.istore_n 1, 1) := by decide +kernel
theorem dX8_luckier_56 : decode cX8_luckier 56 = .ok (.bipush 32, 2) := by decide +kernel
theorem dX8_luckier_58 : decode cX8_luckier 58 = .ok (.iload_n 3, 1) := by decide +kernel
theorem dX8_luckier_59 : decode cX8_luckier 59 = .ok (.imul, 1) := by decide +kernel
theorem dX8_luckier_60 : decode cX8_luckier 60 = .ok (.iload 4, 2) := by decide +kernel
theorem dX8_luckier_62 : decode cX8_luckier 62 = .ok (.iadd, 1) := by decide +kernel
theorem dX8_luckier_63 : decode cX8_luckier 63 = .ok (.istore_n 2, 1) := by decide +kernel
theorem dX8_luckier_64 : decode cX8_luckier 64 = .ok (.iinc 4 1, 3) := by decide +kernel
theorem dX8_luckier_67 : decode cX8_luckier 67 = .ok (.goto (-47), 3) := by decide +kernel
theorem dX8_luckier_70 : decode cX8_luckier 70 = .ok (.iinc 3 1, 3) := by decide +kernel
theorem dX8_luckier_73 : decode cX8_luckier 73 = .ok (.goto (-64), 3) := by decide +kernel
theorem dX8_luckier_76 : decode cX8_luckier 76 = .ok (.iload_n 2, 1) := by decide +kernel
theorem dX8_luckier_77 : decode cX8_luckier 77 = .ok (.ireturn, 1) := by decide +kernel
set_option maxRecDepth 20000 in
theorem ggX8_game_X8_in : GoodIn wsX8_game wsX8_in := goodIn_r _ [14] (by decide +kernel) (by decide +kernel)
set_option maxRecDepth 20000 in
theorem gX8_game_X8_in : GoodIn wsX8_game (va_wsS RX8 69 yX8_in wsX8_in) := goodIn_app (goodIn_of _ (by decide +kernel)) ggX8_game_X8_in
theorem dX8_game_0 : decode cX8_game 0 = .ok (.iload_n 1, 1) := by decide +kernel
theorem dX8_game_1 : decode cX8_game 1 = .ok (.iconst 2, 1) := by decide +kernel
theorem dX8_game_2 : decode cX8_game 2 = .ok (.sipush 301, 3) := by decide +kernel
theorem dX8_game_5 : decode cX8_game 5 = .ok (.invokestatic 69, 3) := by decide +kernel
theorem dX8_game_8 : decode cX8_game 8 = .ok (.ifCond .eq 16, 3) := by decide +kernel
theorem dX8_game_11 : decode cX8_game 11 = .ok (.iload_n 2, 1) := by decide +kernel
theorem dX8_game_12 : decode cX8_game 12 = .ok (.iconst 1, 1) := by decide +kernel
theorem dX8_game_13 : decode cX8_game 13 = .ok (.iconst 3, 1) := by decide +kernel
theorem dX8_game_14 : decode cX8_game 14 = .ok (.invokestatic 69, 3) := by decide +kernel
theorem dX8_game_17 : decode cX8_game 17 = .ok (.ifCond .eq 7, 3) := by decide +kernel
theorem dX8_game_20 : decode cX8_game 20 = .ok (.iload_n 3, 1) := by decide +kernel
theorem dX8_game_21 : decode cX8_game 21 = .ok (.ifCond .ge 6, 3) := by decide +kernel
theorem dX8_game_24 : decode cX8_game 24 = .ok (.bipush (-2), 2) := by decide +kernel
theorem dX8_game_26 : decode cX8_game 26 = .ok (.ireturn, 1) := by decide +kernel
theorem dX8_game_27 : decode cX8_game 27 = .ok (.aload_n 0, 1) := by decide +kernel
theorem dX8_game_28 : decode cX8_game 28 = .ok (.iconst 1, 1) := by decide +kernel
theorem dX8_game_29 : decode cX8_game 29 = .ok (.putfield 154, 3) := by decide +kernel
theorem dX8_game_32 : decode cX8_game 32 = .ok (.aload_n 0, 1) := by decide +kernel
theorem dX8_game_33 : decode cX8_game 33 = .ok (.iconst 0, 1) := by decide +kernel
theorem dX8_game_34 : decode cX8_game 34 = .ok (.putfield 157, 3) := by decide +kernel
theorem dX8_game_37 : decode cX8_game 37 = .ok (.aload_n 0, 1) := by decide +kernel
theorem dX8_game_38 : decode cX8_game 38 = .ok (.iload_n 3, 1) := by decide +kernel
theorem dX8_game_39 : decode cX8_game 39 = .ok (.putfield 160, 3) := by decide +kernel
theorem dX8_game_42 : decode cX8_game 42 = .ok (.aload_n 0, 1) := by decide +kernel
theorem dX8_game_43 : decode cX8_game 43 = .ok (.iconst 0, 1) := by decide +kernel
theorem dX8_game_44 : decode cX8_game 44 = .ok (.putfield 163, 3) := by decide +kernel
theorem dX8_game_47 : decode cX8_game 47 = .ok (.aload_n 0, 1) := by decide +kernel
theorem dX8_game_48 : decode cX8_game 48 = .ok (.iload_n 2, 1) := by decide +kernel
theorem dX8_game_49 : decode cX8_game 49 = .ok (.putfield 166, 3) := by decide +kernel
theorem dX8_game_52 : decode cX8_game 52 = .ok (.aload_n 0, 1) := by decide +kernel
theorem dX8_game_53 : decode cX8_game 53 = .ok (.iload_n 2, 1) := by decide +kernel
theorem dX8_game_54 : decode cX8_game 54 = .ok (.putfield 169, 3) := by decide +kernel
theorem dX8_game_57 : decode cX8_game 57 = .ok (.aload_n 0, 1) := by decide +kernel
theorem dX8_game_58 : decode cX8_game 58 = .ok (.iload_n 1, 1) := by decide +kernel
theorem dX8_game_59 : decode cX8_game 59 = .ok (.putfield 172, 3) := by decide +kernel
theorem dX8_game_62 : decode cX8_game 62 = .ok (.aload_n 0, 1) := by decide +kernel
theorem dX8_game_63 : decode cX8_game 63 = .ok (.getfield 41, 3) := by decide +kernel
theorem dX8_game_66 : decode cX8_game 66 = .ok (.iconst 0, 1) := by decide +kernel
theorem dX8_game_67 : decode cX8_game 67 = .ok (.iload_n 1, 1) := by decide +kernel
theorem dX8_game_68 : decode cX8_game 68 = .ok (.iastore, 1) := by decide +kernel
theorem dX8_game_69 : decode cX8_game 69 = .ok (.aload_n 0, 1) := by decide +kernel
theorem dX8_game_70 : decode cX8_game 70 = .ok (.getfield 41, 3) := by decide +kernel
theorem dX8_game_73 : decode cX8_game 73 = .ok (.iconst 1, 1) := by decide +kernel
theorem dX8_game_74 : decode cX8_game 74 = .ok (.iload_n 1, 1) := by decide +kernel
theorem dX8_game_75 : decode cX8_game 75 = .ok (.iastore, 1) := by decide +kernel
theorem dX8_game_76 : decode cX8_game 76 = .ok (.aload_n 0, 1) := by decide +kernel
theorem dX8_game_77 : decode cX8_game 77 = .ok (.iconst (-1), 1) := by decide +kernel
theorem dX8_game_78 : decode cX8_game 78 = .ok (.putfield 175, 3) := by decide +kernel
theorem dX8_game_81 : decode cX8_game 81 = .ok (.aload_n 0, 1) := by decide +kernel
theorem dX8_game_82 : decode cX8_game 82 = .ok (.iconst 0, 1) := by decide +kernel
theorem dX8_game_83 : decode cX8_game 83 = .ok (.putfield 178, 3) := by decide +kernel
theorem dX8_game_86 : decode cX8_game 86 = .ok (.iconst 1, 1) := by decide +kernel
theorem dX8_game_87 : decode cX8_game 87 = .ok (.ireturn, 1) := by decide +kernel
theorem dX8_keeps_0 : decode cX8_keeps 0 = .ok (.aload_n 0, 1) := by decide +kernel
theorem dX8_keeps_1 : decode cX8_keeps 1 = .ok (.getfield 178, 3) := by decide +kernel
theorem dX8_keeps_4 : decode cX8_keeps 4 = .ok (.sipush 20000, 3) := by decide +kernel
theorem dX8_keeps_7 : decode cX8_keeps 7 = .ok (.irem, 1) := by decide +kernel
theorem dX8_keeps_8 : decode cX8_keeps 8 = .ok (.istore_n 1, 1) := by decide +kernel
theorem dX8_keeps_9 : decode cX8_keeps 9 = .ok (.aload_n 0, 1) := by decide +kernel
theorem dX8_keeps_10 : decode cX8_keeps 10 = .ok (.getfield 44, 3) := by decide +kernel
theorem dX8_keeps_13 : decode cX8_keeps 13 = .ok (.iload_n 1, 1) := by decide +kernel
theorem dX8_keeps_14 : decode cX8_keeps 14 = .ok (.aload_n 0, 1) := by decide +kernel
theorem dX8_keeps_15 : decode cX8_keeps 15 = .ok (.getfield 160, 3) := by decide +kernel
theorem dX8_keeps_18 : decode cX8_keeps 18 = .ok (.iastore, 1) := by decide +kernel
theorem dX8_keeps_19 : decode cX8_keeps 19 = .ok (.aload_n 0, 1) := by decide +kernel
theorem dX8_keeps_20 : decode cX8_keeps 20 = .ok (.getfield 47, 3) := by decide +kernel
theorem dX8_keeps_23 : decode cX8_keeps 23 = .ok (.iload_n 1, 1) := by decide +kernel
theorem dX8_keeps_24 : decode cX8_keeps 24 = .ok (.aload_n 0, 1) := by decide +kernel
theorem dX8_keeps_25 : decode cX8_keeps 25 = .ok (.getfield 163, 3) := by decide +kernel
theorem dX8_keeps_28 : decode cX8_keeps 28 = .ok (.iastore, 1) := by decide +kernel
theorem dX8_keeps_29 : decode cX8_keeps 29 = .ok (.aload_n 0, 1) := by decide +kernel
theorem dX8_keeps_30 : decode cX8_keeps 30 = .ok (.getfield 50, 3) := by decide +kernel
theorem dX8_keeps_33 : decode cX8_keeps 33 = .ok (.iload_n 1, 1) := by decide +kernel
theorem dX8_keeps_34 : decode cX8_keeps 34 = .ok (.aload_n 0, 1) := by decide +kernel
theorem dX8_keeps_35 : decode cX8_keeps 35 = .ok (.getfield 169, 3) := by decide +kernel
theorem dX8_keeps_38 : decode cX8_keeps 38 = .ok (.iastore, 1) := by decide +kernel
theorem dX8_keeps_39 : decode cX8_keeps 39 = .ok (.aload_n 0, 1) := by decide +kernel
theorem dX8_keeps_40 : decode cX8_keeps 40 = .ok (.getfield 53, 3) := by decide +kernel
theorem dX8_keeps_43 : decode cX8_keeps 43 = .ok (.iload_n 1, 1) := by decide +kernel
theorem dX8_keeps_44 : decode cX8_keeps 44 = .ok (.aload_n 0, 1) := by decide +kernel
theorem dX8_keeps_45 : decode cX8_keeps 45 = .ok (.getfield 172, 3) := by decide +kernel
theorem dX8_keeps_48 : decode cX8_keeps 48 = .ok (.iastore, 1) := by decide +kernel
theorem dX8_keeps_49 : decode cX8_keeps 49 = .ok (.aload_n 0, 1) := by decide +kernel
theorem dX8_keeps_50 : decode cX8_keeps 50 = .ok (.getfield 57, 3) := by decide +kernel
theorem dX8_keeps_53 : decode cX8_keeps 53 = .ok (.iconst 2, 1) := by decide +kernel
theorem dX8_keeps_54 : decode cX8_keeps 54 = .ok (.iload_n 1, 1) := by decide +kernel
theorem dX8_keeps_55 : decode cX8_keeps 55 = .ok (.imul, 1) := by decide +kernel
theorem dX8_keeps_56 : decode cX8_keeps 56 = .ok (.aload_n 0, 1) := by decide +kernel
theorem dX8_keeps_57 : decode cX8_keeps 57 = .ok (.getfield 41, 3) := by decide +kernel
theorem dX8_keeps_60 : decode cX8_keeps 60 = .ok (.iconst 0, 1) := by decide +kernel
theorem dX8_keeps_61 : decode cX8_keeps 61 = .ok (.iaload, 1) := by decide +kernel
theorem dX8_keeps_62 : decode cX8_keeps 62 = .ok (.iastore, 1) := by decide +kernel
theorem dX8_keeps_63 : decode cX8_keeps 63 = .ok (.aload_n 0, 1) := by decide +kernel
theorem dX8_keeps_64 : decode cX8_keeps 64 = .ok (.getfield 57, 3) := by decide +kernel
theorem dX8_keeps_67 : decode cX8_keeps 67 = .ok (.iconst 2, 1) := by decide +kernel
theorem dX8_keeps_68 : decode cX8_keeps 68 = .ok (.iload_n 1, 1) := by decide +kernel
theorem dX8_keeps_69 : decode cX8_keeps 69 = .ok (.imul, 1) := by decide +kernel
theorem dX8_keeps_70 : decode cX8_keeps 70 = .ok (.iconst 1, 1) := by decide +kernel
theorem dX8_keeps_71 : decode cX8_keeps 71 = .ok (.iadd, 1) := by decide +kernel
theorem dX8_keeps_72 : decode cX8_keeps 72 = .ok (.aload_n 0, 1) := by decide +kernel
theorem dX8_keeps_73 : decode cX8_keeps 73 = .ok (.getfield 41, 3) := by decide +kernel
theorem dX8_keeps_76 : decode cX8_keeps 76 = .ok (.iconst 1, 1) := by decide +kernel
theorem dX8_keeps_77 : decode cX8_keeps 77 = .ok (.iaload, 1) := by decide +kernel
theorem dX8_keeps_78 : decode cX8_keeps 78 = .ok (.iastore, 1) := by decide +kernel
theorem dX8_keeps_79 : decode cX8_keeps 79 = .ok (.aload_n 0, 1) := by decide +kernel
theorem dX8_keeps_80 : decode cX8_keeps 80 = .ok (.getfield 60, 3) := by decide +kernel
theorem dX8_keeps_83 : decode cX8_keeps 83 = .ok (.iload_n 1, 1) := by decide +kernel
theorem dX8_keeps_84 : decode cX8_keeps 84 = .ok (.aload_n 0, 1) := by decide +kernel
theorem dX8_keeps_85 : decode cX8_keeps 85 = .ok (.getfield 175, 3) := by decide +kernel
theorem dX8_keeps_88 : decode cX8_keeps 88 = .ok (.iastore, 1) := by decide +kernel
theorem dX8_keeps_89 : decode cX8_keeps 89 = .ok (.aload_n 0, 1) := by decide +kernel
theorem dX8_keeps_90 : decode cX8_keeps 90 = .ok (.dup, 1) := by decide +kernel
theorem dX8_keeps_91 : decode cX8_keeps 91 = .ok (.getfield 178, 3) := by decide +kernel
theorem dX8_keeps_94 : decode cX8_keeps 94 = .ok (.iconst 1, 1) := by decide +kernel
theorem dX8_keeps_95 : decode cX8_keeps 95 = .ok (.iadd, 1) := by decide +kernel
theorem dX8_keeps_96 : decode cX8_keeps 96 = .ok (.putfield 178, 3) := by decide +kernel
theorem dX8_keeps_99 : decode cX8_keeps 99 = .ok (.return_, 1) := by decide +kernel
theorem dX8_step_0 : decode cX8_step 0 = .ok (.aload_n 0, 1) := by decide +kernel
theorem dX8_step_1 : decode cX8_step 1 = .ok (.aload_n 0, 1) := by decide +kernel
theorem dX8_step_2 : decode cX8_step 2 = .ok (.getfield 160, 3) := by decide +kernel
theorem dX8_step_5 : decode cX8_step 5 = .ok (.ldc 181, 2) := by decide +kernel
theorem dX8_step_7 : decode cX8_step 7 = .ok (.imul, 1) := by decide +kernel
theorem dX8_step_8 : decode cX8_step 8 = .ok (.sipush 12345, 3) := by decide +kernel
theorem dX8_step_11 : decode cX8_step 11 = .ok (.iadd, 1) := by decide +kernel
theorem dX8_step_12 : decode cX8_step 12 = .ok (.ldc 182, 2) := by decide +kernel
theorem dX8_step_14 : decode cX8_step 14 = .ok (.iand, 1) := by decide +kernel
theorem dX8_step_15 : decode cX8_step 15 = .ok (.putfield 160, 3) := by decide +kernel
theorem dX8_step_18 : decode cX8_step 18 = .ok (.aload_n 0, 1) := by decide +kernel
theorem dX8_step_19 : decode cX8_step 19 = .ok (.getfield 160, 3) := by decide +kernel
theorem dX8_step_22 : decode cX8_step 22 = .ok (.ldc 183, 2) := by decide +kernel
theorem dX8_step_24 : decode cX8_step 24 = .ok (.idiv, 1) := by decide +kernel
theorem dX8_step_25 : decode cX8_step 25 = .ok (.aload_n 0, 1) := by decide +kernel
theorem dX8_step_26 : decode cX8_step 26 = .ok (.getfield 16, 3) := by decide +kernel
theorem dX8_step_29 : decode cX8_step 29 = .ok (.irem, 1) := by decide +kernel
theorem dX8_step_30 : decode cX8_step 30 = .ok (.istore_n 1, 1) := by decide +kernel
theorem dX8_step_31 : decode cX8_step 31 = .ok (.iconst 0, 1) := by decide +kernel
theorem dX8_step_32 : decode cX8_step 32 = .ok (.istore_n 2, 1) := by decide +kernel
theorem dX8_step_33 : decode cX8_step 33 = .ok (.iload_n 1, 1) := by decide +kernel
theorem dX8_step_34 : decode cX8_step 34 = .ok (.aload_n 0, 1) := by decide +kernel
theorem dX8_step_35 : decode cX8_step 35 = .ok (.getfield 13, 3) := by decide +kernel
theorem dX8_step_38 : decode cX8_step 38 = .ok (.iload_n 2, 1) := by decide +kernel
theorem dX8_step_39 : decode cX8_step 39 = .ok (.iaload, 1) := by decide +kernel
theorem dX8_step_40 : decode cX8_step 40 = .ok (.if_icmp .lt 18, 3) := by decide +kernel
theorem dX8_step_43 : decode cX8_step 43 = .ok (.iload_n 1, 1) := by decide +kernel
theorem dX8_step_44 : decode cX8_step 44 = .ok (.aload_n 0, 1) := by decide +kernel
theorem dX8_step_45 : decode cX8_step 45 = .ok (.getfield 13, 3) := by decide +kernel
theorem dX8_step_48 : decode cX8_step 48 = .ok (.iload_n 2, 1) := by decide +kernel
theorem dX8_step_49 : decode cX8_step 49 = .ok (.iaload, 1) := by decide +kernel
theorem dX8_step_50 : decode cX8_step 50 = .ok (.isub, 1) := by decide +kernel
theorem dX8_step_51 : decode cX8_step 51 = .ok (.istore_n 1, 1) := by decide +kernel
theorem dX8_step_52 : decode cX8_step 52 = .ok (.iinc 2 1, 3) := by decide +kernel
theorem dX8_step_55 : decode cX8_step 55 = .ok (.goto (-22), 3) := by decide +kernel
theorem dX8_step_58 : decode cX8_step 58 = .ok (.iload_n 2, 1) := by decide +kernel
theorem dX8_step_59 : decode cX8_step 59 = .ok (.ireturn, 1) := by decide +kernel
theorem dX8_passes_0 : decode cX8_passes 0 = .ok (.aload_n 0, 1) := by decide +kernel
theorem dX8_passes_1 : decode cX8_passes 1 = .ok (.iconst 1, 1) := by decide +kernel
theorem dX8_passes_2 : decode cX8_passes 2 = .ok (.aload_n 0, 1) := by decide +kernel
theorem dX8_passes_3 : decode cX8_passes 3 = .ok (.getfield 163, 3) := by decide +kernel
theorem dX8_passes_6 : decode cX8_passes 6 = .ok (.isub, 1) := by decide +kernel
theorem dX8_passes_7 : decode cX8_passes 7 = .ok (.putfield 163, 3) := by decide +kernel
theorem dX8_passes_10 : decode cX8_passes 10 = .ok (.aload_n 0, 1) := by decide +kernel
theorem dX8_passes_11 : decode cX8_passes 11 = .ok (.aload_n 0, 1) := by decide +kernel
theorem dX8_passes_12 : decode cX8_passes 12 = .ok (.getfield 166, 3) := by decide +kernel
theorem dX8_passes_15 : decode cX8_passes 15 = .ok (.putfield 169, 3) := by decide +kernel
theorem dX8_passes_18 : decode cX8_passes 18 = .ok (.aload_n 0, 1) := by decide +kernel
theorem dX8_passes_19 : decode cX8_passes 19 = .ok (.aload_n 0, 1) := by decide +kernel
theorem dX8_passes_20 : decode cX8_passes 20 = .ok (.getfield 41, 3) := by decide +kernel
theorem dX8_passes_23 : decode cX8_passes 23 = .ok (.aload_n 0, 1) := by decide +kernel
theorem dX8_passes_24 : decode cX8_passes 24 = .ok (.getfield 163, 3) := by decide +kernel
theorem dX8_passes_27 : decode cX8_passes 27 = .ok (.iaload, 1) := by decide +kernel
theorem dX8_passes_28 : decode cX8_passes 28 = .ok (.putfield 172, 3) := by decide +kernel
theorem dX8_passes_31 : decode cX8_passes 31 = .ok (.return_, 1) := by decide +kernel
set_option maxRecDepth 20000 in
theorem ggX8_dart_X8_isAim : GoodIn wsX8_dart wsX8_isAim := goodIn_r _ [14, 15, 16, 13, 17] (by decide +kernel) (by decide +kernel)
set_option maxRecDepth 20000 in
theorem gX8_dart_X8_isAim : GoodIn wsX8_dart (va_wsS RX8 94 yX8_isAim wsX8_isAim) := goodIn_app (goodIn_of _ (by decide +kernel)) ggX8_dart_X8_isAim
set_option maxRecDepth 20000 in
theorem ggX8_dart_X8_findThrows : GoodIn wsX8_dart wsX8_findThrows := goodIn_r _ [21, 22, 23, 24, 25, 13, 26, 3, 27, 28, 29, 30, 31, 32, 33, 6, 7, 34, 35, 36, 37, 38, 39, 40, 41, 42, 43, 44, 45, 46, 47, 48, 49, 50, 51, 52, 53, 54, 55, 56, 81, 82, 83, 84, 85, 86, 87, 88, 89, 90, 91, 92, 93, 94, 95, 96, 97, 98, 99, 100, 101, 102, 103, 104, 105, 106, 107, 108, 109] (by decide +kernel) (by decide +kernel)
set_option maxRecDepth 20000 in
theorem gX8_dart_X8_findThrows : GoodIn wsX8_dart (wsV RX8 141 RX8 yX8_findThrows wsX8_findThrows) := goodIn_app (goodIn_of _ (by decide +kernel)) ggX8_dart_X8_findThrows
set_option maxRecDepth 20000 in
theorem ggX8_dart_X8_keeps : GoodIn wsX8_dart wsX8_keeps := goodIn_r _ [60, 61, 62, 63, 64, 5, 65, 9, 66, 10, 67, 4, 68, 8, 81, 82, 83, 84, 85, 86, 87, 88, 89, 90, 91, 92, 93, 94, 95, 96, 97, 98, 99, 100, 101, 102, 103, 104, 105, 106, 107, 108, 109] (by decide +kernel) (by decide +kernel)
set_option maxRecDepth 20000 in
theorem gX8_dart_X8_keeps : GoodIn wsX8_dart (wsV RX8 184 RX8 yX8_keeps wsX8_keeps) := goodIn_app (goodIn_of _ (by decide +kernel)) ggX8_dart_X8_keeps
set_option maxRecDepth 20000 in
theorem ggX8_dart_X8_step : GoodIn wsX8_dart wsX8_step := goodIn_r _ [72, 63, 73, 74, 75, 29, 27, 81, 82, 83, 84, 85, 86, 87, 88, 89, 90, 91, 92, 93, 94, 95, 96, 97, 98, 99, 100, 101, 102, 103, 104, 105, 106, 107, 108, 109] (by decide +kernel) (by decide +kernel)
set_option maxRecDepth 20000 in
theorem gX8_dart_X8_step : GoodIn wsX8_dart (wsV RX8 187 RX8 yX8_step wsX8_step) := goodIn_app (goodIn_of _ (by decide +kernel)) ggX8_dart_X8_step
set_option maxRecDepth 20000 in
theorem ggX8_dart_X8_leaves : GoodIn wsX8_dart wsX8_leaves := goodIn_r _ [33, 6, 7, 34, 35, 36, 37, 13, 38, 39, 40, 41, 42, 43, 81, 82, 83, 84, 85, 86, 87, 88, 89, 90, 91, 92, 93, 94, 95, 96, 97, 98, 99, 100, 101, 102, 103, 104, 105, 106, 107, 108, 109] (by decide +kernel) (by decide +kernel)
set_option maxRecDepth 20000 in
theorem gX8_dart_X8_leaves : GoodIn wsX8_dart (wsV RX8 104 RX8 yX8_leaves wsX8_leaves) := goodIn_app (goodIn_of _ (by decide +kernel)) ggX8_dart_X8_leaves
set_option maxRecDepth 20000 in
theorem ggX8_dart_X8_counts : GoodIn wsX8_dart wsX8_counts := goodIn_r _ [42, 43, 81, 82, 83, 84, 85, 86, 87, 88, 89, 90, 91, 92, 93, 94, 95, 96, 97, 98, 99, 100, 101, 102, 103, 104, 105, 106, 107, 108, 109] (by decide +kernel) (by decide +kernel)
set_option maxRecDepth 20000 in
theorem gX8_dart_X8_counts : GoodIn wsX8_dart (wsV RX8 84 RX8 yX8_counts wsX8_counts) := goodIn_app (goodIn_of _ (by decide +kernel)) ggX8_dart_X8_counts
set_option maxRecDepth 20000 in
theorem ggX8_dart_X8_passes : GoodIn wsX8_dart wsX8_passes := goodIn_r _ [79, 5, 80, 9, 4, 10, 81, 82, 83, 84, 85, 86, 87, 88, 89, 90, 91, 92, 93, 94, 95, 96, 97, 98, 99, 100, 101, 102, 103, 104, 105, 106, 107, 108, 109] (by decide +kernel) (by decide +kernel)
set_option maxRecDepth 20000 in
theorem gX8_dart_X8_passes : GoodIn wsX8_dart (wsV RX8 190 RX8 yX8_passes wsX8_passes) := goodIn_app (goodIn_of _ (by decide +kernel)) ggX8_dart_X8_passes
theorem dX8_dart_0 : decode cX8_dart 0 = .ok (.iload_n 1, 1) := by decide +kernel
theorem dX8_dart_1 : decode cX8_dart 1 = .ok (.iconst (-1), 1) := by decide +kernel
theorem dX8_dart_2 : decode cX8_dart 2 = .ok (.if_icmp .eq 13, 3) := by decide +kernel
theorem dX8_dart_5 : decode cX8_dart 5 = .ok (.iload_n 1, 1) := by decide +kernel
theorem dX8_dart_6 : decode cX8_dart 6 = .ok (.invokestatic 94, 3) := by decide +kernel
theorem dX8_dart_9 : decode cX8_dart 9 = .ok (.ifCond .ne 6, 3) := by decide +kernel
theorem dX8_dart_12 : decode cX8_dart 12 = .ok (.bipush (-2), 2) := by decide +kernel
theorem dX8_dart_14 : decode cX8_dart 14 = .ok (.ireturn, 1) := by decide +kernel
theorem dX8_dart_15 : decode cX8_dart 15 = .ok (.aload_n 0, 1) := by decide +kernel
theorem dX8_dart_16 : decode cX8_dart 16 = .ok (.getfield 154, 3) := by decide +kernel
theorem dX8_dart_19 : decode cX8_dart 19 = .ok (.ifCond .eq 10, 3) := by decide +kernel
theorem dX8_dart_22 : decode cX8_dart 22 = .ok (.aload_n 0, 1) := by decide +kernel
theorem dX8_dart_23 : decode cX8_dart 23 = .ok (.getfield 157, 3) := by decide +kernel
theorem dX8_dart_26 : decode cX8_dart 26 = .ok (.ifCond .eq 6, 3) := by decide +kernel
theorem dX8_dart_29 : decode cX8_dart 29 = .ok (.bipush (-3), 2) := by decide +kernel
theorem dX8_dart_31 : decode cX8_dart 31 = .ok (.ireturn, 1) := by decide +kernel
theorem dX8_dart_32 : decode cX8_dart 32 = .ok (.iload_n 1, 1) := by decide +kernel
theorem dX8_dart_33 : decode cX8_dart 33 = .ok (.istore_n 2, 1) := by decide +kernel
theorem dX8_dart_34 : decode cX8_dart 34 = .ok (.iload_n 1, 1) := by decide +kernel
theorem dX8_dart_35 : decode cX8_dart 35 = .ok (.iconst (-1), 1) := by decide +kernel
theorem dX8_dart_36 : decode cX8_dart 36 = .ok (.if_icmp .ne 30, 3) := by decide +kernel
theorem dX8_dart_39 : decode cX8_dart 39 = .ok (.aload_n 0, 1) := by decide +kernel
theorem dX8_dart_40 : decode cX8_dart 40 = .ok (.invokevirtual 141, 3) := by decide +kernel
theorem dX8_dart_43 : decode cX8_dart 43 = .ok (.aload_n 0, 1) := by decide +kernel
theorem dX8_dart_44 : decode cX8_dart 44 = .ok (.getfield 35, 3) := by decide +kernel
theorem dX8_dart_47 : decode cX8_dart 47 = .ok (.aload_n 0, 1) := by decide +kernel
theorem dX8_dart_48 : decode cX8_dart 48 = .ok (.getfield 41, 3) := by decide +kernel
theorem dX8_dart_51 : decode cX8_dart 51 = .ok (.aload_n 0, 1) := by decide +kernel
theorem dX8_dart_52 : decode cX8_dart 52 = .ok (.getfield 163, 3) := by decide +kernel
theorem dX8_dart_55 : decode cX8_dart 55 = .ok (.iaload, 1) := by decide +kernel
theorem dX8_dart_56 : decode cX8_dart 56 = .ok (.iaload, 1) := by decide +kernel
theorem dX8_dart_57 : decode cX8_dart 57 = .ok (.istore_n 2, 1) := by decide +kernel
theorem dX8_dart_58 : decode cX8_dart 58 = .ok (.iload_n 2, 1) := by decide +kernel
theorem dX8_dart_59 : decode cX8_dart 59 = .ok (.iconst (-1), 1) := by decide +kernel
theorem dX8_dart_60 : decode cX8_dart 60 = .ok (.if_icmp .ne 6, 3) := by decide +kernel
theorem dX8_dart_63 : decode cX8_dart 63 = .ok (.bipush (-3), 2) := by decide +kernel
theorem dX8_dart_65 : decode cX8_dart 65 = .ok (.ireturn, 1) := by decide +kernel
theorem dX8_dart_66 : decode cX8_dart 66 = .ok (.aload_n 0, 1) := by decide +kernel
theorem dX8_dart_67 : decode cX8_dart 67 = .ok (.invokevirtual 184, 3) := by decide +kernel
theorem dX8_dart_70 : decode cX8_dart 70 = .ok (.aload_n 0, 1) := by decide +kernel
theorem dX8_dart_71 : decode cX8_dart 71 = .ok (.aload_n 0, 1) := by decide +kernel
theorem dX8_dart_72 : decode cX8_dart 72 = .ok (.getfield 41, 3) := by decide +kernel
theorem dX8_dart_75 : decode cX8_dart 75 = .ok (.aload_n 0, 1) := by decide +kernel
theorem dX8_dart_76 : decode cX8_dart 76 = .ok (.getfield 163, 3) := by decide +kernel
theorem dX8_dart_79 : decode cX8_dart 79 = .ok (.iaload, 1) := by decide +kernel
theorem dX8_dart_80 : decode cX8_dart 80 = .ok (.iload_n 2, 1) := by decide +kernel
theorem dX8_dart_81 : decode cX8_dart 81 = .ok (.aload_n 0, 1) := by decide +kernel
theorem dX8_dart_82 : decode cX8_dart 82 = .ok (.invokevirtual 187, 3) := by decide +kernel
theorem dX8_dart_85 : decode cX8_dart 85 = .ok (.invokevirtual 104, 3) := by decide +kernel
theorem dX8_dart_88 : decode cX8_dart 88 = .ok (.istore_n 3, 1) := by decide +kernel
theorem dX8_dart_89 : decode cX8_dart 89 = .ok (.aload_n 0, 1) := by decide +kernel
theorem dX8_dart_90 : decode cX8_dart 90 = .ok (.aload_n 0, 1) := by decide +kernel
theorem dX8_dart_91 : decode cX8_dart 91 = .ok (.getfield 88, 3) := by decide +kernel
theorem dX8_dart_94 : decode cX8_dart 94 = .ok (.aload_n 0, 1) := by decide +kernel
theorem dX8_dart_95 : decode cX8_dart 95 = .ok (.getfield 91, 3) := by decide +kernel
theorem dX8_dart_98 : decode cX8_dart 98 = .ok (.invokevirtual 84, 3) := by decide +kernel
theorem dX8_dart_101 : decode cX8_dart 101 = .ok (.istore 4, 2) := by decide +kernel
theorem dX8_dart_103 : decode cX8_dart 103 = .ok (.aload_n 0, 1) := by decide +kernel
theorem dX8_dart_104 : decode cX8_dart 104 = .ok (.bipush 20, 2) := by decide +kernel
theorem dX8_dart_106 : decode cX8_dart 106 = .ok (.aload_n 0, 1) := by decide +kernel
theorem dX8_dart_107 : decode cX8_dart 107 = .ok (.getfield 88, 3) := by decide +kernel
theorem dX8_dart_110 : decode cX8_dart 110 = .ok (.imul, 1) := by decide +kernel
theorem dX8_dart_111 : decode cX8_dart 111 = .ok (.aload_n 0, 1) := by decide +kernel
theorem dX8_dart_112 : decode cX8_dart 112 = .ok (.getfield 91, 3) := by decide +kernel
theorem dX8_dart_115 : decode cX8_dart 115 = .ok (.iadd, 1) := by decide +kernel
theorem dX8_dart_116 : decode cX8_dart 116 = .ok (.putfield 175, 3) := by decide +kernel
theorem dX8_dart_119 : decode cX8_dart 119 = .ok (.aload_n 0, 1) := by decide +kernel
theorem dX8_dart_120 : decode cX8_dart 120 = .ok (.dup, 1) := by decide +kernel
theorem dX8_dart_121 : decode cX8_dart 121 = .ok (.getfield 169, 3) := by decide +kernel
theorem dX8_dart_124 : decode cX8_dart 124 = .ok (.iconst 1, 1) := by decide +kernel
theorem dX8_dart_125 : decode cX8_dart 125 = .ok (.isub, 1) := by decide +kernel
theorem dX8_dart_126 : decode cX8_dart 126 = .ok (.putfield 169, 3) := by decide +kernel
theorem dX8_dart_129 : decode cX8_dart 129 = .ok (.iload_n 3, 1) := by decide +kernel
theorem dX8_dart_130 : decode cX8_dart 130 = .ok (.iconst (-1), 1) := by decide +kernel
theorem dX8_dart_131 : decode cX8_dart 131 = .ok (.if_icmp .ne 27, 3) := by decide +kernel
theorem dX8_dart_134 : decode cX8_dart 134 = .ok (.aload_n 0, 1) := by decide +kernel
theorem dX8_dart_135 : decode cX8_dart 135 = .ok (.getfield 41, 3) := by decide +kernel
theorem dX8_dart_138 : decode cX8_dart 138 = .ok (.aload_n 0, 1) := by decide +kernel
theorem dX8_dart_139 : decode cX8_dart 139 = .ok (.getfield 163, 3) := by decide +kernel
theorem dX8_dart_142 : decode cX8_dart 142 = .ok (.aload_n 0, 1) := by decide +kernel
theorem dX8_dart_143 : decode cX8_dart 143 = .ok (.getfield 172, 3) := by decide +kernel
theorem dX8_dart_146 : decode cX8_dart 146 = .ok (.iastore, 1) := by decide +kernel
theorem dX8_dart_147 : decode cX8_dart 147 = .ok (.aload_n 0, 1) := by decide +kernel
theorem dX8_dart_148 : decode cX8_dart 148 = .ok (.invokevirtual 190, 3) := by decide +kernel
theorem dX8_dart_151 : decode cX8_dart 151 = .ok (.sipush (-1000), 3) := by decide +kernel
theorem dX8_dart_154 : decode cX8_dart 154 = .ok (.iload 4, 2) := by decide +kernel
theorem dX8_dart_156 : decode cX8_dart 156 = .ok (.isub, 1) := by decide +kernel
theorem dX8_dart_157 : decode cX8_dart 157 = .ok (.ireturn, 1) := by decide +kernel
theorem dX8_dart_158 : decode cX8_dart 158 = .ok (.aload_n 0, 1) := by decide +kernel
theorem dX8_dart_159 : decode cX8_dart 159 = .ok (.getfield 41, 3) := by decide +kernel
theorem dX8_dart_162 : decode cX8_dart 162 = .ok (.aload_n 0, 1) := by decide +kernel
theorem dX8_dart_163 : decode cX8_dart 163 = .ok (.getfield 163, 3) := by decide +kernel
theorem dX8_dart_166 : decode cX8_dart 166 = .ok (.iload_n 3, 1) := by decide +kernel
theorem dX8_dart_167 : decode cX8_dart 167 = .ok (.iastore, 1) := by decide +kernel
theorem dX8_dart_168 : decode cX8_dart 168 = .ok (.iload_n 3, 1) := by decide +kernel
theorem dX8_dart_169 : decode cX8_dart 169 = .ok (.ifCond .ne 11, 3) := by decide +kernel
theorem dX8_dart_172 : decode cX8_dart 172 = .ok (.aload_n 0, 1) := by decide +kernel
theorem dX8_dart_173 : decode cX8_dart 173 = .ok (.iconst 1, 1) := by decide +kernel
theorem dX8_dart_174 : decode cX8_dart 174 = .ok (.putfield 157, 3) := by decide +kernel
theorem dX8_dart_177 : decode cX8_dart 177 = .ok (.goto 14, 3) := by decide +kernel
theorem dX8_dart_180 : decode cX8_dart 180 = .ok (.aload_n 0, 1) := by decide +kernel
theorem dX8_dart_181 : decode cX8_dart 181 = .ok (.getfield 169, 3) := by decide +kernel
theorem dX8_dart_184 : decode cX8_dart 184 = .ok (.ifCond .ne 7, 3) := by decide +kernel
theorem dX8_dart_187 : decode cX8_dart 187 = .ok (.aload_n 0, 1) := by decide +kernel
theorem dX8_dart_188 : decode cX8_dart 188 = .ok (.invokevirtual 190, 3) := by decide +kernel
theorem dX8_dart_191 : decode cX8_dart 191 = .ok (.iload 4, 2) := by decide +kernel
theorem dX8_dart_193 : decode cX8_dart 193 = .ok (.ireturn, 1) := by decide +kernel
theorem dX8_aboutOf_0 : decode cX8_aboutOf 0 = .ok (.iload_n 1, 1) := by decide +kernel
theorem dX8_aboutOf_1 : decode cX8_aboutOf 1 = .ok (.tableswitch 81 0 5 #[39, 44, 51, 58, 63, 76], 39) := by decide +kernel
theorem dX8_aboutOf_40 : decode cX8_aboutOf 40 = .ok (.aload_n 0, 1) := by decide +kernel
theorem dX8_aboutOf_41 : decode cX8_aboutOf 41 = .ok (.getfield 163, 3) := by decide +kernel
theorem dX8_aboutOf_44 : decode cX8_aboutOf 44 = .ok (.ireturn, 1) := by decide +kernel
theorem dX8_aboutOf_45 : decode cX8_aboutOf 45 = .ok (.aload_n 0, 1) := by decide +kernel
theorem dX8_aboutOf_46 : decode cX8_aboutOf 46 = .ok (.getfield 41, 3) := by decide +kernel
theorem dX8_aboutOf_49 : decode cX8_aboutOf 49 = .ok (.iconst 0, 1) := by decide +kernel
theorem dX8_aboutOf_50 : decode cX8_aboutOf 50 = .ok (.iaload, 1) := by decide +kernel
theorem dX8_aboutOf_51 : decode cX8_aboutOf 51 = .ok (.ireturn, 1) := by decide +kernel
theorem dX8_aboutOf_52 : decode cX8_aboutOf 52 = .ok (.aload_n 0, 1) := by decide +kernel
theorem dX8_aboutOf_53 : decode cX8_aboutOf 53 = .ok (.getfield 41, 3) := by decide +kernel
theorem dX8_aboutOf_56 : decode cX8_aboutOf 56 = .ok (.iconst 1, 1) := by decide +kernel
theorem dX8_aboutOf_57 : decode cX8_aboutOf 57 = .ok (.iaload, 1) := by decide +kernel
theorem dX8_aboutOf_58 : decode cX8_aboutOf 58 = .ok (.ireturn, 1) := by decide +kernel
theorem dX8_aboutOf_59 : decode cX8_aboutOf 59 = .ok (.aload_n 0, 1) := by decide +kernel
theorem dX8_aboutOf_60 : decode cX8_aboutOf 60 = .ok (.getfield 169, 3) := by decide +kernel
theorem dX8_aboutOf_63 : decode cX8_aboutOf 63 = .ok (.ireturn, 1) := by decide +kernel
theorem dX8_aboutOf_64 : decode cX8_aboutOf 64 = .ok (.aload_n 0, 1) := by decide +kernel
theorem dX8_aboutOf_65 : decode cX8_aboutOf 65 = .ok (.getfield 157, 3) := by decide +kernel
theorem dX8_aboutOf_68 : decode cX8_aboutOf 68 = .ok (.ifCond .eq 7, 3) := by decide +kernel
theorem dX8_aboutOf_71 : decode cX8_aboutOf 71 = .ok (.iconst 1, 1) := by decide +kernel
theorem dX8_aboutOf_72 : decode cX8_aboutOf 72 = .ok (.goto 4, 3) := by decide +kernel
theorem dX8_aboutOf_75 : decode cX8_aboutOf 75 = .ok (.iconst 0, 1) := by decide +kernel
theorem dX8_aboutOf_76 : decode cX8_aboutOf 76 = .ok (.ireturn, 1) := by decide +kernel
theorem dX8_aboutOf_77 : decode cX8_aboutOf 77 = .ok (.aload_n 0, 1) := by decide +kernel
theorem dX8_aboutOf_78 : decode cX8_aboutOf 78 = .ok (.getfield 178, 3) := by decide +kernel
theorem dX8_aboutOf_81 : decode cX8_aboutOf 81 = .ok (.ireturn, 1) := by decide +kernel
theorem dX8_aboutOf_82 : decode cX8_aboutOf 82 = .ok (.aload_n 0, 1) := by decide +kernel
theorem dX8_aboutOf_83 : decode cX8_aboutOf 83 = .ok (.getfield 175, 3) := by decide +kernel
theorem dX8_aboutOf_86 : decode cX8_aboutOf 86 = .ok (.ireturn, 1) := by decide +kernel
set_option maxRecDepth 20000 in
theorem ggX8_about_X8_in : GoodIn wsX8_about wsX8_in := goodIn_r _ [5] (by decide +kernel) (by decide +kernel)
set_option maxRecDepth 20000 in
theorem gX8_about_X8_in : GoodIn wsX8_about (va_wsS RX8 69 yX8_in wsX8_in) := goodIn_app (goodIn_of _ (by decide +kernel)) ggX8_about_X8_in
set_option maxRecDepth 20000 in
theorem ggX8_about_X8_aboutOf : GoodIn wsX8_about wsX8_aboutOf := goodIn_r _ [9, 10, 11, 12, 13, 14, 15, 16, 17, 18, 19, 20, 21, 22, 23, 24, 25, 26, 27, 28, 29, 30, 31, 32, 33, 34, 35, 36, 37, 38, 39, 40, 41, 42, 43, 44] (by decide +kernel) (by decide +kernel)
set_option maxRecDepth 20000 in
theorem gX8_about_X8_aboutOf : GoodIn wsX8_about (wsV RX8 193 RX8 yX8_aboutOf wsX8_aboutOf) := goodIn_app (goodIn_of _ (by decide +kernel)) ggX8_about_X8_aboutOf
theorem dX8_about_0 : decode cX8_about 0 = .ok (.iload_n 1, 1) := by decide +kernel
theorem dX8_about_1 : decode cX8_about 1 = .ok (.iconst 0, 1) := by decide +kernel
theorem dX8_about_2 : decode cX8_about 2 = .ok (.bipush 6, 2) := by decide +kernel
theorem dX8_about_4 : decode cX8_about 4 = .ok (.invokestatic 69, 3) := by decide +kernel
theorem dX8_about_7 : decode cX8_about 7 = .ok (.ifCond .ne 8, 3) := by decide +kernel
theorem dX8_about_10 : decode cX8_about 10 = .ok (.bipush (-2), 2) := by decide +kernel
theorem dX8_about_12 : decode cX8_about 12 = .ok (.goto 20, 3) := by decide +kernel
theorem dX8_about_15 : decode cX8_about 15 = .ok (.aload_n 0, 1) := by decide +kernel
theorem dX8_about_16 : decode cX8_about 16 = .ok (.getfield 154, 3) := by decide +kernel
theorem dX8_about_19 : decode cX8_about 19 = .ok (.ifCond .eq 11, 3) := by decide +kernel
theorem dX8_about_22 : decode cX8_about 22 = .ok (.aload_n 0, 1) := by decide +kernel
theorem dX8_about_23 : decode cX8_about 23 = .ok (.iload_n 1, 1) := by decide +kernel
theorem dX8_about_24 : decode cX8_about 24 = .ok (.invokevirtual 193, 3) := by decide +kernel
theorem dX8_about_27 : decode cX8_about 27 = .ok (.goto 5, 3) := by decide +kernel
theorem dX8_about_30 : decode cX8_about 30 = .ok (.bipush (-3), 2) := by decide +kernel
theorem dX8_about_32 : decode cX8_about 32 = .ok (.ireturn, 1) := by decide +kernel
theorem dX8_undo_0 : decode cX8_undo 0 = .ok (.aload_n 0, 1) := by decide +kernel
theorem dX8_undo_1 : decode cX8_undo 1 = .ok (.getfield 154, 3) := by decide +kernel
theorem dX8_undo_4 : decode cX8_undo 4 = .ok (.ifCond .eq 10, 3) := by decide +kernel
theorem dX8_undo_7 : decode cX8_undo 7 = .ok (.aload_n 0, 1) := by decide +kernel
theorem dX8_undo_8 : decode cX8_undo 8 = .ok (.getfield 178, 3) := by decide +kernel
theorem dX8_undo_11 : decode cX8_undo 11 = .ok (.ifCond .ne 6, 3) := by decide +kernel
theorem dX8_undo_14 : decode cX8_undo 14 = .ok (.bipush (-3), 2) := by decide +kernel
theorem dX8_undo_16 : decode cX8_undo 16 = .ok (.ireturn, 1) := by decide +kernel
theorem dX8_undo_17 : decode cX8_undo 17 = .ok (.aload_n 0, 1) := by decide +kernel
theorem dX8_undo_18 : decode cX8_undo 18 = .ok (.dup, 1) := by decide +kernel
theorem dX8_undo_19 : decode cX8_undo 19 = .ok (.getfield 178, 3) := by decide +kernel
theorem dX8_undo_22 : decode cX8_undo 22 = .ok (.iconst 1, 1) := by decide +kernel
theorem dX8_undo_23 : decode cX8_undo 23 = .ok (.isub, 1) := by decide +kernel
theorem dX8_undo_24 : decode cX8_undo 24 = .ok (.putfield 178, 3) := by decide +kernel
theorem dX8_undo_27 : decode cX8_undo 27 = .ok (.aload_n 0, 1) := by decide +kernel
theorem dX8_undo_28 : decode cX8_undo 28 = .ok (.getfield 178, 3) := by decide +kernel
theorem dX8_undo_31 : decode cX8_undo 31 = .ok (.sipush 20000, 3) := by decide +kernel
theorem dX8_undo_34 : decode cX8_undo 34 = .ok (.irem, 1) := by decide +kernel
theorem dX8_undo_35 : decode cX8_undo 35 = .ok (.istore_n 1, 1) := by decide +kernel
theorem dX8_undo_36 : decode cX8_undo 36 = .ok (.aload_n 0, 1) := by decide +kernel
theorem dX8_undo_37 : decode cX8_undo 37 = .ok (.aload_n 0, 1) := by decide +kernel
theorem dX8_undo_38 : decode cX8_undo 38 = .ok (.getfield 44, 3) := by decide +kernel
theorem dX8_undo_41 : decode cX8_undo 41 = .ok (.iload_n 1, 1) := by decide +kernel
theorem dX8_undo_42 : decode cX8_undo 42 = .ok (.iaload, 1) := by decide +kernel
theorem dX8_undo_43 : decode cX8_undo 43 = .ok (.putfield 160, 3) := by decide +kernel
theorem dX8_undo_46 : decode cX8_undo 46 = .ok (.aload_n 0, 1) := by decide +kernel
theorem dX8_undo_47 : decode cX8_undo 47 = .ok (.aload_n 0, 1) := by decide +kernel
theorem dX8_undo_48 : decode cX8_undo 48 = .ok (.getfield 47, 3) := by decide +kernel
theorem dX8_undo_51 : decode cX8_undo 51 = .ok (.iload_n 1, 1) := by decide +kernel
theorem dX8_undo_52 : decode cX8_undo 52 = .ok (.iaload, 1) := by decide +kernel
theorem dX8_undo_53 : decode cX8_undo 53 = .ok (.putfield 163, 3) := by decide +kernel
theorem dX8_undo_56 : decode cX8_undo 56 = .ok (.aload_n 0, 1) := by decide +kernel
theorem dX8_undo_57 : decode cX8_undo 57 = .ok (.aload_n 0, 1) := by decide +kernel
theorem dX8_undo_58 : decode cX8_undo 58 = .ok (.getfield 50, 3) := by decide +kernel
theorem dX8_undo_61 : decode cX8_undo 61 = .ok (.iload_n 1, 1) := by decide +kernel
theorem dX8_undo_62 : decode cX8_undo 62 = .ok (.iaload, 1) := by decide +kernel
theorem dX8_undo_63 : decode cX8_undo 63 = .ok (.putfield 169, 3) := by decide +kernel
theorem dX8_undo_66 : decode cX8_undo 66 = .ok (.aload_n 0, 1) := by decide +kernel
theorem dX8_undo_67 : decode cX8_undo 67 = .ok (.aload_n 0, 1) := by decide +kernel
theorem dX8_undo_68 : decode cX8_undo 68 = .ok (.getfield 53, 3) := by decide +kernel
theorem dX8_undo_71 : decode cX8_undo 71 = .ok (.iload_n 1, 1) := by decide +kernel
theorem dX8_undo_72 : decode cX8_undo 72 = .ok (.iaload, 1) := by decide +kernel
theorem dX8_undo_73 : decode cX8_undo 73 = .ok (.putfield 172, 3) := by decide +kernel
theorem dX8_undo_76 : decode cX8_undo 76 = .ok (.aload_n 0, 1) := by decide +kernel
theorem dX8_undo_77 : decode cX8_undo 77 = .ok (.getfield 41, 3) := by decide +kernel
theorem dX8_undo_80 : decode cX8_undo 80 = .ok (.iconst 0, 1) := by decide +kernel
theorem dX8_undo_81 : decode cX8_undo 81 = .ok (.aload_n 0, 1) := by decide +kernel
theorem dX8_undo_82 : decode cX8_undo 82 = .ok (.getfield 57, 3) := by decide +kernel
theorem dX8_undo_85 : decode cX8_undo 85 = .ok (.iconst 2, 1) := by decide +kernel
theorem dX8_undo_86 : decode cX8_undo 86 = .ok (.iload_n 1, 1) := by decide +kernel
theorem dX8_undo_87 : decode cX8_undo 87 = .ok (.imul, 1) := by decide +kernel
theorem dX8_undo_88 : decode cX8_undo 88 = .ok (.iaload, 1) := by decide +kernel
theorem dX8_undo_89 : decode cX8_undo 89 = .ok (.iastore, 1) := by decide +kernel
theorem dX8_undo_90 : decode cX8_undo 90 = .ok (.aload_n 0, 1) := by decide +kernel
theorem dX8_undo_91 : decode cX8_undo 91 = .ok (.getfield 41, 3) := by decide +kernel
theorem dX8_undo_94 : decode cX8_undo 94 = .ok (.iconst 1, 1) := by decide +kernel
theorem dX8_undo_95 : decode cX8_undo 95 = .ok (.aload_n 0, 1) := by decide +kernel
theorem dX8_undo_96 : decode cX8_undo 96 = .ok (.getfield 57, 3) := by decide +kernel
theorem dX8_undo_99 : decode cX8_undo 99 = .ok (.iconst 2, 1) := by decide +kernel
theorem dX8_undo_100 : decode cX8_undo 100 = .ok (.iload_n 1, 1) := by decide +kernel
theorem dX8_undo_101 : decode cX8_undo 101 = .ok (.imul, 1) := by decide +kernel
theorem dX8_undo_102 : decode cX8_undo 102 = .ok (.iconst 1, 1) := by decide +kernel
theorem dX8_undo_103 : decode cX8_undo 103 = .ok (.iadd, 1) := by decide +kernel
theorem dX8_undo_104 : decode cX8_undo 104 = .ok (.iaload, 1) := by decide +kernel
theorem dX8_undo_105 : decode cX8_undo 105 = .ok (.iastore, 1) := by decide +kernel
theorem dX8_undo_106 : decode cX8_undo 106 = .ok (.aload_n 0, 1) := by decide +kernel
theorem dX8_undo_107 : decode cX8_undo 107 = .ok (.aload_n 0, 1) := by decide +kernel
theorem dX8_undo_108 : decode cX8_undo 108 = .ok (.getfield 60, 3) := by decide +kernel
theorem dX8_undo_111 : decode cX8_undo 111 = .ok (.iload_n 1, 1) := by decide +kernel
theorem dX8_undo_112 : decode cX8_undo 112 = .ok (.iaload, 1) := by decide +kernel
theorem dX8_undo_113 : decode cX8_undo 113 = .ok (.putfield 175, 3) := by decide +kernel
theorem dX8_undo_116 : decode cX8_undo 116 = .ok (.aload_n 0, 1) := by decide +kernel
theorem dX8_undo_117 : decode cX8_undo 117 = .ok (.iconst 0, 1) := by decide +kernel
theorem dX8_undo_118 : decode cX8_undo 118 = .ok (.putfield 157, 3) := by decide +kernel
theorem dX8_undo_121 : decode cX8_undo 121 = .ok (.aload_n 0, 1) := by decide +kernel
theorem dX8_undo_122 : decode cX8_undo 122 = .ok (.getfield 178, 3) := by decide +kernel
theorem dX8_undo_125 : decode cX8_undo 125 = .ok (.ireturn, 1) := by decide +kernel
set_option maxRecDepth 20000 in
theorem ggX8_digest_X8_luck : GoodIn wsX8_digest wsX8_luck := goodIn_r _ [12, 3, 23, 24, 25, 26, 27, 28, 29, 30, 31, 32, 33, 34, 35, 36, 37, 38, 39, 40, 41, 42, 43, 44, 45, 46, 47, 48, 49, 50, 51] (by decide +kernel) (by decide +kernel)
set_option maxRecDepth 20000 in
theorem gX8_digest_X8_luck : GoodIn wsX8_digest (wsV RX8 150 RX8 yX8_luck wsX8_luck) := goodIn_app (goodIn_of _ (by decide +kernel)) ggX8_digest_X8_luck
set_option maxRecDepth 20000 in
theorem ggX8_digest_X8_aboutOf : GoodIn wsX8_digest wsX8_aboutOf := goodIn_r _ [16, 17, 18, 19, 20, 21, 22, 23, 24, 25, 26, 27, 28, 29, 30, 31, 32, 33, 34, 35, 36, 37, 38, 39, 40, 41, 42, 43, 44, 45, 46, 47, 48, 49, 50, 51] (by decide +kernel) (by decide +kernel)
set_option maxRecDepth 20000 in
theorem gX8_digest_X8_aboutOf : GoodIn wsX8_digest (wsV RX8 193 RX8 yX8_aboutOf wsX8_aboutOf) := goodIn_app (goodIn_of _ (by decide +kernel)) ggX8_digest_X8_aboutOf
theorem dX8_digest_0 : decode cX8_digest 0 = .ok (.ldc2_w 196, 3) := by decide +kernel
theorem dX8_digest_3 : decode cX8_digest 3 = .ok (.lstore_n 1, 1) := by decide +kernel
theorem dX8_digest_4 : decode cX8_digest 4 = .ok (.iconst 0, 1) := by decide +kernel
theorem dX8_digest_5 : decode cX8_digest 5 = .ok (.istore_n 3, 1) := by decide +kernel
theorem dX8_digest_6 : decode cX8_digest 6 = .ok (.iload_n 3, 1) := by decide +kernel
theorem dX8_digest_7 : decode cX8_digest 7 = .ok (.bipush 20, 2) := by decide +kernel
theorem dX8_digest_9 : decode cX8_digest 9 = .ok (.if_icmp .ge 23, 3) := by decide +kernel
theorem dX8_digest_12 : decode cX8_digest 12 = .ok (.ldc2_w 198, 3) := by decide +kernel
theorem dX8_digest_15 : decode cX8_digest 15 = .ok (.lload_n 1, 1) := by decide +kernel
theorem dX8_digest_16 : decode cX8_digest 16 = .ok (.lmul, 1) := by decide +kernel
theorem dX8_digest_17 : decode cX8_digest 17 = .ok (.aload_n 0, 1) := by decide +kernel
theorem dX8_digest_18 : decode cX8_digest 18 = .ok (.getfield 7, 3) := by decide +kernel
theorem dX8_digest_21 : decode cX8_digest 21 = .ok (.iload_n 3, 1) := by decide +kernel
theorem dX8_digest_22 : decode cX8_digest 22 = .ok (.iaload, 1) := by decide +kernel
theorem dX8_digest_23 : decode cX8_digest 23 = .ok (.i2l, 1) := by decide +kernel
theorem dX8_digest_24 : decode cX8_digest 24 = .ok (.ladd, 1) := by decide +kernel
theorem dX8_digest_25 : decode cX8_digest 25 = .ok (.lstore_n 1, 1) := by decide +kernel
theorem dX8_digest_26 : decode cX8_digest 26 = .ok (.iinc 3 1, 3) := by decide +kernel
theorem dX8_digest_29 : decode cX8_digest 29 = .ok (.goto (-23), 3) := by decide +kernel
theorem dX8_digest_32 : decode cX8_digest 32 = .ok (.iconst 0, 1) := by decide +kernel
theorem dX8_digest_33 : decode cX8_digest 33 = .ok (.istore_n 3, 1) := by decide +kernel
theorem dX8_digest_34 : decode cX8_digest 34 = .ok (.iload_n 3, 1) := by decide +kernel
theorem dX8_digest_35 : decode cX8_digest 35 = .ok (.bipush 25, 2) := by decide +kernel
theorem dX8_digest_37 : decode cX8_digest 37 = .ok (.if_icmp .ge 23, 3) := by decide +kernel
theorem dX8_digest_40 : decode cX8_digest 40 = .ok (.ldc2_w 198, 3) := by decide +kernel
theorem dX8_digest_43 : decode cX8_digest 43 = .ok (.lload_n 1, 1) := by decide +kernel
theorem dX8_digest_44 : decode cX8_digest 44 = .ok (.lmul, 1) := by decide +kernel
theorem dX8_digest_45 : decode cX8_digest 45 = .ok (.aload_n 0, 1) := by decide +kernel
theorem dX8_digest_46 : decode cX8_digest 46 = .ok (.getfield 13, 3) := by decide +kernel
theorem dX8_digest_49 : decode cX8_digest 49 = .ok (.iload_n 3, 1) := by decide +kernel
theorem dX8_digest_50 : decode cX8_digest 50 = .ok (.iaload, 1) := by decide +kernel
theorem dX8_digest_51 : decode cX8_digest 51 = .ok (.i2l, 1) := by decide +kernel
theorem dX8_digest_52 : decode cX8_digest 52 = .ok (.ladd, 1) := by decide +kernel
theorem dX8_digest_53 : decode cX8_digest 53 = .ok (.lstore_n 1, 1) := by decide +kernel
theorem dX8_digest_54 : decode cX8_digest 54 = .ok (.iinc 3 1, 3) := by decide +kernel
theorem dX8_digest_57 : decode cX8_digest 57 = .ok (.goto (-23), 3) := by decide +kernel
theorem dX8_digest_60 : decode cX8_digest 60 = .ok (.ldc2_w 198, 3) := by decide +kernel
theorem dX8_digest_63 : decode cX8_digest 63 = .ok (.ldc2_w 198, 3) := by decide +kernel
theorem dX8_digest_66 : decode cX8_digest 66 = .ok (.ldc2_w 198, 3) := by decide +kernel
theorem dX8_digest_69 : decode cX8_digest 69 = .ok (.lload_n 1, 1) := by decide +kernel
theorem dX8_digest_70 : decode cX8_digest 70 = .ok (.lmul, 1) := by decide +kernel
theorem dX8_digest_71 : decode cX8_digest 71 = .ok (.aload_n 0, 1) := by decide +kernel
theorem dX8_digest_72 : decode cX8_digest 72 = .ok (.getfield 20, 3) := by decide +kernel
theorem dX8_digest_75 : decode cX8_digest 75 = .ok (.ifCond .eq 7, 3) := by decide +kernel
theorem dX8_digest_78 : decode cX8_digest 78 = .ok (.iconst 1, 1) := by decide +kernel
theorem dX8_digest_79 : decode cX8_digest 79 = .ok (.goto 4, 3) := by decide +kernel
theorem dX8_digest_82 : decode cX8_digest 82 = .ok (.iconst 0, 1) := by decide +kernel
theorem dX8_digest_83 : decode cX8_digest 83 = .ok (.i2l, 1) := by decide +kernel
theorem dX8_digest_84 : decode cX8_digest 84 = .ok (.ladd, 1) := by decide +kernel
theorem dX8_digest_85 : decode cX8_digest 85 = .ok (.lmul, 1) := by decide +kernel
theorem dX8_digest_86 : decode cX8_digest 86 = .ok (.aload_n 0, 1) := by decide +kernel
theorem dX8_digest_87 : decode cX8_digest 87 = .ok (.getfield 16, 3) := by decide +kernel
theorem dX8_digest_90 : decode cX8_digest 90 = .ok (.i2l, 1) := by decide +kernel
theorem dX8_digest_91 : decode cX8_digest 91 = .ok (.ladd, 1) := by decide +kernel
theorem dX8_digest_92 : decode cX8_digest 92 = .ok (.lmul, 1) := by decide +kernel
theorem dX8_digest_93 : decode cX8_digest 93 = .ok (.aload_n 0, 1) := by decide +kernel
theorem dX8_digest_94 : decode cX8_digest 94 = .ok (.invokevirtual 150, 3) := by decide +kernel
theorem dX8_digest_97 : decode cX8_digest 97 = .ok (.i2l, 1) := by decide +kernel
theorem dX8_digest_98 : decode cX8_digest 98 = .ok (.ladd, 1) := by decide +kernel
theorem dX8_digest_99 : decode cX8_digest 99 = .ok (.lstore_n 1, 1) := by decide +kernel
theorem dX8_digest_100 : decode cX8_digest 100 = .ok (.iconst 0, 1) := by decide +kernel
theorem dX8_digest_101 : decode cX8_digest 101 = .ok (.istore_n 3, 1) := by decide +kernel
theorem dX8_digest_102 : decode cX8_digest 102 = .ok (.iload_n 3, 1) := by decide +kernel
theorem dX8_digest_103 : decode cX8_digest 103 = .ok (.bipush 7, 2) := by decide +kernel
theorem dX8_digest_105 : decode cX8_digest 105 = .ok (.if_icmp .ge 29, 3) := by decide +kernel
theorem dX8_digest_108 : decode cX8_digest 108 = .ok (.aload_n 0, 1) := by decide +kernel
theorem dX8_digest_109 : decode cX8_digest 109 = .ok (.getfield 154, 3) := by decide +kernel
theorem dX8_digest_112 : decode cX8_digest 112 = .ok (.ifCond .eq 22, 3) := by decide +kernel
theorem dX8_digest_115 : decode cX8_digest 115 = .ok (.ldc2_w 198, 3) := by decide +kernel
theorem dX8_digest_118 : decode cX8_digest 118 = .ok (.lload_n 1, 1) := by decide +kernel
theorem dX8_digest_119 : decode cX8_digest 119 = .ok (.lmul, 1) := by decide +kernel
theorem dX8_digest_120 : decode cX8_digest 120 = .ok (.aload_n 0, 1) := by decide +kernel
theorem dX8_digest_121 : decode cX8_digest 121 = .ok (.iload_n 3, 1) := by decide +kernel
theorem dX8_digest_122 : decode cX8_digest 122 = .ok (.invokevirtual 193, 3) := by decide +kernel
theorem dX8_digest_125 : decode cX8_digest 125 = .ok (.i2l, 1) := by decide +kernel
theorem dX8_digest_126 : decode cX8_digest 126 = .ok (.ladd, 1) := by decide +kernel
theorem dX8_digest_127 : decode cX8_digest 127 = .ok (.lstore_n 1, 1) := by decide +kernel
theorem dX8_digest_128 : decode cX8_digest 128 = .ok (.iinc 3 1, 3) := by decide +kernel
theorem dX8_digest_131 : decode cX8_digest 131 = .ok (.goto (-29), 3) := by decide +kernel
theorem dX8_digest_134 : decode cX8_digest 134 = .ok (.lload_n 1, 1) := by decide +kernel
theorem dX8_digest_135 : decode cX8_digest 135 = .ok (.lreturn, 1) := by decide +kernel
