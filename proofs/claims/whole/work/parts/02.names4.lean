set_option maxRecDepth 20000 in
theorem ggX7_init_X0_init : GoodIn wsX7_init wsX0_init := goodIn_r _ [32, 33, 2, 3, 34, 35, 36, 37, 38, 39, 85] (by decide +kernel) (by decide +kernel)
set_option maxRecDepth 20000 in
theorem gX7_init_X0_init : GoodIn wsX7_init (wsX0_init) := ggX7_init_X0_init
set_option maxRecDepth 20000 in
theorem ggX7_init_X1_init : GoodIn wsX7_init wsX1_init := goodIn_r _ [42, 43, 2, 3, 34, 44, 45, 94, 95] (by decide +kernel) (by decide +kernel)
set_option maxRecDepth 20000 in
theorem gX7_init_X1_init : GoodIn wsX7_init (wsX1_init) := ggX7_init_X1_init
set_option maxRecDepth 20000 in
theorem ggX7_init_X2_init : GoodIn wsX7_init wsX2_init := goodIn_r _ [48, 49, 2, 3, 34, 50, 51, 52, 53, 54, 55, 56, 96, 97, 98, 99, 100, 101, 102] (by decide +kernel) (by decide +kernel)
set_option maxRecDepth 20000 in
theorem gX7_init_X2_init : GoodIn wsX7_init (wsX2_init) := ggX7_init_X2_init
set_option maxRecDepth 20000 in
theorem ggX7_init_X5_init : GoodIn wsX7_init wsX5_init := goodIn_r _ [59, 60, 2, 3, 61, 62, 34, 63, 64, 65, 103, 104, 105, 106] (by decide +kernel) (by decide +kernel)
set_option maxRecDepth 20000 in
theorem gX7_init_X5_init : GoodIn wsX7_init (wsX5_init) := ggX7_init_X5_init
set_option maxRecDepth 20000 in
theorem ggX7_init_X4_init : GoodIn wsX7_init wsX4_init := goodIn_r _ [68, 69, 2, 3, 70, 71, 34, 72, 73, 74, 75, 76, 107, 108, 109, 110, 111, 112] (by decide +kernel) (by decide +kernel)
set_option maxRecDepth 20000 in
theorem gX7_init_X4_init : GoodIn wsX7_init (wsX4_init) := ggX7_init_X4_init
set_option maxRecDepth 20000 in
theorem ggX7_init_X6_init : GoodIn wsX7_init wsX6_init := goodIn_r _ [79, 80, 2, 3, 81, 82, 83, 84, 113, 114, 115, 116] (by decide +kernel) (by decide +kernel)
set_option maxRecDepth 20000 in
theorem gX7_init_X6_init : GoodIn wsX7_init (wsX6_init) := ggX7_init_X6_init
theorem dX7_init_0 : decode cX7_init 0 = .ok (.aload_n 0, 1) := by decide +kernel
theorem dX7_init_1 : decode cX7_init 1 = .ok (.invokespecial 3, 3) := by decide +kernel
theorem dX7_init_4 : decode cX7_init 4 = .ok (.aload_n 0, 1) := by decide +kernel
theorem dX7_init_5 : decode cX7_init 5 = .ok (.new 9, 3) := by decide +kernel
theorem dX7_init_8 : decode cX7_init 8 = .ok (.dup, 1) := by decide +kernel
theorem dX7_init_9 : decode cX7_init 9 = .ok (.invokespecial 11, 3) := by decide +kernel
theorem dX7_init_12 : decode cX7_init 12 = .ok (.putfield 12, 3) := by decide +kernel
theorem dX7_init_15 : decode cX7_init 15 = .ok (.aload_n 0, 1) := by decide +kernel
theorem dX7_init_16 : decode cX7_init 16 = .ok (.new 16, 3) := by decide +kernel
theorem dX7_init_19 : decode cX7_init 19 = .ok (.dup, 1) := by decide +kernel
theorem dX7_init_20 : decode cX7_init 20 = .ok (.invokespecial 18, 3) := by decide +kernel
theorem dX7_init_23 : decode cX7_init 23 = .ok (.putfield 19, 3) := by decide +kernel
theorem dX7_init_26 : decode cX7_init 26 = .ok (.aload_n 0, 1) := by decide +kernel
theorem dX7_init_27 : decode cX7_init 27 = .ok (.new 23, 3) := by decide +kernel
theorem dX7_init_30 : decode cX7_init 30 = .ok (.dup, 1) := by decide +kernel
theorem dX7_init_31 : decode cX7_init 31 = .ok (.aload_n 0, 1) := by decide +kernel
theorem dX7_init_32 : decode cX7_init 32 = .ok (.getfield 12, 3) := by decide +kernel
theorem dX7_init_35 : decode cX7_init 35 = .ok (.aload_n 0, 1) := by decide +kernel
theorem dX7_init_36 : decode cX7_init 36 = .ok (.getfield 19, 3) := by decide +kernel
theorem dX7_init_39 : decode cX7_init 39 = .ok (.invokespecial 25, 3) := by decide +kernel
theorem dX7_init_42 : decode cX7_init 42 = .ok (.putfield 28, 3) := by decide +kernel
theorem dX7_init_45 : decode cX7_init 45 = .ok (.aload_n 0, 1) := by decide +kernel
theorem dX7_init_46 : decode cX7_init 46 = .ok (.new 32, 3) := by decide +kernel
theorem dX7_init_49 : decode cX7_init 49 = .ok (.dup, 1) := by decide +kernel
theorem dX7_init_50 : decode cX7_init 50 = .ok (.aload_n 0, 1) := by decide +kernel
theorem dX7_init_51 : decode cX7_init 51 = .ok (.getfield 28, 3) := by decide +kernel
theorem dX7_init_54 : decode cX7_init 54 = .ok (.invokespecial 34, 3) := by decide +kernel
theorem dX7_init_57 : decode cX7_init 57 = .ok (.putfield 37, 3) := by decide +kernel
theorem dX7_init_60 : decode cX7_init 60 = .ok (.aload_n 0, 1) := by decide +kernel
theorem dX7_init_61 : decode cX7_init 61 = .ok (.new 41, 3) := by decide +kernel
theorem dX7_init_64 : decode cX7_init 64 = .ok (.dup, 1) := by decide +kernel
theorem dX7_init_65 : decode cX7_init 65 = .ok (.aload_n 0, 1) := by decide +kernel
theorem dX7_init_66 : decode cX7_init 66 = .ok (.getfield 28, 3) := by decide +kernel
theorem dX7_init_69 : decode cX7_init 69 = .ok (.invokespecial 43, 3) := by decide +kernel
theorem dX7_init_72 : decode cX7_init 72 = .ok (.putfield 44, 3) := by decide +kernel
theorem dX7_init_75 : decode cX7_init 75 = .ok (.aload_n 0, 1) := by decide +kernel
theorem dX7_init_76 : decode cX7_init 76 = .ok (.new 48, 3) := by decide +kernel
theorem dX7_init_79 : decode cX7_init 79 = .ok (.dup, 1) := by decide +kernel
theorem dX7_init_80 : decode cX7_init 80 = .ok (.aload_n 0, 1) := by decide +kernel
theorem dX7_init_81 : decode cX7_init 81 = .ok (.getfield 28, 3) := by decide +kernel
theorem dX7_init_84 : decode cX7_init 84 = .ok (.aload_n 0, 1) := by decide +kernel
theorem dX7_init_85 : decode cX7_init 85 = .ok (.getfield 44, 3) := by decide +kernel
theorem dX7_init_88 : decode cX7_init 88 = .ok (.invokespecial 50, 3) := by decide +kernel
theorem dX7_init_91 : decode cX7_init 91 = .ok (.putfield 53, 3) := by decide +kernel
theorem dX7_init_94 : decode cX7_init 94 = .ok (.aload_n 0, 1) := by decide +kernel
theorem dX7_init_95 : decode cX7_init 95 = .ok (.iconst 1, 1) := by decide +kernel
theorem dX7_init_96 : decode cX7_init 96 = .ok (.putfield 57, 3) := by decide +kernel
theorem dX7_init_99 : decode cX7_init 99 = .ok (.aload_n 0, 1) := by decide +kernel
theorem dX7_init_100 : decode cX7_init 100 = .ok (.aconst_null, 1) := by decide +kernel
theorem dX7_init_101 : decode cX7_init 101 = .ok (.putfield 61, 3) := by decide +kernel
theorem dX7_init_104 : decode cX7_init 104 = .ok (.return_, 1) := by decide +kernel
set_option maxRecDepth 20000 in
theorem ggX7_cloud_X7_isStep : GoodIn wsX7_cloud wsX7_isStep := goodIn_r _ [8] (by decide +kernel) (by decide +kernel)
set_option maxRecDepth 20000 in
theorem gX7_cloud_X7_isStep : GoodIn wsX7_cloud (va_wsS RX7 65 yX7_isStep wsX7_isStep) := goodIn_app (goodIn_of _ (by decide +kernel)) ggX7_cloud_X7_isStep
set_option maxRecDepth 20000 in
theorem ggX7_cloud_X1_put : GoodIn wsX7_cloud wsX1_put := goodIn_r _ [13, 14, 15, 24, 25] (by decide +kernel) (by decide +kernel)
set_option maxRecDepth 20000 in
theorem gX7_cloud_X1_put : GoodIn wsX7_cloud (wsV RX7 77 RX1 yX1_put wsX1_put) := goodIn_app (goodIn_of _ (by decide +kernel)) ggX7_cloud_X1_put
theorem dX7_cloud_0 : decode cX7_cloud 0 = .ok (.iload_n 1, 1) := by decide +kernel
theorem dX7_cloud_1 : decode cX7_cloud 1 = .ok (.invokestatic 65, 3) := by decide +kernel
theorem dX7_cloud_4 : decode cX7_cloud 4 = .ok (.ifCond .eq 21, 3) := by decide +kernel
theorem dX7_cloud_7 : decode cX7_cloud 7 = .ok (.iload_n 2, 1) := by decide +kernel
theorem dX7_cloud_8 : decode cX7_cloud 8 = .ok (.invokestatic 65, 3) := by decide +kernel
theorem dX7_cloud_11 : decode cX7_cloud 11 = .ok (.ifCond .eq 14, 3) := by decide +kernel
theorem dX7_cloud_14 : decode cX7_cloud 14 = .ok (.iload_n 3, 1) := by decide +kernel
theorem dX7_cloud_15 : decode cX7_cloud 15 = .ok (.ifCond .lt 10, 3) := by decide +kernel
theorem dX7_cloud_18 : decode cX7_cloud 18 = .ok (.iload_n 3, 1) := by decide +kernel
theorem dX7_cloud_19 : decode cX7_cloud 19 = .ok (.sipush 200, 3) := by decide +kernel
theorem dX7_cloud_22 : decode cX7_cloud 22 = .ok (.if_icmp .le 6, 3) := by decide +kernel
theorem dX7_cloud_25 : decode cX7_cloud 25 = .ok (.bipush (-2), 2) := by decide +kernel
theorem dX7_cloud_27 : decode cX7_cloud 27 = .ok (.ireturn, 1) := by decide +kernel
theorem dX7_cloud_28 : decode cX7_cloud 28 = .ok (.iconst 5, 1) := by decide +kernel
theorem dX7_cloud_29 : decode cX7_cloud 29 = .ok (.iload_n 1, 1) := by decide +kernel
theorem dX7_cloud_30 : decode cX7_cloud 30 = .ok (.iconst 2, 1) := by decide +kernel
theorem dX7_cloud_31 : decode cX7_cloud 31 = .ok (.iadd, 1) := by decide +kernel
theorem dX7_cloud_32 : decode cX7_cloud 32 = .ok (.imul, 1) := by decide +kernel
theorem dX7_cloud_33 : decode cX7_cloud 33 = .ok (.iload_n 2, 1) := by decide +kernel
theorem dX7_cloud_34 : decode cX7_cloud 34 = .ok (.iadd, 1) := by decide +kernel
theorem dX7_cloud_35 : decode cX7_cloud 35 = .ok (.iconst 2, 1) := by decide +kernel
theorem dX7_cloud_36 : decode cX7_cloud 36 = .ok (.iadd, 1) := by decide +kernel
theorem dX7_cloud_37 : decode cX7_cloud 37 = .ok (.istore 4, 2) := by decide +kernel
theorem dX7_cloud_39 : decode cX7_cloud 39 = .ok (.aload_n 0, 1) := by decide +kernel
theorem dX7_cloud_40 : decode cX7_cloud 40 = .ok (.getfield 19, 3) := by decide +kernel
theorem dX7_cloud_43 : decode cX7_cloud 43 = .ok (.getfield 69, 3) := by decide +kernel
theorem dX7_cloud_46 : decode cX7_cloud 46 = .ok (.iload 4, 2) := by decide +kernel
theorem dX7_cloud_48 : decode cX7_cloud 48 = .ok (.iaload, 1) := by decide +kernel
theorem dX7_cloud_49 : decode cX7_cloud 49 = .ok (.istore 5, 2) := by decide +kernel
theorem dX7_cloud_51 : decode cX7_cloud 51 = .ok (.aload_n 0, 1) := by decide +kernel
theorem dX7_cloud_52 : decode cX7_cloud 52 = .ok (.getfield 19, 3) := by decide +kernel
theorem dX7_cloud_55 : decode cX7_cloud 55 = .ok (.getfield 73, 3) := by decide +kernel
theorem dX7_cloud_58 : decode cX7_cloud 58 = .ok (.iload 5, 2) := by decide +kernel
theorem dX7_cloud_60 : decode cX7_cloud 60 = .ok (.isub, 1) := by decide +kernel
theorem dX7_cloud_61 : decode cX7_cloud 61 = .ok (.iload_n 3, 1) := by decide +kernel
theorem dX7_cloud_62 : decode cX7_cloud 62 = .ok (.iadd, 1) := by decide +kernel
theorem dX7_cloud_63 : decode cX7_cloud 63 = .ok (.iconst 1, 1) := by decide +kernel
theorem dX7_cloud_64 : decode cX7_cloud 64 = .ok (.if_icmp .ge 6, 3) := by decide +kernel
theorem dX7_cloud_67 : decode cX7_cloud 67 = .ok (.bipush (-3), 2) := by decide +kernel
theorem dX7_cloud_69 : decode cX7_cloud 69 = .ok (.ireturn, 1) := by decide +kernel
theorem dX7_cloud_70 : decode cX7_cloud 70 = .ok (.aload_n 0, 1) := by decide +kernel
theorem dX7_cloud_71 : decode cX7_cloud 71 = .ok (.getfield 19, 3) := by decide +kernel
theorem dX7_cloud_74 : decode cX7_cloud 74 = .ok (.iload 4, 2) := by decide +kernel
theorem dX7_cloud_76 : decode cX7_cloud 76 = .ok (.iload_n 3, 1) := by decide +kernel
theorem dX7_cloud_77 : decode cX7_cloud 77 = .ok (.invokevirtual 77, 3) := by decide +kernel
theorem dX7_cloud_80 : decode cX7_cloud 80 = .ok (.iload 5, 2) := by decide +kernel
theorem dX7_cloud_82 : decode cX7_cloud 82 = .ok (.iload_n 3, 1) := by decide +kernel
theorem dX7_cloud_83 : decode cX7_cloud 83 = .ok (.if_icmp .eq 8, 3) := by decide +kernel
theorem dX7_cloud_86 : decode cX7_cloud 86 = .ok (.aload_n 0, 1) := by decide +kernel
theorem dX7_cloud_87 : decode cX7_cloud 87 = .ok (.iconst 1, 1) := by decide +kernel
theorem dX7_cloud_88 : decode cX7_cloud 88 = .ok (.putfield 57, 3) := by decide +kernel
theorem dX7_cloud_91 : decode cX7_cloud 91 = .ok (.iload 5, 2) := by decide +kernel
theorem dX7_cloud_93 : decode cX7_cloud 93 = .ok (.ireturn, 1) := by decide +kernel
set_option maxRecDepth 20000 in
theorem ggX7_rules_X7_ruleNumber : GoodIn wsX7_rules wsX7_ruleNumber := goodIn_r _ [8, 1, 2, 9, 10, 11, 12, 13, 14, 15, 16, 17, 18, 19, 20, 21, 22, 23] (by decide +kernel) (by decide +kernel)
set_option maxRecDepth 20000 in
theorem gX7_rules_X7_ruleNumber : GoodIn wsX7_rules (wsV RX7 81 RX7 yX7_ruleNumber wsX7_ruleNumber) := goodIn_app (goodIn_of _ (by decide +kernel)) ggX7_rules_X7_ruleNumber
theorem dX7_rules_0 : decode cX7_rules 0 = .ok (.iload_n 1, 1) := by decide +kernel
theorem dX7_rules_1 : decode cX7_rules 1 = .ok (.ifCond .lt 8, 3) := by decide +kernel
theorem dX7_rules_4 : decode cX7_rules 4 = .ok (.iload_n 1, 1) := by decide +kernel
theorem dX7_rules_5 : decode cX7_rules 5 = .ok (.iconst 1, 1) := by decide +kernel
theorem dX7_rules_6 : decode cX7_rules 6 = .ok (.if_icmp .le 6, 3) := by decide +kernel
theorem dX7_rules_9 : decode cX7_rules 9 = .ok (.bipush (-2), 2) := by decide +kernel
theorem dX7_rules_11 : decode cX7_rules 11 = .ok (.ireturn, 1) := by decide +kernel
theorem dX7_rules_12 : decode cX7_rules 12 = .ok (.aload_n 0, 1) := by decide +kernel
theorem dX7_rules_13 : decode cX7_rules 13 = .ok (.invokevirtual 81, 3) := by decide +kernel
theorem dX7_rules_16 : decode cX7_rules 16 = .ok (.istore_n 2, 1) := by decide +kernel
theorem dX7_rules_17 : decode cX7_rules 17 = .ok (.aload_n 0, 1) := by decide +kernel
theorem dX7_rules_18 : decode cX7_rules 18 = .ok (.getfield 28, 3) := by decide +kernel
theorem dX7_rules_21 : decode cX7_rules 21 = .ok (.iload_n 1, 1) := by decide +kernel
theorem dX7_rules_22 : decode cX7_rules 22 = .ok (.iconst 1, 1) := by decide +kernel
theorem dX7_rules_23 : decode cX7_rules 23 = .ok (.if_icmp .ne 7, 3) := by decide +kernel
theorem dX7_rules_26 : decode cX7_rules 26 = .ok (.iconst 1, 1) := by decide +kernel
theorem dX7_rules_27 : decode cX7_rules 27 = .ok (.goto 4, 3) := by decide +kernel
theorem dX7_rules_30 : decode cX7_rules 30 = .ok (.iconst 0, 1) := by decide +kernel
theorem dX7_rules_31 : decode cX7_rules 31 = .ok (.putfield 85, 3) := by decide +kernel
theorem dX7_rules_34 : decode cX7_rules 34 = .ok (.iload_n 2, 1) := by decide +kernel
theorem dX7_rules_35 : decode cX7_rules 35 = .ok (.iload_n 1, 1) := by decide +kernel
theorem dX7_rules_36 : decode cX7_rules 36 = .ok (.if_icmp .eq 8, 3) := by decide +kernel
theorem dX7_rules_39 : decode cX7_rules 39 = .ok (.aload_n 0, 1) := by decide +kernel
theorem dX7_rules_40 : decode cX7_rules 40 = .ok (.iconst 1, 1) := by decide +kernel
theorem dX7_rules_41 : decode cX7_rules 41 = .ok (.putfield 57, 3) := by decide +kernel
theorem dX7_rules_44 : decode cX7_rules 44 = .ok (.iload_n 2, 1) := by decide +kernel
theorem dX7_rules_45 : decode cX7_rules 45 = .ok (.ireturn, 1) := by decide +kernel
set_option maxRecDepth 20000 in
theorem ggX7_swap_X7_isSector : GoodIn wsX7_swap wsX7_isSector := goodIn_r _ [6] (by decide +kernel) (by decide +kernel)
set_option maxRecDepth 20000 in
theorem gX7_swap_X7_isSector : GoodIn wsX7_swap (va_wsS RX7 88 yX7_isSector wsX7_isSector) := goodIn_app (goodIn_of _ (by decide +kernel)) ggX7_swap_X7_isSector
set_option maxRecDepth 20000 in
theorem ggX7_swap_X0_exchange : GoodIn wsX7_swap wsX0_exchange := goodIn_r _ [11, 12, 21] (by decide +kernel) (by decide +kernel)
set_option maxRecDepth 20000 in
theorem gX7_swap_X0_exchange : GoodIn wsX7_swap (wsV RX7 91 RX0 yX0_exchange wsX0_exchange) := goodIn_app (goodIn_of _ (by decide +kernel)) ggX7_swap_X0_exchange
theorem dX7_swap_0 : decode cX7_swap 0 = .ok (.iload_n 1, 1) := by decide +kernel
theorem dX7_swap_1 : decode cX7_swap 1 = .ok (.invokestatic 88, 3) := by decide +kernel
theorem dX7_swap_4 : decode cX7_swap 4 = .ok (.ifCond .eq 10, 3) := by decide +kernel
theorem dX7_swap_7 : decode cX7_swap 7 = .ok (.iload_n 2, 1) := by decide +kernel
theorem dX7_swap_8 : decode cX7_swap 8 = .ok (.invokestatic 88, 3) := by decide +kernel
theorem dX7_swap_11 : decode cX7_swap 11 = .ok (.ifCond .ne 6, 3) := by decide +kernel
theorem dX7_swap_14 : decode cX7_swap 14 = .ok (.bipush (-2), 2) := by decide +kernel
theorem dX7_swap_16 : decode cX7_swap 16 = .ok (.ireturn, 1) := by decide +kernel
theorem dX7_swap_17 : decode cX7_swap 17 = .ok (.aload_n 0, 1) := by decide +kernel
theorem dX7_swap_18 : decode cX7_swap 18 = .ok (.getfield 12, 3) := by decide +kernel
theorem dX7_swap_21 : decode cX7_swap 21 = .ok (.iload_n 1, 1) := by decide +kernel
theorem dX7_swap_22 : decode cX7_swap 22 = .ok (.iload_n 2, 1) := by decide +kernel
theorem dX7_swap_23 : decode cX7_swap 23 = .ok (.invokevirtual 91, 3) := by decide +kernel
theorem dX7_swap_26 : decode cX7_swap 26 = .ok (.iload_n 1, 1) := by decide +kernel
theorem dX7_swap_27 : decode cX7_swap 27 = .ok (.iload_n 2, 1) := by decide +kernel
theorem dX7_swap_28 : decode cX7_swap 28 = .ok (.if_icmp .eq 8, 3) := by decide +kernel
theorem dX7_swap_31 : decode cX7_swap 31 = .ok (.aload_n 0, 1) := by decide +kernel
theorem dX7_swap_32 : decode cX7_swap 32 = .ok (.iconst 1, 1) := by decide +kernel
theorem dX7_swap_33 : decode cX7_swap 33 = .ok (.putfield 57, 3) := by decide +kernel
theorem dX7_swap_36 : decode cX7_swap 36 = .ok (.iconst 1, 1) := by decide +kernel
theorem dX7_swap_37 : decode cX7_swap 37 = .ok (.ireturn, 1) := by decide +kernel
set_option maxRecDepth 20000 in
theorem ggX7_value_X7_isSector : GoodIn wsX7_value wsX7_isSector := goodIn_r _ [6] (by decide +kernel) (by decide +kernel)
set_option maxRecDepth 20000 in
theorem gX7_value_X7_isSector : GoodIn wsX7_value (va_wsS RX7 88 yX7_isSector wsX7_isSector) := goodIn_app (goodIn_of _ (by decide +kernel)) ggX7_value_X7_isSector
theorem dX7_value_0 : decode cX7_value 0 = .ok (.iload_n 1, 1) := by decide +kernel
theorem dX7_value_1 : decode cX7_value 1 = .ok (.invokestatic 88, 3) := by decide +kernel
theorem dX7_value_4 : decode cX7_value 4 = .ok (.ifCond .eq 15, 3) := by decide +kernel
theorem dX7_value_7 : decode cX7_value 7 = .ok (.aload_n 0, 1) := by decide +kernel
theorem dX7_value_8 : decode cX7_value 8 = .ok (.getfield 12, 3) := by decide +kernel
theorem dX7_value_11 : decode cX7_value 11 = .ok (.getfield 94, 3) := by decide +kernel
theorem dX7_value_14 : decode cX7_value 14 = .ok (.iload_n 1, 1) := by decide +kernel
theorem dX7_value_15 : decode cX7_value 15 = .ok (.iaload, 1) := by decide +kernel
theorem dX7_value_16 : decode cX7_value 16 = .ok (.goto 5, 3) := by decide +kernel
theorem dX7_value_19 : decode cX7_value 19 = .ok (.bipush (-2), 2) := by decide +kernel
theorem dX7_value_21 : decode cX7_value 21 = .ok (.ireturn, 1) := by decide +kernel
set_option maxRecDepth 20000 in
theorem ggX7_bed_X7_isBed : GoodIn wsX7_bed wsX7_isBed := goodIn_r _ [5, 6, 7, 4, 8] (by decide +kernel) (by decide +kernel)
set_option maxRecDepth 20000 in
theorem gX7_bed_X7_isBed : GoodIn wsX7_bed (va_wsS RX7 97 yX7_isBed wsX7_isBed) := goodIn_app (goodIn_of _ (by decide +kernel)) ggX7_bed_X7_isBed
set_option maxRecDepth 20000 in
theorem ggX7_bed_X0_countOf : GoodIn wsX7_bed wsX0_countOf := goodIn_r _ [13, 14, 23] (by decide +kernel) (by decide +kernel)
set_option maxRecDepth 20000 in
theorem gX7_bed_X0_countOf : GoodIn wsX7_bed (wsV RX7 101 RX0 yX0_countOf wsX0_countOf) := goodIn_app (goodIn_of _ (by decide +kernel)) ggX7_bed_X0_countOf
theorem dX7_bed_0 : decode cX7_bed 0 = .ok (.iload_n 1, 1) := by decide +kernel
theorem dX7_bed_1 : decode cX7_bed 1 = .ok (.iload_n 2, 1) := by decide +kernel
theorem dX7_bed_2 : decode cX7_bed 2 = .ok (.invokestatic 97, 3) := by decide +kernel
theorem dX7_bed_5 : decode cX7_bed 5 = .ok (.ifCond .eq 19, 3) := by decide +kernel
theorem dX7_bed_8 : decode cX7_bed 8 = .ok (.aload_n 0, 1) := by decide +kernel
theorem dX7_bed_9 : decode cX7_bed 9 = .ok (.getfield 12, 3) := by decide +kernel
theorem dX7_bed_12 : decode cX7_bed 12 = .ok (.bipush 20, 2) := by decide +kernel
theorem dX7_bed_14 : decode cX7_bed 14 = .ok (.iload_n 1, 1) := by decide +kernel
theorem dX7_bed_15 : decode cX7_bed 15 = .ok (.imul, 1) := by decide +kernel
theorem dX7_bed_16 : decode cX7_bed 16 = .ok (.iload_n 2, 1) := by decide +kernel
theorem dX7_bed_17 : decode cX7_bed 17 = .ok (.iadd, 1) := by decide +kernel
theorem dX7_bed_18 : decode cX7_bed 18 = .ok (.invokevirtual 101, 3) := by decide +kernel
theorem dX7_bed_21 : decode cX7_bed 21 = .ok (.goto 5, 3) := by decide +kernel
theorem dX7_bed_24 : decode cX7_bed 24 = .ok (.bipush (-2), 2) := by decide +kernel
theorem dX7_bed_26 : decode cX7_bed 26 = .ok (.ireturn, 1) := by decide +kernel
set_option maxRecDepth 20000 in
theorem ggX7_lands_X7_isAim : GoodIn wsX7_lands wsX7_isAim := goodIn_r _ [6] (by decide +kernel) (by decide +kernel)
set_option maxRecDepth 20000 in
theorem gX7_lands_X7_isAim : GoodIn wsX7_lands (va_wsS RX7 105 yX7_isAim wsX7_isAim) := goodIn_app (goodIn_of _ (by decide +kernel)) ggX7_lands_X7_isAim
set_option maxRecDepth 20000 in
theorem ggX7_lands_X7_isBed : GoodIn wsX7_lands wsX7_isBed := goodIn_r _ [9, 10, 11, 5, 12] (by decide +kernel) (by decide +kernel)
set_option maxRecDepth 20000 in
theorem gX7_lands_X7_isBed : GoodIn wsX7_lands (va_wsS RX7 97 yX7_isBed wsX7_isBed) := goodIn_app (goodIn_of _ (by decide +kernel)) ggX7_lands_X7_isBed
set_option maxRecDepth 20000 in
theorem ggX7_lands_X7_bedFrom : GoodIn wsX7_lands wsX7_bedFrom := goodIn_r _ [15, 16, 17, 18, 19, 20, 21, 22, 23] (by decide +kernel) (by decide +kernel)
set_option maxRecDepth 20000 in
theorem gX7_lands_X7_bedFrom : GoodIn wsX7_lands (va_wsS RX7 108 yX7_bedFrom wsX7_bedFrom) := goodIn_app (goodIn_of _ (by decide +kernel)) ggX7_lands_X7_bedFrom
set_option maxRecDepth 20000 in
theorem ggX7_lands_X7_isSameBed : GoodIn wsX7_lands wsX7_isSameBed := goodIn_r _ [26] (by decide +kernel) (by decide +kernel)
set_option maxRecDepth 20000 in
theorem gX7_lands_X7_isSameBed : GoodIn wsX7_lands (va_wsS RX7 112 yX7_isSameBed wsX7_isSameBed) := goodIn_app (goodIn_of _ (by decide +kernel)) ggX7_lands_X7_isSameBed
theorem dX7_lands_0 : decode cX7_lands 0 = .ok (.iload_n 1, 1) := by decide +kernel
theorem dX7_lands_1 : decode cX7_lands 1 = .ok (.invokestatic 105, 3) := by decide +kernel
theorem dX7_lands_4 : decode cX7_lands 4 = .ok (.ifCond .eq 11, 3) := by decide +kernel
theorem dX7_lands_7 : decode cX7_lands 7 = .ok (.iload_n 2, 1) := by decide +kernel
theorem dX7_lands_8 : decode cX7_lands 8 = .ok (.iload_n 3, 1) := by decide +kernel
theorem dX7_lands_9 : decode cX7_lands 9 = .ok (.invokestatic 97, 3) := by decide +kernel
theorem dX7_lands_12 : decode cX7_lands 12 = .ok (.ifCond .ne 6, 3) := by decide +kernel
theorem dX7_lands_15 : decode cX7_lands 15 = .ok (.bipush (-2), 2) := by decide +kernel
theorem dX7_lands_17 : decode cX7_lands 17 = .ok (.ireturn, 1) := by decide +kernel
theorem dX7_lands_18 : decode cX7_lands 18 = .ok (.bipush 20, 2) := by decide +kernel
theorem dX7_lands_20 : decode cX7_lands 20 = .ok (.iload_n 2, 1) := by decide +kernel
theorem dX7_lands_21 : decode cX7_lands 21 = .ok (.imul, 1) := by decide +kernel
theorem dX7_lands_22 : decode cX7_lands 22 = .ok (.iload_n 3, 1) := by decide +kernel
theorem dX7_lands_23 : decode cX7_lands 23 = .ok (.iadd, 1) := by decide +kernel
theorem dX7_lands_24 : decode cX7_lands 24 = .ok (.istore 4, 2) := by decide +kernel
theorem dX7_lands_26 : decode cX7_lands 26 = .ok (.iconst 0, 1) := by decide +kernel
theorem dX7_lands_27 : decode cX7_lands 27 = .ok (.istore 5, 2) := by decide +kernel
theorem dX7_lands_29 : decode cX7_lands 29 = .ok (.iconst 0, 1) := by decide +kernel
theorem dX7_lands_30 : decode cX7_lands 30 = .ok (.istore 6, 2) := by decide +kernel
theorem dX7_lands_32 : decode cX7_lands 32 = .ok (.iload 6, 2) := by decide +kernel
theorem dX7_lands_34 : decode cX7_lands 34 = .ok (.bipush 25, 2) := by decide +kernel
theorem dX7_lands_36 : decode cX7_lands 36 = .ok (.if_icmp .ge 38, 3) := by decide +kernel
theorem dX7_lands_39 : decode cX7_lands 39 = .ok (.iload_n 1, 1) := by decide +kernel
theorem dX7_lands_40 : decode cX7_lands 40 = .ok (.iload 6, 2) := by decide +kernel
theorem dX7_lands_42 : decode cX7_lands 42 = .ok (.invokestatic 108, 3) := by decide +kernel
theorem dX7_lands_45 : decode cX7_lands 45 = .ok (.iload 4, 2) := by decide +kernel
theorem dX7_lands_47 : decode cX7_lands 47 = .ok (.invokestatic 112, 3) := by decide +kernel
theorem dX7_lands_50 : decode cX7_lands 50 = .ok (.ifCond .eq 18, 3) := by decide +kernel
theorem dX7_lands_53 : decode cX7_lands 53 = .ok (.iload 5, 2) := by decide +kernel
theorem dX7_lands_55 : decode cX7_lands 55 = .ok (.aload_n 0, 1) := by decide +kernel
theorem dX7_lands_56 : decode cX7_lands 56 = .ok (.getfield 19, 3) := by decide +kernel
theorem dX7_lands_59 : decode cX7_lands 59 = .ok (.getfield 69, 3) := by decide +kernel
theorem dX7_lands_62 : decode cX7_lands 62 = .ok (.iload 6, 2) := by decide +kernel
theorem dX7_lands_64 : decode cX7_lands 64 = .ok (.iaload, 1) := by decide +kernel
theorem dX7_lands_65 : decode cX7_lands 65 = .ok (.iadd, 1) := by decide +kernel
theorem dX7_lands_66 : decode cX7_lands 66 = .ok (.istore 5, 2) := by decide +kernel
theorem dX7_lands_68 : decode cX7_lands 68 = .ok (.iinc 6 1, 3) := by decide +kernel
theorem dX7_lands_71 : decode cX7_lands 71 = .ok (.goto (-39), 3) := by decide +kernel
theorem dX7_lands_74 : decode cX7_lands 74 = .ok (.iload 5, 2) := by decide +kernel
theorem dX7_lands_76 : decode cX7_lands 76 = .ok (.ireturn, 1) := by decide +kernel
set_option maxRecDepth 20000 in
theorem ggX7_mean_X7_isAim : GoodIn wsX7_mean wsX7_isAim := goodIn_r _ [4] (by decide +kernel) (by decide +kernel)
set_option maxRecDepth 20000 in
theorem gX7_mean_X7_isAim : GoodIn wsX7_mean (va_wsS RX7 105 yX7_isAim wsX7_isAim) := goodIn_app (goodIn_of _ (by decide +kernel)) ggX7_mean_X7_isAim
set_option maxRecDepth 20000 in
theorem ggX7_mean_X7_weighedCount : GoodIn wsX7_mean wsX7_weighedCount := goodIn_r _ [8, 9, 10, 11, 12, 13, 3, 14, 15, 16, 17, 18, 19, 20, 21, 22, 23, 24, 25, 26, 27, 28, 29, 30, 31, 32, 33, 34, 35, 36, 37, 38, 39] (by decide +kernel) (by decide +kernel)
set_option maxRecDepth 20000 in
theorem gX7_mean_X7_weighedCount : GoodIn wsX7_mean (wsV RX7 115 RX7 yX7_weighedCount wsX7_weighedCount) := goodIn_app (goodIn_of _ (by decide +kernel)) ggX7_mean_X7_weighedCount
theorem dX7_mean_0 : decode cX7_mean 0 = .ok (.iload_n 1, 1) := by decide +kernel
theorem dX7_mean_1 : decode cX7_mean 1 = .ok (.invokestatic 105, 3) := by decide +kernel
theorem dX7_mean_4 : decode cX7_mean 4 = .ok (.ifCond .eq 11, 3) := by decide +kernel
theorem dX7_mean_7 : decode cX7_mean 7 = .ok (.aload_n 0, 1) := by decide +kernel
theorem dX7_mean_8 : decode cX7_mean 8 = .ok (.iload_n 1, 1) := by decide +kernel
theorem dX7_mean_9 : decode cX7_mean 9 = .ok (.invokevirtual 115, 3) := by decide +kernel
theorem dX7_mean_12 : decode cX7_mean 12 = .ok (.goto 5, 3) := by decide +kernel
theorem dX7_mean_15 : decode cX7_mean 15 = .ok (.bipush (-2), 2) := by decide +kernel
theorem dX7_mean_17 : decode cX7_mean 17 = .ok (.ireturn, 1) := by decide +kernel
set_option maxRecDepth 20000 in
theorem ggX7_best_X7_weighedCount : GoodIn wsX7_best wsX7_weighedCount := goodIn_r _ [5, 6, 7, 8, 9, 10, 4, 11, 12, 13, 14, 15, 16, 17, 18, 19, 20, 21, 22, 23, 24, 25, 26, 27, 28, 29, 30, 31, 32, 33, 34, 35, 36] (by decide +kernel) (by decide +kernel)
set_option maxRecDepth 20000 in
theorem gX7_best_X7_weighedCount : GoodIn wsX7_best (wsV RX7 115 RX7 yX7_weighedCount wsX7_weighedCount) := goodIn_app (goodIn_of _ (by decide +kernel)) ggX7_best_X7_weighedCount
theorem dX7_best_0 : decode cX7_best 0 = .ok (.iconst 0, 1) := by decide +kernel
theorem dX7_best_1 : decode cX7_best 1 = .ok (.istore_n 1, 1) := by decide +kernel
theorem dX7_best_2 : decode cX7_best 2 = .ok (.iconst (-1), 1) := by decide +kernel
theorem dX7_best_3 : decode cX7_best 3 = .ok (.istore_n 2, 1) := by decide +kernel
theorem dX7_best_4 : decode cX7_best 4 = .ok (.iconst 0, 1) := by decide +kernel
theorem dX7_best_5 : decode cX7_best 5 = .ok (.istore_n 3, 1) := by decide +kernel
theorem dX7_best_6 : decode cX7_best 6 = .ok (.iload_n 3, 1) := by decide +kernel
theorem dX7_best_7 : decode cX7_best 7 = .ok (.bipush 120, 2) := by decide +kernel
theorem dX7_best_9 : decode cX7_best 9 = .ok (.if_icmp .ge 27, 3) := by decide +kernel
theorem dX7_best_12 : decode cX7_best 12 = .ok (.aload_n 0, 1) := by decide +kernel
theorem dX7_best_13 : decode cX7_best 13 = .ok (.iload_n 3, 1) := by decide +kernel
theorem dX7_best_14 : decode cX7_best 14 = .ok (.invokevirtual 115, 3) := by decide +kernel
theorem dX7_best_17 : decode cX7_best 17 = .ok (.istore 4, 2) := by decide +kernel
theorem dX7_best_19 : decode cX7_best 19 = .ok (.iload 4, 2) := by decide +kernel
theorem dX7_best_21 : decode cX7_best 21 = .ok (.iload_n 2, 1) := by decide +kernel
theorem dX7_best_22 : decode cX7_best 22 = .ok (.if_icmp .le 8, 3) := by decide +kernel
theorem dX7_best_25 : decode cX7_best 25 = .ok (.iload 4, 2) := by decide +kernel
theorem dX7_best_27 : decode cX7_best 27 = .ok (.istore_n 2, 1) := by decide +kernel
theorem dX7_best_28 : decode cX7_best 28 = .ok (.iload_n 3, 1) := by decide +kernel
theorem dX7_best_29 : decode cX7_best 29 = .ok (.istore_n 1, 1) := by decide +kernel
theorem dX7_best_30 : decode cX7_best 30 = .ok (.iinc 3 1, 3) := by decide +kernel
theorem dX7_best_33 : decode cX7_best 33 = .ok (.goto (-27), 3) := by decide +kernel
theorem dX7_best_36 : decode cX7_best 36 = .ok (.iload_n 1, 1) := by decide +kernel
theorem dX7_best_37 : decode cX7_best 37 = .ok (.ireturn, 1) := by decide +kernel
set_option maxRecDepth 20000 in
theorem ggX7_ways_X7_isLeft : GoodIn wsX7_ways wsX7_isLeft := goodIn_r _ [6] (by decide +kernel) (by decide +kernel)
set_option maxRecDepth 20000 in
theorem gX7_ways_X7_isLeft : GoodIn wsX7_ways (va_wsS RX7 118 yX7_isLeft wsX7_isLeft) := goodIn_app (goodIn_of _ (by decide +kernel)) ggX7_ways_X7_isLeft
set_option maxRecDepth 20000 in
theorem ggX7_ways_X7_isDarts : GoodIn wsX7_ways wsX7_isDarts := goodIn_r _ [9] (by decide +kernel) (by decide +kernel)
set_option maxRecDepth 20000 in
theorem gX7_ways_X7_isDarts : GoodIn wsX7_ways (va_wsS RX7 121 yX7_isDarts wsX7_isDarts) := goodIn_app (goodIn_of _ (by decide +kernel)) ggX7_ways_X7_isDarts
set_option maxRecDepth 20000 in
theorem ggX7_ways_X7_makeReady : GoodIn wsX7_ways wsX7_makeReady := goodIn_r _ [13, 14, 15, 2, 16, 17, 18, 19, 20, 21, 22, 23, 24, 25, 26, 27, 28, 29, 30, 31, 32, 33, 34, 35, 5, 36, 37, 38, 39, 40, 41, 42, 43, 44, 45, 46, 47, 48, 49, 50, 51, 52, 53, 54, 55, 56, 57, 58, 59, 60, 61, 62, 63, 64, 65, 66, 67, 68, 69, 70, 71, 72, 73, 74, 75, 76, 77, 78, 79, 80, 81, 82, 83, 84, 85, 86, 120, 121, 122, 123, 124, 125, 126, 127, 128, 129, 130, 131, 132, 133, 134, 135, 136, 137, 138, 139, 140, 141, 142, 143, 144, 145, 146, 147, 148, 149, 150, 151] (by decide +kernel) (by decide +kernel)
set_option maxRecDepth 20000 in
theorem gX7_ways_X7_makeReady : GoodIn wsX7_ways (wsV RX7 126 RX7 yX7_makeReady wsX7_makeReady) := goodIn_app (goodIn_of _ (by decide +kernel)) ggX7_ways_X7_makeReady
set_option maxRecDepth 20000 in
theorem ggX7_ways_X5_mostRows : GoodIn wsX7_ways wsX5_mostRows := goodIn_r _ [90, 61, 91, 92, 93, 58, 94, 62, 60, 95, 96, 39, 97, 98, 99, 100, 101, 102, 103, 104, 105, 106, 107, 108, 109, 110, 111, 112, 113, 114, 115, 116, 117, 21, 118, 119, 138, 139, 140, 141, 128, 129, 130, 131, 132, 133, 134] (by decide +kernel) (by decide +kernel)
set_option maxRecDepth 20000 in
theorem gX7_ways_X5_mostRows : GoodIn wsX7_ways (wsV RX7 129 RX5 yX5_mostRows wsX5_mostRows) := goodIn_app (goodIn_of _ (by decide +kernel)) ggX7_ways_X5_mostRows
theorem dX7_ways_0 : decode cX7_ways 0 = .ok (.iload_n 1, 1) := by decide +kernel
theorem dX7_ways_1 : decode cX7_ways 1 = .ok (.invokestatic 118, 3) := by decide +kernel
theorem dX7_ways_4 : decode cX7_ways 4 = .ok (.ifCond .eq 10, 3) := by decide +kernel
theorem dX7_ways_7 : decode cX7_ways 7 = .ok (.iload_n 2, 1) := by decide +kernel
theorem dX7_ways_8 : decode cX7_ways 8 = .ok (.invokestatic 121, 3) := by decide +kernel
theorem dX7_ways_11 : decode cX7_ways 11 = .ok (.ifCond .ne 7, 3) := by decide +kernel
theorem dX7_ways_14 : decode cX7_ways 14 = .ok (.ldc2_w 124, 3) := by decide +kernel
theorem dX7_ways_17 : decode cX7_ways 17 = .ok (.lreturn, 1) := by decide +kernel
theorem dX7_ways_18 : decode cX7_ways 18 = .ok (.aload_n 0, 1) := by decide +kernel
theorem dX7_ways_19 : decode cX7_ways 19 = .ok (.invokevirtual 126, 3) := by decide +kernel
theorem dX7_ways_22 : decode cX7_ways 22 = .ok (.aload_n 0, 1) := by decide +kernel
theorem dX7_ways_23 : decode cX7_ways 23 = .ok (.getfield 37, 3) := by decide +kernel
theorem dX7_ways_26 : decode cX7_ways 26 = .ok (.iload_n 1, 1) := by decide +kernel
theorem dX7_ways_27 : decode cX7_ways 27 = .ok (.iload_n 2, 1) := by decide +kernel
theorem dX7_ways_28 : decode cX7_ways 28 = .ok (.invokevirtual 129, 3) := by decide +kernel
theorem dX7_ways_31 : decode cX7_ways 31 = .ok (.lreturn, 1) := by decide +kernel
set_option maxRecDepth 20000 in
theorem ggX7_wayAim_X7_isLeft : GoodIn wsX7_wayAim wsX7_isLeft := goodIn_r _ [5] (by decide +kernel) (by decide +kernel)
set_option maxRecDepth 20000 in
theorem gX7_wayAim_X7_isLeft : GoodIn wsX7_wayAim (va_wsS RX7 118 yX7_isLeft wsX7_isLeft) := goodIn_app (goodIn_of _ (by decide +kernel)) ggX7_wayAim_X7_isLeft
set_option maxRecDepth 20000 in
theorem ggX7_wayAim_X7_isDarts : GoodIn wsX7_wayAim wsX7_isDarts := goodIn_r _ [8] (by decide +kernel) (by decide +kernel)
set_option maxRecDepth 20000 in
theorem gX7_wayAim_X7_isDarts : GoodIn wsX7_wayAim (va_wsS RX7 121 yX7_isDarts wsX7_isDarts) := goodIn_app (goodIn_of _ (by decide +kernel)) ggX7_wayAim_X7_isDarts
set_option maxRecDepth 20000 in
theorem ggX7_wayAim_X7_makeReady : GoodIn wsX7_wayAim wsX7_makeReady := goodIn_r _ [12, 13, 14, 1, 15, 16, 17, 18, 19, 20, 21, 22, 23, 24, 25, 26, 27, 28, 29, 30, 31, 32, 33, 34, 4, 35, 36, 37, 38, 39, 40, 41, 42, 43, 44, 45, 46, 47, 48, 49, 50, 51, 52, 53, 54, 55, 56, 57, 58, 59, 60, 61, 62, 63, 64, 65, 66, 67, 68, 69, 70, 71, 72, 73, 74, 75, 76, 77, 78, 79, 80, 81, 82, 83, 84, 85, 119, 120, 121, 122, 123, 124, 125, 126, 127, 128, 129, 130, 131, 132, 133, 134, 135, 136, 137, 138, 139, 140, 141, 142, 143, 144, 145, 146, 147, 148, 149, 150] (by decide +kernel) (by decide +kernel)
set_option maxRecDepth 20000 in
theorem gX7_wayAim_X7_makeReady : GoodIn wsX7_wayAim (wsV RX7 126 RX7 yX7_makeReady wsX7_makeReady) := goodIn_app (goodIn_of _ (by decide +kernel)) ggX7_wayAim_X7_makeReady
set_option maxRecDepth 20000 in
theorem ggX7_wayAim_X5_firstAim : GoodIn wsX7_wayAim wsX5_firstAim := goodIn_r _ [89, 90, 91, 92, 93, 57, 94, 60, 61, 59, 95, 96, 38, 97, 98, 99, 100, 101, 102, 103, 104, 105, 106, 107, 108, 109, 110, 111, 112, 113, 114, 115, 116, 20, 117, 118, 137, 138, 139, 140, 127, 128, 129, 130, 131, 132, 133] (by decide +kernel) (by decide +kernel)
set_option maxRecDepth 20000 in
theorem gX7_wayAim_X5_firstAim : GoodIn wsX7_wayAim (wsV RX7 133 RX5 yX5_firstAim wsX5_firstAim) := goodIn_app (goodIn_of _ (by decide +kernel)) ggX7_wayAim_X5_firstAim
theorem dX7_wayAim_0 : decode cX7_wayAim 0 = .ok (.iload_n 1, 1) := by decide +kernel
theorem dX7_wayAim_1 : decode cX7_wayAim 1 = .ok (.invokestatic 118, 3) := by decide +kernel
theorem dX7_wayAim_4 : decode cX7_wayAim 4 = .ok (.ifCond .eq 10, 3) := by decide +kernel
theorem dX7_wayAim_7 : decode cX7_wayAim 7 = .ok (.iload_n 2, 1) := by decide +kernel
theorem dX7_wayAim_8 : decode cX7_wayAim 8 = .ok (.invokestatic 121, 3) := by decide +kernel
theorem dX7_wayAim_11 : decode cX7_wayAim 11 = .ok (.ifCond .ne 6, 3) := by decide +kernel
theorem dX7_wayAim_14 : decode cX7_wayAim 14 = .ok (.bipush (-2), 2) := by decide +kernel
theorem dX7_wayAim_16 : decode cX7_wayAim 16 = .ok (.ireturn, 1) := by decide +kernel
theorem dX7_wayAim_17 : decode cX7_wayAim 17 = .ok (.aload_n 0, 1) := by decide +kernel
theorem dX7_wayAim_18 : decode cX7_wayAim 18 = .ok (.invokevirtual 126, 3) := by decide +kernel
theorem dX7_wayAim_21 : decode cX7_wayAim 21 = .ok (.aload_n 0, 1) := by decide +kernel
theorem dX7_wayAim_22 : decode cX7_wayAim 22 = .ok (.getfield 37, 3) := by decide +kernel
theorem dX7_wayAim_25 : decode cX7_wayAim 25 = .ok (.iload_n 1, 1) := by decide +kernel
theorem dX7_wayAim_26 : decode cX7_wayAim 26 = .ok (.iload_n 2, 1) := by decide +kernel
theorem dX7_wayAim_27 : decode cX7_wayAim 27 = .ok (.invokevirtual 133, 3) := by decide +kernel
theorem dX7_wayAim_30 : decode cX7_wayAim 30 = .ok (.ireturn, 1) := by decide +kernel
set_option maxRecDepth 20000 in
theorem ggX7_hopeless_X7_isDarts : GoodIn wsX7_hopeless wsX7_isDarts := goodIn_r _ [5] (by decide +kernel) (by decide +kernel)
set_option maxRecDepth 20000 in
theorem gX7_hopeless_X7_isDarts : GoodIn wsX7_hopeless (va_wsS RX7 121 yX7_isDarts wsX7_isDarts) := goodIn_app (goodIn_of _ (by decide +kernel)) ggX7_hopeless_X7_isDarts
set_option maxRecDepth 20000 in
theorem ggX7_hopeless_X7_makeReady : GoodIn wsX7_hopeless wsX7_makeReady := goodIn_r _ [9, 10, 11, 1, 12, 13, 14, 15, 16, 17, 18, 19, 20, 21, 22, 23, 24, 25, 26, 27, 28, 29, 30, 31, 4, 32, 33, 34, 35, 36, 37, 38, 39, 40, 41, 42, 43, 44, 45, 46, 47, 48, 49, 50, 51, 52, 53, 54, 55, 56, 57, 58, 59, 60, 61, 62, 63, 64, 65, 66, 67, 68, 69, 70, 71, 72, 73, 74, 75, 76, 77, 78, 79, 80, 81, 82, 116, 117, 118, 119, 120, 121, 122, 123, 124, 125, 126, 127, 128, 129, 130, 131, 132, 133, 134, 135, 136, 137, 138, 139, 140, 141, 142, 143, 144, 145, 146, 147] (by decide +kernel) (by decide +kernel)
set_option maxRecDepth 20000 in
theorem gX7_hopeless_X7_makeReady : GoodIn wsX7_hopeless (wsV RX7 126 RX7 yX7_makeReady wsX7_makeReady) := goodIn_app (goodIn_of _ (by decide +kernel)) ggX7_hopeless_X7_makeReady
set_option maxRecDepth 20000 in
theorem ggX7_hopeless_X5_mostRows : GoodIn wsX7_hopeless wsX5_mostRows := goodIn_r _ [86, 57, 87, 88, 89, 54, 90, 58, 56, 91, 92, 35, 93, 94, 95, 96, 97, 98, 99, 100, 101, 102, 103, 104, 105, 106, 107, 108, 109, 110, 111, 112, 113, 17, 114, 115, 134, 135, 136, 137, 124, 125, 126, 127, 128, 129, 130] (by decide +kernel) (by decide +kernel)
set_option maxRecDepth 20000 in
theorem gX7_hopeless_X5_mostRows : GoodIn wsX7_hopeless (wsV RX7 129 RX5 yX5_mostRows wsX5_mostRows) := goodIn_app (goodIn_of _ (by decide +kernel)) ggX7_hopeless_X5_mostRows
theorem dX7_hopeless_0 : decode cX7_hopeless 0 = .ok (.iload_n 1, 1) := by decide +kernel
theorem dX7_hopeless_1 : decode cX7_hopeless 1 = .ok (.invokestatic 121, 3) := by decide +kernel
theorem dX7_hopeless_4 : decode cX7_hopeless 4 = .ok (.ifCond .ne 6, 3) := by decide +kernel
theorem dX7_hopeless_7 : decode cX7_hopeless 7 = .ok (.bipush (-2), 2) := by decide +kernel
theorem dX7_hopeless_9 : decode cX7_hopeless 9 = .ok (.ireturn, 1) := by decide +kernel
theorem dX7_hopeless_10 : decode cX7_hopeless 10 = .ok (.aload_n 0, 1) := by decide +kernel
theorem dX7_hopeless_11 : decode cX7_hopeless 11 = .ok (.invokevirtual 126, 3) := by decide +kernel
theorem dX7_hopeless_14 : decode cX7_hopeless 14 = .ok (.iconst 0, 1) := by decide +kernel
theorem dX7_hopeless_15 : decode cX7_hopeless 15 = .ok (.istore_n 2, 1) := by decide +kernel
theorem dX7_hopeless_16 : decode cX7_hopeless 16 = .ok (.iconst 1, 1) := by decide +kernel
theorem dX7_hopeless_17 : decode cX7_hopeless 17 = .ok (.istore_n 3, 1) := by decide +kernel
theorem dX7_hopeless_18 : decode cX7_hopeless 18 = .ok (.iload_n 3, 1) := by decide +kernel
theorem dX7_hopeless_19 : decode cX7_hopeless 19 = .ok (.sipush 180, 3) := by decide +kernel
theorem dX7_hopeless_22 : decode cX7_hopeless 22 = .ok (.if_icmp .gt 26, 3) := by decide +kernel
theorem dX7_hopeless_25 : decode cX7_hopeless 25 = .ok (.aload_n 0, 1) := by decide +kernel
theorem dX7_hopeless_26 : decode cX7_hopeless 26 = .ok (.getfield 37, 3) := by decide +kernel
theorem dX7_hopeless_29 : decode cX7_hopeless 29 = .ok (.iload_n 3, 1) := by decide +kernel
theorem dX7_hopeless_30 : decode cX7_hopeless 30 = .ok (.iload_n 1, 1) := by decide +kernel
theorem dX7_hopeless_31 : decode cX7_hopeless 31 = .ok (.invokevirtual 129, 3) := by decide +kernel
theorem dX7_hopeless_34 : decode cX7_hopeless 34 = .ok (.lconst 0, 1) := by decide +kernel
theorem dX7_hopeless_35 : decode cX7_hopeless 35 = .ok (.lcmp, 1) := by decide +kernel
theorem dX7_hopeless_36 : decode cX7_hopeless 36 = .ok (.ifCond .ne 6, 3) := by decide +kernel
theorem dX7_hopeless_39 : decode cX7_hopeless 39 = .ok (.iinc 2 1, 3) := by decide +kernel
theorem dX7_hopeless_42 : decode cX7_hopeless 42 = .ok (.iinc 3 1, 3) := by decide +kernel
theorem dX7_hopeless_45 : decode cX7_hopeless 45 = .ok (.goto (-27), 3) := by decide +kernel
theorem dX7_hopeless_48 : decode cX7_hopeless 48 = .ok (.iload_n 2, 1) := by decide +kernel
theorem dX7_hopeless_49 : decode cX7_hopeless 49 = .ok (.ireturn, 1) := by decide +kernel
set_option maxRecDepth 20000 in
theorem ggX7_throwsOf_X7_isLeft : GoodIn wsX7_throwsOf wsX7_isLeft := goodIn_r _ [8] (by decide +kernel) (by decide +kernel)
set_option maxRecDepth 20000 in
theorem gX7_throwsOf_X7_isLeft : GoodIn wsX7_throwsOf (va_wsS RX7 118 yX7_isLeft wsX7_isLeft) := goodIn_app (goodIn_of _ (by decide +kernel)) ggX7_throwsOf_X7_isLeft
set_option maxRecDepth 20000 in
theorem ggX7_throwsOf_X7_makeReady : GoodIn wsX7_throwsOf wsX7_makeReady := goodIn_r _ [12, 13, 14, 15, 2, 16, 17, 18, 19, 20, 21, 22, 23, 24, 25, 26, 27, 28, 29, 30, 31, 32, 33, 34, 7, 35, 36, 37, 38, 39, 40, 41, 42, 43, 44, 45, 46, 47, 48, 49, 50, 51, 52, 53, 54, 55, 56, 57, 58, 59, 60, 61, 62, 63, 64, 65, 66, 67, 68, 69, 70, 71, 72, 73, 74, 75, 76, 77, 78, 79, 80, 81, 82, 83, 84, 85, 124, 125, 126, 127, 128, 129, 130, 131, 138, 139, 140, 141, 142, 143, 144, 145, 146, 147, 148, 149, 150, 151, 132, 133, 134, 135, 136, 137, 152, 153, 154, 155] (by decide +kernel) (by decide +kernel)
set_option maxRecDepth 20000 in
theorem gX7_throwsOf_X7_makeReady : GoodIn wsX7_throwsOf (wsV RX7 126 RX7 yX7_makeReady wsX7_makeReady) := goodIn_app (goodIn_of _ (by decide +kernel)) ggX7_throwsOf_X7_makeReady
set_option maxRecDepth 20000 in
theorem ggX7_throwsOf_X4_settleUpTo : GoodIn wsX7_throwsOf wsX4_settleUpTo := goodIn_r _ [89, 71, 90, 91, 92, 69, 93, 94, 95, 96, 97, 98, 99, 100, 101, 102, 103, 104, 105, 106, 107, 108, 109, 20, 110, 111, 112, 113, 114, 115, 132, 133, 134, 135, 136, 137, 138, 139, 140, 141, 142, 143, 144] (by decide +kernel) (by decide +kernel)
set_option maxRecDepth 20000 in
theorem gX7_throwsOf_X4_settleUpTo : GoodIn wsX7_throwsOf (wsV RX7 136 RX4 yX4_settleUpTo wsX4_settleUpTo) := goodIn_app (goodIn_of _ (by decide +kernel)) ggX7_throwsOf_X4_settleUpTo
set_option maxRecDepth 20000 in
theorem ggX7_throwsOf_X4_hasNone : GoodIn wsX7_throwsOf wsX4_hasNone := goodIn_r _ [115, 94, 132, 133, 134, 135, 136, 137] (by decide +kernel) (by decide +kernel)
set_option maxRecDepth 20000 in
theorem gX7_throwsOf_X4_hasNone : GoodIn wsX7_throwsOf (wsV RX7 140 RX4 yX4_hasNone wsX4_hasNone) := goodIn_app (goodIn_of _ (by decide +kernel)) ggX7_throwsOf_X4_hasNone
set_option maxRecDepth 20000 in
theorem ggX7_throwsOf_X7_bitsOf : GoodIn wsX7_throwsOf wsX7_bitsOf := goodIn_r _ [119, 120, 121, 122, 123] (by decide +kernel) (by decide +kernel)
set_option maxRecDepth 20000 in
theorem gX7_throwsOf_X7_bitsOf : GoodIn wsX7_throwsOf (va_wsS RX7 149 yX7_bitsOf wsX7_bitsOf) := goodIn_app (goodIn_of _ (by decide +kernel)) ggX7_throwsOf_X7_bitsOf
theorem dX7_throwsOf_0 : decode cX7_throwsOf 0 = .ok (.iload_n 1, 1) := by decide +kernel
theorem dX7_throwsOf_1 : decode cX7_throwsOf 1 = .ok (.invokestatic 118, 3) := by decide +kernel
theorem dX7_throwsOf_4 : decode cX7_throwsOf 4 = .ok (.ifCond .ne 7, 3) := by decide +kernel
theorem dX7_throwsOf_7 : decode cX7_throwsOf 7 = .ok (.ldc2_w 124, 3) := by decide +kernel
theorem dX7_throwsOf_10 : decode cX7_throwsOf 10 = .ok (.lreturn, 1) := by decide +kernel
theorem dX7_throwsOf_11 : decode cX7_throwsOf 11 = .ok (.aload_n 0, 1) := by decide +kernel
theorem dX7_throwsOf_12 : decode cX7_throwsOf 12 = .ok (.invokevirtual 126, 3) := by decide +kernel
theorem dX7_throwsOf_15 : decode cX7_throwsOf 15 = .ok (.aload_n 0, 1) := by decide +kernel
theorem dX7_throwsOf_16 : decode cX7_throwsOf 16 = .ok (.getfield 44, 3) := by decide +kernel
theorem dX7_throwsOf_19 : decode cX7_throwsOf 19 = .ok (.iload_n 1, 1) := by decide +kernel
theorem dX7_throwsOf_20 : decode cX7_throwsOf 20 = .ok (.invokevirtual 136, 3) := by decide +kernel
theorem dX7_throwsOf_23 : decode cX7_throwsOf 23 = .ok (.aload_n 0, 1) := by decide +kernel
theorem dX7_throwsOf_24 : decode cX7_throwsOf 24 = .ok (.getfield 44, 3) := by decide +kernel
theorem dX7_throwsOf_27 : decode cX7_throwsOf 27 = .ok (.iload_n 1, 1) := by decide +kernel
theorem dX7_throwsOf_28 : decode cX7_throwsOf 28 = .ok (.invokevirtual 140, 3) := by decide +kernel
theorem dX7_throwsOf_31 : decode cX7_throwsOf 31 = .ok (.ifCond .eq 9, 3) := by decide +kernel
theorem dX7_throwsOf_34 : decode cX7_throwsOf 34 = .ok (.ldc2_w 143, 3) := by decide +kernel
theorem dX7_throwsOf_37 : decode cX7_throwsOf 37 = .ok (.goto 15, 3) := by decide +kernel
theorem dX7_throwsOf_40 : decode cX7_throwsOf 40 = .ok (.aload_n 0, 1) := by decide +kernel
theorem dX7_throwsOf_41 : decode cX7_throwsOf 41 = .ok (.getfield 44, 3) := by decide +kernel
theorem dX7_throwsOf_44 : decode cX7_throwsOf 44 = .ok (.getfield 145, 3) := by decide +kernel
theorem dX7_throwsOf_47 : decode cX7_throwsOf 47 = .ok (.iload_n 1, 1) := by decide +kernel
theorem dX7_throwsOf_48 : decode cX7_throwsOf 48 = .ok (.daload, 1) := by decide +kernel
theorem dX7_throwsOf_49 : decode cX7_throwsOf 49 = .ok (.invokestatic 149, 3) := by decide +kernel
theorem dX7_throwsOf_52 : decode cX7_throwsOf 52 = .ok (.lreturn, 1) := by decide +kernel
set_option maxRecDepth 20000 in
theorem ggX7_aimOf_X7_isLeft : GoodIn wsX7_aimOf wsX7_isLeft := goodIn_r _ [4] (by decide +kernel) (by decide +kernel)
set_option maxRecDepth 20000 in
theorem gX7_aimOf_X7_isLeft : GoodIn wsX7_aimOf (va_wsS RX7 118 yX7_isLeft wsX7_isLeft) := goodIn_app (goodIn_of _ (by decide +kernel)) ggX7_aimOf_X7_isLeft
set_option maxRecDepth 20000 in
theorem ggX7_aimOf_X7_throwsAim : GoodIn wsX7_aimOf wsX7_throwsAim := goodIn_r _ [8, 9, 10, 1, 2, 3, 4, 11, 12, 13, 14, 15, 16, 17, 18, 19, 20, 21, 22, 23, 24, 25, 26, 27, 28, 29, 30, 31, 32, 33, 34, 35, 36, 37, 38, 39, 40, 41, 42, 43, 44, 45, 46, 47, 48, 49, 50, 51, 52, 53, 54, 55, 56, 57, 58, 59, 60, 61, 62, 63, 64, 65, 66, 67, 68, 69, 70, 71, 72, 73, 74, 75, 76, 77, 78, 79, 80, 81, 82, 83, 84, 85, 86, 87, 88, 89, 90, 91, 92, 93, 94, 95, 96, 97, 98, 99, 100, 101, 102, 103, 104, 105, 106, 107, 108, 109, 110, 111, 112, 113, 114, 115, 116, 117, 118, 119, 120, 121, 122, 123, 124, 125, 126, 127, 128, 129, 130, 131, 132, 133, 134, 135, 136, 137, 138, 139, 140, 141, 142, 143, 144, 145, 146, 147, 148, 149] (by decide +kernel) (by decide +kernel)
set_option maxRecDepth 20000 in
theorem gX7_aimOf_X7_throwsAim : GoodIn wsX7_aimOf (wsV RX7 153 RX7 yX7_throwsAim wsX7_throwsAim) := goodIn_app (goodIn_of _ (by decide +kernel)) ggX7_aimOf_X7_throwsAim
theorem dX7_aimOf_0 : decode cX7_aimOf 0 = .ok (.iload_n 1, 1) := by decide +kernel
theorem dX7_aimOf_1 : decode cX7_aimOf 1 = .ok (.invokestatic 118, 3) := by decide +kernel
theorem dX7_aimOf_4 : decode cX7_aimOf 4 = .ok (.ifCond .eq 11, 3) := by decide +kernel
theorem dX7_aimOf_7 : decode cX7_aimOf 7 = .ok (.aload_n 0, 1) := by decide +kernel
theorem dX7_aimOf_8 : decode cX7_aimOf 8 = .ok (.iload_n 1, 1) := by decide +kernel
theorem dX7_aimOf_9 : decode cX7_aimOf 9 = .ok (.invokevirtual 153, 3) := by decide +kernel
theorem dX7_aimOf_12 : decode cX7_aimOf 12 = .ok (.goto 5, 3) := by decide +kernel
theorem dX7_aimOf_15 : decode cX7_aimOf 15 = .ok (.bipush (-2), 2) := by decide +kernel
theorem dX7_aimOf_17 : decode cX7_aimOf 17 = .ok (.ireturn, 1) := by decide +kernel
set_option maxRecDepth 20000 in
theorem ggX7_wins_X7_isWinsLeft : GoodIn wsX7_wins wsX7_isWinsLeft := goodIn_r _ [12] (by decide +kernel) (by decide +kernel)
set_option maxRecDepth 20000 in
theorem gX7_wins_X7_isWinsLeft : GoodIn wsX7_wins (va_wsS RX7 156 yX7_isWinsLeft wsX7_isWinsLeft) := goodIn_app (goodIn_of _ (by decide +kernel)) ggX7_wins_X7_isWinsLeft
set_option maxRecDepth 20000 in
theorem ggX7_wins_X7_makeReady : GoodIn wsX7_wins wsX7_makeReady := goodIn_r _ [16, 17, 18, 19, 2, 8, 20, 21, 22, 23, 24, 25, 26, 27, 28, 29, 30, 31, 32, 33, 34, 35, 36, 37, 11, 38, 39, 40, 5, 41, 42, 43, 44, 45, 46, 47, 48, 49, 50, 51, 52, 53, 54, 55, 56, 57, 58, 59, 60, 61, 62, 63, 64, 65, 66, 67, 68, 69, 70, 71, 72, 73, 74, 75, 76, 77, 78, 79, 80, 81, 82, 83, 84, 85, 86, 87, 160, 161, 162, 163, 164, 165, 166, 167, 168, 169, 170, 171, 172, 173, 174, 175, 176, 177, 178, 179, 180, 181, 182, 183, 184, 185, 186, 187, 188, 189, 190, 191] (by decide +kernel) (by decide +kernel)
set_option maxRecDepth 20000 in
theorem gX7_wins_X7_makeReady : GoodIn wsX7_wins (wsV RX7 126 RX7 yX7_makeReady wsX7_makeReady) := goodIn_app (goodIn_of _ (by decide +kernel)) ggX7_wins_X7_makeReady
set_option maxRecDepth 20000 in
theorem ggX7_wins_X4_settleUpTo : GoodIn wsX7_wins wsX4_settleUpTo := goodIn_r _ [91, 73, 92, 93, 94, 71, 95, 96, 97, 98, 99, 100, 101, 102, 103, 104, 105, 106, 107, 108, 109, 110, 111, 23, 112, 113, 114, 115, 116, 117, 182, 183, 184, 185, 186, 187, 168, 169, 170, 171, 172, 173, 174] (by decide +kernel) (by decide +kernel)
set_option maxRecDepth 20000 in
theorem gX7_wins_X4_settleUpTo : GoodIn wsX7_wins (wsV RX7 136 RX4 yX4_settleUpTo wsX4_settleUpTo) := goodIn_app (goodIn_of _ (by decide +kernel)) ggX7_wins_X4_settleUpTo
set_option maxRecDepth 20000 in
theorem ggX7_wins_X4_hasNone : GoodIn wsX7_wins wsX4_hasNone := goodIn_r _ [117, 96, 182, 183, 184, 185, 186, 187] (by decide +kernel) (by decide +kernel)
set_option maxRecDepth 20000 in
theorem gX7_wins_X4_hasNone : GoodIn wsX7_wins (wsV RX7 140 RX4 yX4_hasNone wsX4_hasNone) := goodIn_app (goodIn_of _ (by decide +kernel)) ggX7_wins_X4_hasNone
set_option maxRecDepth 20000 in
theorem ggX7_wins_X6_chance : GoodIn wsX7_wins wsX6_chance := goodIn_r _ [122, 80, 123, 79, 81, 82, 77, 83, 84, 85, 86, 66, 87, 124, 125, 126, 127, 128, 129, 130, 131, 132, 133, 115, 116, 71, 117, 96, 134, 135, 136, 137, 138, 139, 140, 141, 142, 143, 144, 145, 146, 147, 148, 149, 110, 111, 23, 112, 113, 150, 151, 152, 188, 189, 190, 191, 182, 183, 184, 185, 186, 187, 168, 169, 170, 171, 172, 173, 174] (by decide +kernel) (by decide +kernel)
set_option maxRecDepth 20000 in
theorem gX7_wins_X6_chance : GoodIn wsX7_wins (wsV RX7 164 RX6 yX6_chance wsX6_chance) := goodIn_app (goodIn_of _ (by decide +kernel)) ggX7_wins_X6_chance
set_option maxRecDepth 20000 in
theorem ggX7_wins_X7_bitsOf : GoodIn wsX7_wins wsX7_bitsOf := goodIn_r _ [155, 156, 157, 158, 159] (by decide +kernel) (by decide +kernel)
set_option maxRecDepth 20000 in
theorem gX7_wins_X7_bitsOf : GoodIn wsX7_wins (va_wsS RX7 149 yX7_bitsOf wsX7_bitsOf) := goodIn_app (goodIn_of _ (by decide +kernel)) ggX7_wins_X7_bitsOf
theorem dX7_wins_0 : decode cX7_wins 0 = .ok (.iload_n 1, 1) := by decide +kernel
theorem dX7_wins_1 : decode cX7_wins 1 = .ok (.invokestatic 156, 3) := by decide +kernel
theorem dX7_wins_4 : decode cX7_wins 4 = .ok (.ifCond .eq 10, 3) := by decide +kernel
theorem dX7_wins_7 : decode cX7_wins 7 = .ok (.iload_n 2, 1) := by decide +kernel
theorem dX7_wins_8 : decode cX7_wins 8 = .ok (.invokestatic 156, 3) := by decide +kernel
theorem dX7_wins_11 : decode cX7_wins 11 = .ok (.ifCond .ne 7, 3) := by decide +kernel
theorem dX7_wins_14 : decode cX7_wins 14 = .ok (.ldc2_w 124, 3) := by decide +kernel
theorem dX7_wins_17 : decode cX7_wins 17 = .ok (.lreturn, 1) := by decide +kernel
theorem dX7_wins_18 : decode cX7_wins 18 = .ok (.aload_n 0, 1) := by decide +kernel
theorem dX7_wins_19 : decode cX7_wins 19 = .ok (.invokevirtual 126, 3) := by decide +kernel
theorem dX7_wins_22 : decode cX7_wins 22 = .ok (.aload_n 0, 1) := by decide +kernel
theorem dX7_wins_23 : decode cX7_wins 23 = .ok (.getfield 44, 3) := by decide +kernel
theorem dX7_wins_26 : decode cX7_wins 26 = .ok (.iload_n 1, 1) := by decide +kernel
theorem dX7_wins_27 : decode cX7_wins 27 = .ok (.iload_n 2, 1) := by decide +kernel
theorem dX7_wins_28 : decode cX7_wins 28 = .ok (.invokestatic 159, 3) := by decide +kernel
theorem dX7_wins_31 : decode cX7_wins 31 = .ok (.invokevirtual 136, 3) := by decide +kernel
theorem dX7_wins_34 : decode cX7_wins 34 = .ok (.aload_n 0, 1) := by decide +kernel
theorem dX7_wins_35 : decode cX7_wins 35 = .ok (.getfield 44, 3) := by decide +kernel
theorem dX7_wins_38 : decode cX7_wins 38 = .ok (.iload_n 1, 1) := by decide +kernel
theorem dX7_wins_39 : decode cX7_wins 39 = .ok (.invokevirtual 140, 3) := by decide +kernel
theorem dX7_wins_42 : decode cX7_wins 42 = .ok (.ifCond .ne 14, 3) := by decide +kernel
theorem dX7_wins_45 : decode cX7_wins 45 = .ok (.aload_n 0, 1) := by decide +kernel
theorem dX7_wins_46 : decode cX7_wins 46 = .ok (.getfield 44, 3) := by decide +kernel
theorem dX7_wins_49 : decode cX7_wins 49 = .ok (.iload_n 2, 1) := by decide +kernel
theorem dX7_wins_50 : decode cX7_wins 50 = .ok (.invokevirtual 140, 3) := by decide +kernel
theorem dX7_wins_53 : decode cX7_wins 53 = .ok (.ifCond .eq 7, 3) := by decide +kernel
theorem dX7_wins_56 : decode cX7_wins 56 = .ok (.ldc2_w 143, 3) := by decide +kernel
theorem dX7_wins_59 : decode cX7_wins 59 = .ok (.lreturn, 1) := by decide +kernel
theorem dX7_wins_60 : decode cX7_wins 60 = .ok (.aload_n 0, 1) := by decide +kernel
theorem dX7_wins_61 : decode cX7_wins 61 = .ok (.getfield 53, 3) := by decide +kernel
theorem dX7_wins_64 : decode cX7_wins 64 = .ok (.iload_n 1, 1) := by decide +kernel
theorem dX7_wins_65 : decode cX7_wins 65 = .ok (.iload_n 2, 1) := by decide +kernel
theorem dX7_wins_66 : decode cX7_wins 66 = .ok (.invokevirtual 164, 3) := by decide +kernel
theorem dX7_wins_69 : decode cX7_wins 69 = .ok (.invokestatic 149, 3) := by decide +kernel
theorem dX7_wins_72 : decode cX7_wins 72 = .ok (.lreturn, 1) := by decide +kernel
set_option maxRecDepth 20000 in
theorem ggX7_luck_X0_roughness : GoodIn wsX7_luck wsX0_roughness := goodIn_r _ [6, 7, 8, 9, 10, 11, 20] (by decide +kernel) (by decide +kernel)
set_option maxRecDepth 20000 in
theorem gX7_luck_X0_roughness : GoodIn wsX7_luck (wsV RX7 168 RX0 yX0_roughness wsX0_roughness) := goodIn_app (goodIn_of _ (by decide +kernel)) ggX7_luck_X0_roughness
theorem dX7_luck_0 : decode cX7_luck 0 = .ok (.aload_n 0, 1) := by decide +kernel
theorem dX7_luck_1 : decode cX7_luck 1 = .ok (.getfield 12, 3) := by decide +kernel
theorem dX7_luck_4 : decode cX7_luck 4 = .ok (.invokevirtual 168, 3) := by decide +kernel
theorem dX7_luck_7 : decode cX7_luck 7 = .ok (.ireturn, 1) := by decide +kernel
set_option maxRecDepth 20000 in
theorem ggX7_luckier_X0_roughestExchange : GoodIn wsX7_luckier wsX0_roughestExchange := goodIn_r _ [6, 7, 8, 9, 5, 10, 11, 12, 13, 14, 15, 16, 17, 18, 19, 28] (by decide +kernel) (by decide +kernel)
set_option maxRecDepth 20000 in
theorem gX7_luckier_X0_roughestExchange : GoodIn wsX7_luckier (wsV RX7 171 RX0 yX0_roughestExchange wsX0_roughestExchange) := goodIn_app (goodIn_of _ (by decide +kernel)) ggX7_luckier_X0_roughestExchange
theorem dX7_luckier_0 : decode cX7_luckier 0 = .ok (.aload_n 0, 1) := by decide +kernel
theorem dX7_luckier_1 : decode cX7_luckier 1 = .ok (.getfield 12, 3) := by decide +kernel
theorem dX7_luckier_4 : decode cX7_luckier 4 = .ok (.invokevirtual 171, 3) := by decide +kernel
theorem dX7_luckier_7 : decode cX7_luckier 7 = .ok (.ireturn, 1) := by decide +kernel
set_option maxRecDepth 20000 in
theorem ggX7_game_X7_isDarts : GoodIn wsX7_game wsX7_isDarts := goodIn_r _ [8] (by decide +kernel) (by decide +kernel)
set_option maxRecDepth 20000 in
theorem gX7_game_X7_isDarts : GoodIn wsX7_game (va_wsS RX7 121 yX7_isDarts wsX7_isDarts) := goodIn_app (goodIn_of _ (by decide +kernel)) ggX7_game_X7_isDarts
set_option maxRecDepth 20000 in
theorem ggX7_game_X3_init : GoodIn wsX7_game wsX3_init := goodIn_r _ [11, 12, 13, 14, 15, 16, 17, 18, 19, 20, 21, 22, 23, 24, 25, 26, 27, 28, 29, 30, 31, 32, 33, 34] (by decide +kernel) (by decide +kernel)
set_option maxRecDepth 20000 in
theorem gX7_game_X3_init : GoodIn wsX7_game (wsX3_init) := ggX7_game_X3_init
theorem dX7_game_0 : decode cX7_game 0 = .ok (.iload_n 1, 1) := by decide +kernel
theorem dX7_game_1 : decode cX7_game 1 = .ok (.iconst 2, 1) := by decide +kernel
theorem dX7_game_2 : decode cX7_game 2 = .ok (.if_icmp .lt 21, 3) := by decide +kernel
theorem dX7_game_5 : decode cX7_game 5 = .ok (.iload_n 1, 1) := by decide +kernel
theorem dX7_game_6 : decode cX7_game 6 = .ok (.sipush 301, 3) := by decide +kernel
theorem dX7_game_9 : decode cX7_game 9 = .ok (.if_icmp .gt 14, 3) := by decide +kernel
theorem dX7_game_12 : decode cX7_game 12 = .ok (.iload_n 2, 1) := by decide +kernel
theorem dX7_game_13 : decode cX7_game 13 = .ok (.invokestatic 121, 3) := by decide +kernel
theorem dX7_game_16 : decode cX7_game 16 = .ok (.ifCond .eq 7, 3) := by decide +kernel
theorem dX7_game_19 : decode cX7_game 19 = .ok (.iload_n 3, 1) := by decide +kernel
theorem dX7_game_20 : decode cX7_game 20 = .ok (.ifCond .ge 6, 3) := by decide +kernel
theorem dX7_game_23 : decode cX7_game 23 = .ok (.bipush (-2), 2) := by decide +kernel
theorem dX7_game_25 : decode cX7_game 25 = .ok (.ireturn, 1) := by decide +kernel
theorem dX7_game_26 : decode cX7_game 26 = .ok (.aload_n 0, 1) := by decide +kernel
theorem dX7_game_27 : decode cX7_game 27 = .ok (.new 174, 3) := by decide +kernel
theorem dX7_game_30 : decode cX7_game 30 = .ok (.dup, 1) := by decide +kernel
theorem dX7_game_31 : decode cX7_game 31 = .ok (.iload_n 1, 1) := by decide +kernel
theorem dX7_game_32 : decode cX7_game 32 = .ok (.iload_n 2, 1) := by decide +kernel
theorem dX7_game_33 : decode cX7_game 33 = .ok (.iload_n 3, 1) := by decide +kernel
theorem dX7_game_34 : decode cX7_game 34 = .ok (.invokespecial 176, 3) := by decide +kernel
theorem dX7_game_37 : decode cX7_game 37 = .ok (.putfield 61, 3) := by decide +kernel
theorem dX7_game_40 : decode cX7_game 40 = .ok (.iconst 1, 1) := by decide +kernel
theorem dX7_game_41 : decode cX7_game 41 = .ok (.ireturn, 1) := by decide +kernel
set_option maxRecDepth 20000 in
theorem ggX7_dart_X7_isAim : GoodIn wsX7_dart wsX7_isAim := goodIn_r _ [7] (by decide +kernel) (by decide +kernel)
set_option maxRecDepth 20000 in
theorem gX7_dart_X7_isAim : GoodIn wsX7_dart (va_wsS RX7 105 yX7_isAim wsX7_isAim) := goodIn_app (goodIn_of _ (by decide +kernel)) ggX7_dart_X7_isAim
set_option maxRecDepth 20000 in
theorem ggX7_dart_X3_isOver : GoodIn wsX7_dart wsX3_isOver := goodIn_r _ [12, 13, 14, 197, 198, 199, 200, 201, 202, 203, 204, 205, 206] (by decide +kernel) (by decide +kernel)
set_option maxRecDepth 20000 in
theorem gX7_dart_X3_isOver : GoodIn wsX7_dart (wsV RX7 179 RX3 yX3_isOver wsX3_isOver) := goodIn_app (goodIn_of _ (by decide +kernel)) ggX7_dart_X3_isOver
set_option maxRecDepth 20000 in
theorem ggX7_dart_X3_leftOf : GoodIn wsX7_dart wsX3_leftOf := goodIn_r _ [18, 13, 14, 197, 198, 199, 200, 201, 202, 203, 204, 205, 206] (by decide +kernel) (by decide +kernel)
set_option maxRecDepth 20000 in
theorem gX7_dart_X3_leftOf : GoodIn wsX7_dart (wsV RX7 189 RX3 yX3_leftOf wsX3_leftOf) := goodIn_app (goodIn_of _ (by decide +kernel)) ggX7_dart_X3_leftOf
set_option maxRecDepth 20000 in
theorem ggX7_dart_X7_throwsAim : GoodIn wsX7_dart wsX7_throwsAim := goodIn_r _ [22, 23, 24, 25, 26, 6, 27, 28, 29, 30, 31, 32, 33, 34, 35, 36, 37, 38, 39, 40, 41, 42, 43, 44, 45, 46, 47, 48, 49, 50, 51, 52, 53, 54, 55, 56, 57, 58, 59, 60, 61, 62, 63, 64, 65, 66, 67, 68, 69, 70, 71, 72, 73, 74, 75, 76, 77, 78, 79, 80, 81, 82, 83, 84, 85, 86, 87, 88, 89, 90, 91, 92, 93, 94, 95, 96, 97, 98, 99, 100, 101, 102, 103, 104, 105, 106, 107, 108, 109, 110, 111, 112, 113, 114, 115, 116, 117, 118, 119, 120, 121, 122, 123, 124, 125, 126, 127, 128, 129, 130, 131, 132, 133, 134, 189, 190, 191, 192, 193, 194, 195, 196, 207, 208, 209, 210, 211, 212, 213, 214, 215, 216, 217, 218, 219, 220, 221, 222, 223, 224, 225, 226, 227, 228, 229, 230] (by decide +kernel) (by decide +kernel)
set_option maxRecDepth 20000 in
theorem gX7_dart_X7_throwsAim : GoodIn wsX7_dart (wsV RX7 153 RX7 yX7_throwsAim wsX7_throwsAim) := goodIn_app (goodIn_of _ (by decide +kernel)) ggX7_dart_X7_throwsAim
set_option maxRecDepth 20000 in
theorem ggX7_dart_X7_throwAt : GoodIn wsX7_dart wsX7_throwAt := goodIn_r _ [138, 139, 140, 11, 141, 142, 143, 144, 33, 3, 1, 145, 146, 147, 148, 149, 150, 151, 152, 153, 154, 13, 14, 155, 156, 157, 158, 159, 160, 161, 162, 163, 164, 165, 166, 167, 168, 169, 170, 171, 172, 53, 6, 54, 55, 56, 57, 58, 59, 60, 61, 62, 173, 69, 70, 66, 71, 72, 15, 16, 17, 18, 174, 64, 65, 67, 68, 175, 127, 128, 39, 129, 130, 176, 177, 178, 179, 180, 181, 182, 183, 184, 185, 186, 187, 188, 197, 198, 199, 200, 201, 202, 203, 204, 205, 206, 189, 190, 191, 192, 193, 194, 195, 196, 220, 221, 222, 213, 214, 215, 216, 217, 218, 219] (by decide +kernel) (by decide +kernel)
set_option maxRecDepth 20000 in
theorem gX7_dart_X7_throwAt : GoodIn wsX7_dart (wsV RX7 192 RX7 yX7_throwAt wsX7_throwAt) := goodIn_app (goodIn_of _ (by decide +kernel)) ggX7_dart_X7_throwAt
theorem dX7_dart_0 : decode cX7_dart 0 = .ok (.iload_n 1, 1) := by decide +kernel
theorem dX7_dart_1 : decode cX7_dart 1 = .ok (.iconst (-1), 1) := by decide +kernel
theorem dX7_dart_2 : decode cX7_dart 2 = .ok (.if_icmp .eq 13, 3) := by decide +kernel
theorem dX7_dart_5 : decode cX7_dart 5 = .ok (.iload_n 1, 1) := by decide +kernel
theorem dX7_dart_6 : decode cX7_dart 6 = .ok (.invokestatic 105, 3) := by decide +kernel
theorem dX7_dart_9 : decode cX7_dart 9 = .ok (.ifCond .ne 6, 3) := by decide +kernel
theorem dX7_dart_12 : decode cX7_dart 12 = .ok (.bipush (-2), 2) := by decide +kernel
theorem dX7_dart_14 : decode cX7_dart 14 = .ok (.ireturn, 1) := by decide +kernel
theorem dX7_dart_15 : decode cX7_dart 15 = .ok (.aload_n 0, 1) := by decide +kernel
theorem dX7_dart_16 : decode cX7_dart 16 = .ok (.getfield 61, 3) := by decide +kernel
theorem dX7_dart_19 : decode cX7_dart 19 = .ok (.ifnull 26, 3) := by decide +kernel
theorem dX7_dart_22 : decode cX7_dart 22 = .ok (.aload_n 0, 1) := by decide +kernel
theorem dX7_dart_23 : decode cX7_dart 23 = .ok (.getfield 61, 3) := by decide +kernel
