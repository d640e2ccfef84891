theorem dX8_waysFor_59 : decode cX8_waysFor 59 = .ok (.iload_n 1, 1) := by decide +kernel
theorem dX8_waysFor_60 : decode cX8_waysFor 60 = .ok (.iload 6, 2) := by decide +kernel
theorem dX8_waysFor_62 : decode cX8_waysFor 62 = .ok (.iload 9, 2) := by decide +kernel
theorem dX8_waysFor_64 : decode cX8_waysFor 64 = .ok (.invokevirtual 104, 3) := by decide +kernel
theorem dX8_waysFor_67 : decode cX8_waysFor 67 = .ok (.istore 10, 2) := by decide +kernel
theorem dX8_waysFor_69 : decode cX8_waysFor 69 = .ok (.lload 7, 2) := by decide +kernel
theorem dX8_waysFor_71 : decode cX8_waysFor 71 = .ok (.iload 10, 2) := by decide +kernel
theorem dX8_waysFor_73 : decode cX8_waysFor 73 = .ok (.iconst (-1), 1) := by decide +kernel
theorem dX8_waysFor_74 : decode cX8_waysFor 74 = .ok (.if_icmp .ne 7, 3) := by decide +kernel
theorem dX8_waysFor_77 : decode cX8_waysFor 77 = .ok (.lconst 0, 1) := by decide +kernel
theorem dX8_waysFor_78 : decode cX8_waysFor 78 = .ok (.goto 36, 3) := by decide +kernel
theorem dX8_waysFor_81 : decode cX8_waysFor 81 = .ok (.aload_n 0, 1) := by decide +kernel
theorem dX8_waysFor_82 : decode cX8_waysFor 82 = .ok (.getfield 13, 3) := by decide +kernel
theorem dX8_waysFor_85 : decode cX8_waysFor 85 = .ok (.iload 9, 2) := by decide +kernel
theorem dX8_waysFor_87 : decode cX8_waysFor 87 = .ok (.iaload, 1) := by decide +kernel
theorem dX8_waysFor_88 : decode cX8_waysFor 88 = .ok (.i2l, 1) := by decide +kernel
theorem dX8_waysFor_89 : decode cX8_waysFor 89 = .ok (.iload 10, 2) := by decide +kernel
theorem dX8_waysFor_91 : decode cX8_waysFor 91 = .ok (.ifCond .ne 7, 3) := by decide +kernel
theorem dX8_waysFor_94 : decode cX8_waysFor 94 = .ok (.lload_n 3, 1) := by decide +kernel
theorem dX8_waysFor_95 : decode cX8_waysFor 95 = .ok (.goto 18, 3) := by decide +kernel
theorem dX8_waysFor_98 : decode cX8_waysFor 98 = .ok (.aload_n 0, 1) := by decide +kernel
theorem dX8_waysFor_99 : decode cX8_waysFor 99 = .ok (.getfield 24, 3) := by decide +kernel
theorem dX8_waysFor_102 : decode cX8_waysFor 102 = .ok (.sipush 302, 3) := by decide +kernel
theorem dX8_waysFor_105 : decode cX8_waysFor 105 = .ok (.iload_n 2, 1) := by decide +kernel
theorem dX8_waysFor_106 : decode cX8_waysFor 106 = .ok (.iconst 1, 1) := by decide +kernel
theorem dX8_waysFor_107 : decode cX8_waysFor 107 = .ok (.isub, 1) := by decide +kernel
theorem dX8_waysFor_108 : decode cX8_waysFor 108 = .ok (.imul, 1) := by decide +kernel
theorem dX8_waysFor_109 : decode cX8_waysFor 109 = .ok (.iload 10, 2) := by decide +kernel
theorem dX8_waysFor_111 : decode cX8_waysFor 111 = .ok (.iadd, 1) := by decide +kernel
theorem dX8_waysFor_112 : decode cX8_waysFor 112 = .ok (.laload, 1) := by decide +kernel
theorem dX8_waysFor_113 : decode cX8_waysFor 113 = .ok (.lmul, 1) := by decide +kernel
theorem dX8_waysFor_114 : decode cX8_waysFor 114 = .ok (.ladd, 1) := by decide +kernel
theorem dX8_waysFor_115 : decode cX8_waysFor 115 = .ok (.lstore 7, 2) := by decide +kernel
theorem dX8_waysFor_117 : decode cX8_waysFor 117 = .ok (.iinc 9 1, 3) := by decide +kernel
theorem dX8_waysFor_120 : decode cX8_waysFor 120 = .ok (.goto (-79), 3) := by decide +kernel
theorem dX8_waysFor_123 : decode cX8_waysFor 123 = .ok (.lload 7, 2) := by decide +kernel
theorem dX8_waysFor_125 : decode cX8_waysFor 125 = .ok (.aload_n 0, 1) := by decide +kernel
theorem dX8_waysFor_126 : decode cX8_waysFor 126 = .ok (.getfield 24, 3) := by decide +kernel
theorem dX8_waysFor_129 : decode cX8_waysFor 129 = .ok (.iload 5, 2) := by decide +kernel
theorem dX8_waysFor_131 : decode cX8_waysFor 131 = .ok (.laload, 1) := by decide +kernel
theorem dX8_waysFor_132 : decode cX8_waysFor 132 = .ok (.lcmp, 1) := by decide +kernel
theorem dX8_waysFor_133 : decode cX8_waysFor 133 = .ok (.ifCond .le 21, 3) := by decide +kernel
theorem dX8_waysFor_136 : decode cX8_waysFor 136 = .ok (.aload_n 0, 1) := by decide +kernel
theorem dX8_waysFor_137 : decode cX8_waysFor 137 = .ok (.getfield 24, 3) := by decide +kernel
theorem dX8_waysFor_140 : decode cX8_waysFor 140 = .ok (.iload 5, 2) := by decide +kernel
theorem dX8_waysFor_142 : decode cX8_waysFor 142 = .ok (.lload 7, 2) := by decide +kernel
theorem dX8_waysFor_144 : decode cX8_waysFor 144 = .ok (.lastore, 1) := by decide +kernel
theorem dX8_waysFor_145 : decode cX8_waysFor 145 = .ok (.aload_n 0, 1) := by decide +kernel
theorem dX8_waysFor_146 : decode cX8_waysFor 146 = .ok (.getfield 28, 3) := by decide +kernel
theorem dX8_waysFor_149 : decode cX8_waysFor 149 = .ok (.iload 5, 2) := by decide +kernel
theorem dX8_waysFor_151 : decode cX8_waysFor 151 = .ok (.iload 6, 2) := by decide +kernel
theorem dX8_waysFor_153 : decode cX8_waysFor 153 = .ok (.iastore, 1) := by decide +kernel
theorem dX8_waysFor_154 : decode cX8_waysFor 154 = .ok (.iinc 6 1, 3) := by decide +kernel
theorem dX8_waysFor_157 : decode cX8_waysFor 157 = .ok (.goto (-129), 3) := by decide +kernel
theorem dX8_waysFor_160 : decode cX8_waysFor 160 = .ok (.return_, 1) := by decide +kernel
set_option maxRecDepth 20000 in
theorem ggX8_findWays_X8_waysFor : GoodIn wsX8_findWays wsX8_waysFor := goodIn_r _ [7, 8, 9, 10, 11, 12, 13, 6, 14, 15, 16, 17, 18, 19, 20, 21, 22, 23, 24, 25, 26, 27, 28, 29, 30, 31, 32, 33, 34, 35, 36, 37, 38, 39, 40, 41, 42, 43, 44, 45, 46, 47, 48, 49, 50, 51, 52, 53, 54, 55] (by decide +kernel) (by decide +kernel)
set_option maxRecDepth 20000 in
theorem gX8_findWays_X8_waysFor : GoodIn wsX8_findWays (wsV RX8 108 RX8 yX8_waysFor wsX8_waysFor) := goodIn_app (goodIn_of _ (by decide +kernel)) ggX8_findWays_X8_waysFor
theorem dX8_findWays_0 : decode cX8_findWays 0 = .ok (.aload_n 0, 1) := by decide +kernel
theorem dX8_findWays_1 : decode cX8_findWays 1 = .ok (.getfield 63, 3) := by decide +kernel
theorem dX8_findWays_4 : decode cX8_findWays 4 = .ok (.ifCond .eq 4, 3) := by decide +kernel
theorem dX8_findWays_7 : decode cX8_findWays 7 = .ok (.return_, 1) := by decide +kernel
theorem dX8_findWays_8 : decode cX8_findWays 8 = .ok (.aload_n 0, 1) := by decide +kernel
theorem dX8_findWays_9 : decode cX8_findWays 9 = .ok (.iconst 1, 1) := by decide +kernel
theorem dX8_findWays_10 : decode cX8_findWays 10 = .ok (.putfield 63, 3) := by decide +kernel
theorem dX8_findWays_13 : decode cX8_findWays 13 = .ok (.lconst 1, 1) := by decide +kernel
theorem dX8_findWays_14 : decode cX8_findWays 14 = .ok (.lstore_n 1, 1) := by decide +kernel
theorem dX8_findWays_15 : decode cX8_findWays 15 = .ok (.iconst 1, 1) := by decide +kernel
theorem dX8_findWays_16 : decode cX8_findWays 16 = .ok (.istore_n 3, 1) := by decide +kernel
theorem dX8_findWays_17 : decode cX8_findWays 17 = .ok (.iload_n 3, 1) := by decide +kernel
theorem dX8_findWays_18 : decode cX8_findWays 18 = .ok (.iconst 4, 1) := by decide +kernel
theorem dX8_findWays_19 : decode cX8_findWays 19 = .ok (.if_icmp .ge 42, 3) := by decide +kernel
theorem dX8_findWays_22 : decode cX8_findWays 22 = .ok (.iconst 1, 1) := by decide +kernel
theorem dX8_findWays_23 : decode cX8_findWays 23 = .ok (.istore 4, 2) := by decide +kernel
theorem dX8_findWays_25 : decode cX8_findWays 25 = .ok (.iload 4, 2) := by decide +kernel
theorem dX8_findWays_27 : decode cX8_findWays 27 = .ok (.sipush 301, 3) := by decide +kernel
theorem dX8_findWays_30 : decode cX8_findWays 30 = .ok (.if_icmp .gt 17, 3) := by decide +kernel
theorem dX8_findWays_33 : decode cX8_findWays 33 = .ok (.aload_n 0, 1) := by decide +kernel
theorem dX8_findWays_34 : decode cX8_findWays 34 = .ok (.iload 4, 2) := by decide +kernel
theorem dX8_findWays_36 : decode cX8_findWays 36 = .ok (.iload_n 3, 1) := by decide +kernel
theorem dX8_findWays_37 : decode cX8_findWays 37 = .ok (.lload_n 1, 1) := by decide +kernel
theorem dX8_findWays_38 : decode cX8_findWays 38 = .ok (.invokevirtual 108, 3) := by decide +kernel
theorem dX8_findWays_41 : decode cX8_findWays 41 = .ok (.iinc 4 1, 3) := by decide +kernel
theorem dX8_findWays_44 : decode cX8_findWays 44 = .ok (.goto (-19), 3) := by decide +kernel
theorem dX8_findWays_47 : decode cX8_findWays 47 = .ok (.lload_n 1, 1) := by decide +kernel
theorem dX8_findWays_48 : decode cX8_findWays 48 = .ok (.aload_n 0, 1) := by decide +kernel
theorem dX8_findWays_49 : decode cX8_findWays 49 = .ok (.getfield 16, 3) := by decide +kernel
theorem dX8_findWays_52 : decode cX8_findWays 52 = .ok (.i2l, 1) := by decide +kernel
theorem dX8_findWays_53 : decode cX8_findWays 53 = .ok (.lmul, 1) := by decide +kernel
theorem dX8_findWays_54 : decode cX8_findWays 54 = .ok (.lstore_n 1, 1) := by decide +kernel
theorem dX8_findWays_55 : decode cX8_findWays 55 = .ok (.iinc 3 1, 3) := by decide +kernel
theorem dX8_findWays_58 : decode cX8_findWays 58 = .ok (.goto (-41), 3) := by decide +kernel
theorem dX8_findWays_61 : decode cX8_findWays 61 = .ok (.return_, 1) := by decide +kernel
set_option maxRecDepth 20000 in
theorem ggX8_ways_X8_in : GoodIn wsX8_ways wsX8_in := goodIn_r _ [6] (by decide +kernel) (by decide +kernel)
set_option maxRecDepth 20000 in
theorem gX8_ways_X8_in : GoodIn wsX8_ways (va_wsS RX8 69 yX8_in wsX8_in) := goodIn_app (goodIn_of _ (by decide +kernel)) ggX8_ways_X8_in
set_option maxRecDepth 20000 in
theorem ggX8_ways_X8_findWays : GoodIn wsX8_ways wsX8_findWays := goodIn_r _ [10, 11, 12, 13, 14, 15, 5, 16, 2, 17, 18, 19, 20, 21, 22, 23, 24, 25, 26, 27, 28, 29, 30, 31, 32, 33, 34, 35, 36, 37, 38, 39, 40, 41, 42, 43, 44, 45, 46, 47, 48, 49, 50, 51, 52, 53, 54, 55, 56, 57, 58, 59, 60, 61, 62, 63] (by decide +kernel) (by decide +kernel)
set_option maxRecDepth 20000 in
theorem gX8_ways_X8_findWays : GoodIn wsX8_ways (wsV RX8 114 RX8 yX8_findWays wsX8_findWays) := goodIn_app (goodIn_of _ (by decide +kernel)) ggX8_ways_X8_findWays
theorem dX8_ways_0 : decode cX8_ways 0 = .ok (.iload_n 1, 1) := by decide +kernel
theorem dX8_ways_1 : decode cX8_ways 1 = .ok (.iconst 1, 1) := by decide +kernel
theorem dX8_ways_2 : decode cX8_ways 2 = .ok (.sipush 301, 3) := by decide +kernel
theorem dX8_ways_5 : decode cX8_ways 5 = .ok (.invokestatic 69, 3) := by decide +kernel
theorem dX8_ways_8 : decode cX8_ways 8 = .ok (.ifCond .eq 12, 3) := by decide +kernel
theorem dX8_ways_11 : decode cX8_ways 11 = .ok (.iload_n 2, 1) := by decide +kernel
theorem dX8_ways_12 : decode cX8_ways 12 = .ok (.iconst 1, 1) := by decide +kernel
theorem dX8_ways_13 : decode cX8_ways 13 = .ok (.iconst 3, 1) := by decide +kernel
theorem dX8_ways_14 : decode cX8_ways 14 = .ok (.invokestatic 69, 3) := by decide +kernel
theorem dX8_ways_17 : decode cX8_ways 17 = .ok (.ifCond .ne 7, 3) := by decide +kernel
theorem dX8_ways_20 : decode cX8_ways 20 = .ok (.ldc2_w 112, 3) := by decide +kernel
theorem dX8_ways_23 : decode cX8_ways 23 = .ok (.lreturn, 1) := by decide +kernel
theorem dX8_ways_24 : decode cX8_ways 24 = .ok (.aload_n 0, 1) := by decide +kernel
theorem dX8_ways_25 : decode cX8_ways 25 = .ok (.invokevirtual 114, 3) := by decide +kernel
theorem dX8_ways_28 : decode cX8_ways 28 = .ok (.aload_n 0, 1) := by decide +kernel
theorem dX8_ways_29 : decode cX8_ways 29 = .ok (.getfield 24, 3) := by decide +kernel
theorem dX8_ways_32 : decode cX8_ways 32 = .ok (.sipush 302, 3) := by decide +kernel
theorem dX8_ways_35 : decode cX8_ways 35 = .ok (.iload_n 2, 1) := by decide +kernel
theorem dX8_ways_36 : decode cX8_ways 36 = .ok (.imul, 1) := by decide +kernel
theorem dX8_ways_37 : decode cX8_ways 37 = .ok (.iload_n 1, 1) := by decide +kernel
theorem dX8_ways_38 : decode cX8_ways 38 = .ok (.iadd, 1) := by decide +kernel
theorem dX8_ways_39 : decode cX8_ways 39 = .ok (.laload, 1) := by decide +kernel
theorem dX8_ways_40 : decode cX8_ways 40 = .ok (.lreturn, 1) := by decide +kernel
set_option maxRecDepth 20000 in
theorem ggX8_wayAim_X8_in : GoodIn wsX8_wayAim wsX8_in := goodIn_r _ [5] (by decide +kernel) (by decide +kernel)
set_option maxRecDepth 20000 in
theorem gX8_wayAim_X8_in : GoodIn wsX8_wayAim (va_wsS RX8 69 yX8_in wsX8_in) := goodIn_app (goodIn_of _ (by decide +kernel)) ggX8_wayAim_X8_in
set_option maxRecDepth 20000 in
theorem ggX8_wayAim_X8_findWays : GoodIn wsX8_wayAim wsX8_findWays := goodIn_r _ [9, 10, 11, 12, 13, 14, 4, 15, 16, 1, 17, 18, 19, 20, 21, 22, 23, 24, 25, 26, 27, 28, 29, 30, 31, 32, 33, 34, 35, 36, 37, 38, 39, 40, 41, 42, 43, 44, 45, 46, 47, 48, 49, 50, 51, 52, 53, 54, 55, 56, 57, 58, 59, 60, 61, 62] (by decide +kernel) (by decide +kernel)
set_option maxRecDepth 20000 in
theorem gX8_wayAim_X8_findWays : GoodIn wsX8_wayAim (wsV RX8 114 RX8 yX8_findWays wsX8_findWays) := goodIn_app (goodIn_of _ (by decide +kernel)) ggX8_wayAim_X8_findWays
theorem dX8_wayAim_0 : decode cX8_wayAim 0 = .ok (.iload_n 1, 1) := by decide +kernel
theorem dX8_wayAim_1 : decode cX8_wayAim 1 = .ok (.iconst 1, 1) := by decide +kernel
theorem dX8_wayAim_2 : decode cX8_wayAim 2 = .ok (.sipush 301, 3) := by decide +kernel
theorem dX8_wayAim_5 : decode cX8_wayAim 5 = .ok (.invokestatic 69, 3) := by decide +kernel
theorem dX8_wayAim_8 : decode cX8_wayAim 8 = .ok (.ifCond .eq 12, 3) := by decide +kernel
theorem dX8_wayAim_11 : decode cX8_wayAim 11 = .ok (.iload_n 2, 1) := by decide +kernel
theorem dX8_wayAim_12 : decode cX8_wayAim 12 = .ok (.iconst 1, 1) := by decide +kernel
theorem dX8_wayAim_13 : decode cX8_wayAim 13 = .ok (.iconst 3, 1) := by decide +kernel
theorem dX8_wayAim_14 : decode cX8_wayAim 14 = .ok (.invokestatic 69, 3) := by decide +kernel
theorem dX8_wayAim_17 : decode cX8_wayAim 17 = .ok (.ifCond .ne 6, 3) := by decide +kernel
theorem dX8_wayAim_20 : decode cX8_wayAim 20 = .ok (.bipush (-2), 2) := by decide +kernel
theorem dX8_wayAim_22 : decode cX8_wayAim 22 = .ok (.ireturn, 1) := by decide +kernel
theorem dX8_wayAim_23 : decode cX8_wayAim 23 = .ok (.aload_n 0, 1) := by decide +kernel
theorem dX8_wayAim_24 : decode cX8_wayAim 24 = .ok (.invokevirtual 114, 3) := by decide +kernel
theorem dX8_wayAim_27 : decode cX8_wayAim 27 = .ok (.aload_n 0, 1) := by decide +kernel
theorem dX8_wayAim_28 : decode cX8_wayAim 28 = .ok (.getfield 28, 3) := by decide +kernel
theorem dX8_wayAim_31 : decode cX8_wayAim 31 = .ok (.sipush 302, 3) := by decide +kernel
theorem dX8_wayAim_34 : decode cX8_wayAim 34 = .ok (.iload_n 2, 1) := by decide +kernel
theorem dX8_wayAim_35 : decode cX8_wayAim 35 = .ok (.imul, 1) := by decide +kernel
theorem dX8_wayAim_36 : decode cX8_wayAim 36 = .ok (.iload_n 1, 1) := by decide +kernel
theorem dX8_wayAim_37 : decode cX8_wayAim 37 = .ok (.iadd, 1) := by decide +kernel
theorem dX8_wayAim_38 : decode cX8_wayAim 38 = .ok (.iaload, 1) := by decide +kernel
theorem dX8_wayAim_39 : decode cX8_wayAim 39 = .ok (.ireturn, 1) := by decide +kernel
set_option maxRecDepth 20000 in
theorem ggX8_hopeless_X8_in : GoodIn wsX8_hopeless wsX8_in := goodIn_r _ [5] (by decide +kernel) (by decide +kernel)
set_option maxRecDepth 20000 in
theorem gX8_hopeless_X8_in : GoodIn wsX8_hopeless (va_wsS RX8 69 yX8_in wsX8_in) := goodIn_app (goodIn_of _ (by decide +kernel)) ggX8_hopeless_X8_in
set_option maxRecDepth 20000 in
theorem ggX8_hopeless_X8_findWays : GoodIn wsX8_hopeless wsX8_findWays := goodIn_r _ [9, 10, 11, 12, 13, 14, 4, 15, 1, 16, 17, 18, 19, 20, 21, 22, 23, 24, 25, 26, 27, 28, 29, 30, 31, 32, 33, 34, 35, 36, 37, 38, 39, 40, 41, 42, 43, 44, 45, 46, 47, 48, 49, 50, 51, 52, 53, 54, 55, 56, 57, 58, 59, 60, 61, 62] (by decide +kernel) (by decide +kernel)
set_option maxRecDepth 20000 in
theorem gX8_hopeless_X8_findWays : GoodIn wsX8_hopeless (wsV RX8 114 RX8 yX8_findWays wsX8_findWays) := goodIn_app (goodIn_of _ (by decide +kernel)) ggX8_hopeless_X8_findWays
theorem dX8_hopeless_0 : decode cX8_hopeless 0 = .ok (.iload_n 1, 1) := by decide +kernel
theorem dX8_hopeless_1 : decode cX8_hopeless 1 = .ok (.iconst 1, 1) := by decide +kernel
theorem dX8_hopeless_2 : decode cX8_hopeless 2 = .ok (.iconst 3, 1) := by decide +kernel
theorem dX8_hopeless_3 : decode cX8_hopeless 3 = .ok (.invokestatic 69, 3) := by decide +kernel
theorem dX8_hopeless_6 : decode cX8_hopeless 6 = .ok (.ifCond .ne 6, 3) := by decide +kernel
theorem dX8_hopeless_9 : decode cX8_hopeless 9 = .ok (.bipush (-2), 2) := by decide +kernel
theorem dX8_hopeless_11 : decode cX8_hopeless 11 = .ok (.ireturn, 1) := by decide +kernel
theorem dX8_hopeless_12 : decode cX8_hopeless 12 = .ok (.aload_n 0, 1) := by decide +kernel
theorem dX8_hopeless_13 : decode cX8_hopeless 13 = .ok (.invokevirtual 114, 3) := by decide +kernel
theorem dX8_hopeless_16 : decode cX8_hopeless 16 = .ok (.iconst 0, 1) := by decide +kernel
theorem dX8_hopeless_17 : decode cX8_hopeless 17 = .ok (.istore_n 2, 1) := by decide +kernel
theorem dX8_hopeless_18 : decode cX8_hopeless 18 = .ok (.iconst 1, 1) := by decide +kernel
theorem dX8_hopeless_19 : decode cX8_hopeless 19 = .ok (.istore_n 3, 1) := by decide +kernel
theorem dX8_hopeless_20 : decode cX8_hopeless 20 = .ok (.iload_n 3, 1) := by decide +kernel
theorem dX8_hopeless_21 : decode cX8_hopeless 21 = .ok (.sipush 180, 3) := by decide +kernel
theorem dX8_hopeless_24 : decode cX8_hopeless 24 = .ok (.if_icmp .gt 34, 3) := by decide +kernel
theorem dX8_hopeless_27 : decode cX8_hopeless 27 = .ok (.iload_n 2, 1) := by decide +kernel
theorem dX8_hopeless_28 : decode cX8_hopeless 28 = .ok (.aload_n 0, 1) := by decide +kernel
theorem dX8_hopeless_29 : decode cX8_hopeless 29 = .ok (.getfield 24, 3) := by decide +kernel
theorem dX8_hopeless_32 : decode cX8_hopeless 32 = .ok (.sipush 302, 3) := by decide +kernel
theorem dX8_hopeless_35 : decode cX8_hopeless 35 = .ok (.iload_n 1, 1) := by decide +kernel
theorem dX8_hopeless_36 : decode cX8_hopeless 36 = .ok (.imul, 1) := by decide +kernel
theorem dX8_hopeless_37 : decode cX8_hopeless 37 = .ok (.iload_n 3, 1) := by decide +kernel
theorem dX8_hopeless_38 : decode cX8_hopeless 38 = .ok (.iadd, 1) := by decide +kernel
theorem dX8_hopeless_39 : decode cX8_hopeless 39 = .ok (.laload, 1) := by decide +kernel
theorem dX8_hopeless_40 : decode cX8_hopeless 40 = .ok (.lconst 0, 1) := by decide +kernel
theorem dX8_hopeless_41 : decode cX8_hopeless 41 = .ok (.lcmp, 1) := by decide +kernel
theorem dX8_hopeless_42 : decode cX8_hopeless 42 = .ok (.ifCond .ne 7, 3) := by decide +kernel
theorem dX8_hopeless_45 : decode cX8_hopeless 45 = .ok (.iconst 1, 1) := by decide +kernel
theorem dX8_hopeless_46 : decode cX8_hopeless 46 = .ok (.goto 4, 3) := by decide +kernel
theorem dX8_hopeless_49 : decode cX8_hopeless 49 = .ok (.iconst 0, 1) := by decide +kernel
theorem dX8_hopeless_50 : decode cX8_hopeless 50 = .ok (.iadd, 1) := by decide +kernel
theorem dX8_hopeless_51 : decode cX8_hopeless 51 = .ok (.istore_n 2, 1) := by decide +kernel
theorem dX8_hopeless_52 : decode cX8_hopeless 52 = .ok (.iinc 3 1, 3) := by decide +kernel
theorem dX8_hopeless_55 : decode cX8_hopeless 55 = .ok (.goto (-35), 3) := by decide +kernel
theorem dX8_hopeless_58 : decode cX8_hopeless 58 = .ok (.iload_n 2, 1) := by decide +kernel
theorem dX8_hopeless_59 : decode cX8_hopeless 59 = .ok (.ireturn, 1) := by decide +kernel
set_option maxRecDepth 20000 in
theorem ggX8_throwsFor_X8_leaves : GoodIn wsX8_throwsFor wsX8_leaves := goodIn_r _ [9, 10, 11, 12, 13, 14, 15, 8, 16, 17, 18, 19, 20, 21, 22, 23, 24, 25, 26, 27, 28, 29, 30, 31, 32, 33, 34, 35, 36, 37, 38, 39, 40, 41, 42, 43, 44, 45, 46, 47, 48, 49, 50] (by decide +kernel) (by decide +kernel)
set_option maxRecDepth 20000 in
theorem gX8_throwsFor_X8_leaves : GoodIn wsX8_throwsFor (wsV RX8 104 RX8 yX8_leaves wsX8_leaves) := goodIn_app (goodIn_of _ (by decide +kernel)) ggX8_throwsFor_X8_leaves
theorem dX8_throwsFor_0 : decode cX8_throwsFor 0 = .ok (.aload_n 0, 1) := by decide +kernel
theorem dX8_throwsFor_1 : decode cX8_throwsFor 1 = .ok (.getfield 35, 3) := by decide +kernel
theorem dX8_throwsFor_4 : decode cX8_throwsFor 4 = .ok (.iload_n 1, 1) := by decide +kernel
theorem dX8_throwsFor_5 : decode cX8_throwsFor 5 = .ok (.iconst (-1), 1) := by decide +kernel
theorem dX8_throwsFor_6 : decode cX8_throwsFor 6 = .ok (.iastore, 1) := by decide +kernel
theorem dX8_throwsFor_7 : decode cX8_throwsFor 7 = .ok (.iconst 0, 1) := by decide +kernel
theorem dX8_throwsFor_8 : decode cX8_throwsFor 8 = .ok (.istore_n 2, 1) := by decide +kernel
theorem dX8_throwsFor_9 : decode cX8_throwsFor 9 = .ok (.iload_n 2, 1) := by decide +kernel
theorem dX8_throwsFor_10 : decode cX8_throwsFor 10 = .ok (.bipush 120, 2) := by decide +kernel
theorem dX8_throwsFor_12 : decode cX8_throwsFor 12 = .ok (.if_icmp .ge 195, 3) := by decide +kernel
theorem dX8_throwsFor_15 : decode cX8_throwsFor 15 = .ok (.iconst 0, 1) := by decide +kernel
theorem dX8_throwsFor_16 : decode cX8_throwsFor 16 = .ok (.istore_n 3, 1) := by decide +kernel
theorem dX8_throwsFor_17 : decode cX8_throwsFor 17 = .ok (.dconst 0, 1) := by decide +kernel
theorem dX8_throwsFor_18 : decode cX8_throwsFor 18 = .ok (.dstore 4, 2) := by decide +kernel
theorem dX8_throwsFor_20 : decode cX8_throwsFor 20 = .ok (.iconst 1, 1) := by decide +kernel
theorem dX8_throwsFor_21 : decode cX8_throwsFor 21 = .ok (.istore 6, 2) := by decide +kernel
theorem dX8_throwsFor_23 : decode cX8_throwsFor 23 = .ok (.iconst 0, 1) := by decide +kernel
theorem dX8_throwsFor_24 : decode cX8_throwsFor 24 = .ok (.istore 7, 2) := by decide +kernel
theorem dX8_throwsFor_26 : decode cX8_throwsFor 26 = .ok (.iload 7, 2) := by decide +kernel
theorem dX8_throwsFor_28 : decode cX8_throwsFor 28 = .ok (.bipush 25, 2) := by decide +kernel
theorem dX8_throwsFor_30 : decode cX8_throwsFor 30 = .ok (.if_icmp .ge 103, 3) := by decide +kernel
theorem dX8_throwsFor_33 : decode cX8_throwsFor 33 = .ok (.aload_n 0, 1) := by decide +kernel
theorem dX8_throwsFor_34 : decode cX8_throwsFor 34 = .ok (.getfield 13, 3) := by decide +kernel
theorem dX8_throwsFor_37 : decode cX8_throwsFor 37 = .ok (.iload 7, 2) := by decide +kernel
theorem dX8_throwsFor_39 : decode cX8_throwsFor 39 = .ok (.iaload, 1) := by decide +kernel
theorem dX8_throwsFor_40 : decode cX8_throwsFor 40 = .ok (.ifCond .le 87, 3) := by decide +kernel
theorem dX8_throwsFor_43 : decode cX8_throwsFor 43 = .ok (.aload_n 0, 1) := by decide +kernel
theorem dX8_throwsFor_44 : decode cX8_throwsFor 44 = .ok (.iload_n 1, 1) := by decide +kernel
theorem dX8_throwsFor_45 : decode cX8_throwsFor 45 = .ok (.iload_n 2, 1) := by decide +kernel
theorem dX8_throwsFor_46 : decode cX8_throwsFor 46 = .ok (.iload 7, 2) := by decide +kernel
theorem dX8_throwsFor_48 : decode cX8_throwsFor 48 = .ok (.invokevirtual 104, 3) := by decide +kernel
theorem dX8_throwsFor_51 : decode cX8_throwsFor 51 = .ok (.istore 8, 2) := by decide +kernel
theorem dX8_throwsFor_53 : decode cX8_throwsFor 53 = .ok (.iload 8, 2) := by decide +kernel
theorem dX8_throwsFor_55 : decode cX8_throwsFor 55 = .ok (.iconst (-1), 1) := by decide +kernel
theorem dX8_throwsFor_56 : decode cX8_throwsFor 56 = .ok (.if_icmp .eq 9, 3) := by decide +kernel
theorem dX8_throwsFor_59 : decode cX8_throwsFor 59 = .ok (.iload 8, 2) := by decide +kernel
theorem dX8_throwsFor_61 : decode cX8_throwsFor 61 = .ok (.iload_n 1, 1) := by decide +kernel
theorem dX8_throwsFor_62 : decode cX8_throwsFor 62 = .ok (.if_icmp .ne 16, 3) := by decide +kernel
theorem dX8_throwsFor_65 : decode cX8_throwsFor 65 = .ok (.iload_n 3, 1) := by decide +kernel
theorem dX8_throwsFor_66 : decode cX8_throwsFor 66 = .ok (.aload_n 0, 1) := by decide +kernel
theorem dX8_throwsFor_67 : decode cX8_throwsFor 67 = .ok (.getfield 13, 3) := by decide +kernel
theorem dX8_throwsFor_70 : decode cX8_throwsFor 70 = .ok (.iload 7, 2) := by decide +kernel
theorem dX8_throwsFor_72 : decode cX8_throwsFor 72 = .ok (.iaload, 1) := by decide +kernel
theorem dX8_throwsFor_73 : decode cX8_throwsFor 73 = .ok (.iadd, 1) := by decide +kernel
theorem dX8_throwsFor_74 : decode cX8_throwsFor 74 = .ok (.istore_n 3, 1) := by decide +kernel
theorem dX8_throwsFor_75 : decode cX8_throwsFor 75 = .ok (.goto 52, 3) := by decide +kernel
theorem dX8_throwsFor_78 : decode cX8_throwsFor 78 = .ok (.iload 8, 2) := by decide +kernel
theorem dX8_throwsFor_80 : decode cX8_throwsFor 80 = .ok (.ifCond .le 47, 3) := by decide +kernel
theorem dX8_throwsFor_83 : decode cX8_throwsFor 83 = .ok (.iload 6, 2) := by decide +kernel
theorem dX8_throwsFor_85 : decode cX8_throwsFor 85 = .ok (.ifCond .eq 18, 3) := by decide +kernel
theorem dX8_throwsFor_88 : decode cX8_throwsFor 88 = .ok (.aload_n 0, 1) := by decide +kernel
theorem dX8_throwsFor_89 : decode cX8_throwsFor 89 = .ok (.getfield 35, 3) := by decide +kernel
theorem dX8_throwsFor_92 : decode cX8_throwsFor 92 = .ok (.iload 8, 2) := by decide +kernel
theorem dX8_throwsFor_94 : decode cX8_throwsFor 94 = .ok (.iaload, 1) := by decide +kernel
theorem dX8_throwsFor_95 : decode cX8_throwsFor 95 = .ok (.iconst (-1), 1) := by decide +kernel
theorem dX8_throwsFor_96 : decode cX8_throwsFor 96 = .ok (.if_icmp .eq 7, 3) := by decide +kernel
theorem dX8_throwsFor_99 : decode cX8_throwsFor 99 = .ok (.iconst 1, 1) := by decide +kernel
theorem dX8_throwsFor_100 : decode cX8_throwsFor 100 = .ok (.goto 4, 3) := by decide +kernel
theorem dX8_throwsFor_103 : decode cX8_throwsFor 103 = .ok (.iconst 0, 1) := by decide +kernel
theorem dX8_throwsFor_104 : decode cX8_throwsFor 104 = .ok (.istore 6, 2) := by decide +kernel
theorem dX8_throwsFor_106 : decode cX8_throwsFor 106 = .ok (.dload 4, 2) := by decide +kernel
theorem dX8_throwsFor_108 : decode cX8_throwsFor 108 = .ok (.aload_n 0, 1) := by decide +kernel
theorem dX8_throwsFor_109 : decode cX8_throwsFor 109 = .ok (.getfield 13, 3) := by decide +kernel
theorem dX8_throwsFor_112 : decode cX8_throwsFor 112 = .ok (.iload 7, 2) := by decide +kernel
theorem dX8_throwsFor_114 : decode cX8_throwsFor 114 = .ok (.iaload, 1) := by decide +kernel
theorem dX8_throwsFor_115 : decode cX8_throwsFor 115 = .ok (.i2d, 1) := by decide +kernel
theorem dX8_throwsFor_116 : decode cX8_throwsFor 116 = .ok (.aload_n 0, 1) := by decide +kernel
theorem dX8_throwsFor_117 : decode cX8_throwsFor 117 = .ok (.getfield 31, 3) := by decide +kernel
theorem dX8_throwsFor_120 : decode cX8_throwsFor 120 = .ok (.iload 8, 2) := by decide +kernel
theorem dX8_throwsFor_122 : decode cX8_throwsFor 122 = .ok (.daload, 1) := by decide +kernel
theorem dX8_throwsFor_123 : decode cX8_throwsFor 123 = .ok (.dmul, 1) := by decide +kernel
theorem dX8_throwsFor_124 : decode cX8_throwsFor 124 = .ok (.dadd, 1) := by decide +kernel
theorem dX8_throwsFor_125 : decode cX8_throwsFor 125 = .ok (.dstore 4, 2) := by decide +kernel
theorem dX8_throwsFor_127 : decode cX8_throwsFor 127 = .ok (.iinc 7 1, 3) := by decide +kernel
theorem dX8_throwsFor_130 : decode cX8_throwsFor 130 = .ok (.goto (-104), 3) := by decide +kernel
theorem dX8_throwsFor_133 : decode cX8_throwsFor 133 = .ok (.iload 6, 2) := by decide +kernel
theorem dX8_throwsFor_135 : decode cX8_throwsFor 135 = .ok (.ifCond .eq 66, 3) := by decide +kernel
theorem dX8_throwsFor_138 : decode cX8_throwsFor 138 = .ok (.iload_n 3, 1) := by decide +kernel
theorem dX8_throwsFor_139 : decode cX8_throwsFor 139 = .ok (.aload_n 0, 1) := by decide +kernel
theorem dX8_throwsFor_140 : decode cX8_throwsFor 140 = .ok (.getfield 16, 3) := by decide +kernel
theorem dX8_throwsFor_143 : decode cX8_throwsFor 143 = .ok (.if_icmp .ge 58, 3) := by decide +kernel
theorem dX8_throwsFor_146 : decode cX8_throwsFor 146 = .ok (.aload_n 0, 1) := by decide +kernel
theorem dX8_throwsFor_147 : decode cX8_throwsFor 147 = .ok (.getfield 16, 3) := by decide +kernel
theorem dX8_throwsFor_150 : decode cX8_throwsFor 150 = .ok (.i2d, 1) := by decide +kernel
theorem dX8_throwsFor_151 : decode cX8_throwsFor 151 = .ok (.dload 4, 2) := by decide +kernel
theorem dX8_throwsFor_153 : decode cX8_throwsFor 153 = .ok (.dadd, 1) := by decide +kernel
theorem dX8_throwsFor_154 : decode cX8_throwsFor 154 = .ok (.aload_n 0, 1) := by decide +kernel
theorem dX8_throwsFor_155 : decode cX8_throwsFor 155 = .ok (.getfield 16, 3) := by decide +kernel
theorem dX8_throwsFor_158 : decode cX8_throwsFor 158 = .ok (.iload_n 3, 1) := by decide +kernel
theorem dX8_throwsFor_159 : decode cX8_throwsFor 159 = .ok (.isub, 1) := by decide +kernel
theorem dX8_throwsFor_160 : decode cX8_throwsFor 160 = .ok (.i2d, 1) := by decide +kernel
theorem dX8_throwsFor_161 : decode cX8_throwsFor 161 = .ok (.ddiv, 1) := by decide +kernel
theorem dX8_throwsFor_162 : decode cX8_throwsFor 162 = .ok (.dstore 7, 2) := by decide +kernel
theorem dX8_throwsFor_164 : decode cX8_throwsFor 164 = .ok (.aload_n 0, 1) := by decide +kernel
theorem dX8_throwsFor_165 : decode cX8_throwsFor 165 = .ok (.getfield 35, 3) := by decide +kernel
theorem dX8_throwsFor_168 : decode cX8_throwsFor 168 = .ok (.iload_n 1, 1) := by decide +kernel
theorem dX8_throwsFor_169 : decode cX8_throwsFor 169 = .ok (.iaload, 1) := by decide +kernel
theorem dX8_throwsFor_170 : decode cX8_throwsFor 170 = .ok (.iconst (-1), 1) := by decide +kernel
theorem dX8_throwsFor_171 : decode cX8_throwsFor 171 = .ok (.if_icmp .eq 15, 3) := by decide +kernel
theorem dX8_throwsFor_174 : decode cX8_throwsFor 174 = .ok (.dload 7, 2) := by decide +kernel
theorem dX8_throwsFor_176 : decode cX8_throwsFor 176 = .ok (.aload_n 0, 1) := by decide +kernel
theorem dX8_throwsFor_177 : decode cX8_throwsFor 177 = .ok (.getfield 31, 3) := by decide +kernel
theorem dX8_throwsFor_180 : decode cX8_throwsFor 180 = .ok (.iload_n 1, 1) := by decide +kernel
theorem dX8_throwsFor_181 : decode cX8_throwsFor 181 = .ok (.daload, 1) := by decide +kernel
theorem dX8_throwsFor_182 : decode cX8_throwsFor 182 = .ok (.dcmp .g, 1) := by decide +kernel
theorem dX8_throwsFor_183 : decode cX8_throwsFor 183 = .ok (.ifCond .ge 18, 3) := by decide +kernel
theorem dX8_throwsFor_186 : decode cX8_throwsFor 186 = .ok (.aload_n 0, 1) := by decide +kernel
theorem dX8_throwsFor_187 : decode cX8_throwsFor 187 = .ok (.getfield 31, 3) := by decide +kernel
theorem dX8_throwsFor_190 : decode cX8_throwsFor 190 = .ok (.iload_n 1, 1) := by decide +kernel
theorem dX8_throwsFor_191 : decode cX8_throwsFor 191 = .ok (.dload 7, 2) := by decide +kernel
theorem dX8_throwsFor_193 : decode cX8_throwsFor 193 = .ok (.dastore, 1) := by decide +kernel
theorem dX8_throwsFor_194 : decode cX8_throwsFor 194 = .ok (.aload_n 0, 1) := by decide +kernel
theorem dX8_throwsFor_195 : decode cX8_throwsFor 195 = .ok (.getfield 35, 3) := by decide +kernel
theorem dX8_throwsFor_198 : decode cX8_throwsFor 198 = .ok (.iload_n 1, 1) := by decide +kernel
theorem dX8_throwsFor_199 : decode cX8_throwsFor 199 = .ok (.iload_n 2, 1) := by decide +kernel
theorem dX8_throwsFor_200 : decode cX8_throwsFor 200 = .ok (.iastore, 1) := by decide +kernel
theorem dX8_throwsFor_201 : decode cX8_throwsFor 201 = .ok (.iinc 2 1, 3) := by decide +kernel
theorem dX8_throwsFor_204 : decode cX8_throwsFor 204 = .ok (.goto (-195), 3) := by decide +kernel
theorem dX8_throwsFor_207 : decode cX8_throwsFor 207 = .ok (.return_, 1) := by decide +kernel
set_option maxRecDepth 20000 in
theorem ggX8_staysOf_X8_leaves : GoodIn wsX8_staysOf wsX8_leaves := goodIn_r _ [7, 8, 9, 10, 11, 12, 13, 6, 14, 15, 16, 17, 18, 19, 20, 21, 22, 23, 24, 25, 26, 27, 28, 29, 30, 31, 32, 33, 34, 35, 36, 37, 38, 39, 40, 41, 42, 43, 44, 45, 46, 47, 48] (by decide +kernel) (by decide +kernel)
set_option maxRecDepth 20000 in
theorem gX8_staysOf_X8_leaves : GoodIn wsX8_staysOf (wsV RX8 104 RX8 yX8_leaves wsX8_leaves) := goodIn_app (goodIn_of _ (by decide +kernel)) ggX8_staysOf_X8_leaves
theorem dX8_staysOf_0 : decode cX8_staysOf 0 = .ok (.iconst 0, 1) := by decide +kernel
theorem dX8_staysOf_1 : decode cX8_staysOf 1 = .ok (.istore_n 2, 1) := by decide +kernel
theorem dX8_staysOf_2 : decode cX8_staysOf 2 = .ok (.iconst 0, 1) := by decide +kernel
theorem dX8_staysOf_3 : decode cX8_staysOf 3 = .ok (.istore_n 3, 1) := by decide +kernel
theorem dX8_staysOf_4 : decode cX8_staysOf 4 = .ok (.iload_n 3, 1) := by decide +kernel
theorem dX8_staysOf_5 : decode cX8_staysOf 5 = .ok (.bipush 25, 2) := by decide +kernel
theorem dX8_staysOf_7 : decode cX8_staysOf 7 = .ok (.if_icmp .ge 48, 3) := by decide +kernel
theorem dX8_staysOf_10 : decode cX8_staysOf 10 = .ok (.aload_n 0, 1) := by decide +kernel
theorem dX8_staysOf_11 : decode cX8_staysOf 11 = .ok (.iload_n 1, 1) := by decide +kernel
theorem dX8_staysOf_12 : decode cX8_staysOf 12 = .ok (.aload_n 0, 1) := by decide +kernel
theorem dX8_staysOf_13 : decode cX8_staysOf 13 = .ok (.getfield 35, 3) := by decide +kernel
theorem dX8_staysOf_16 : decode cX8_staysOf 16 = .ok (.iload_n 1, 1) := by decide +kernel
theorem dX8_staysOf_17 : decode cX8_staysOf 17 = .ok (.iaload, 1) := by decide +kernel
theorem dX8_staysOf_18 : decode cX8_staysOf 18 = .ok (.iload_n 3, 1) := by decide +kernel
theorem dX8_staysOf_19 : decode cX8_staysOf 19 = .ok (.invokevirtual 104, 3) := by decide +kernel
theorem dX8_staysOf_22 : decode cX8_staysOf 22 = .ok (.istore 4, 2) := by decide +kernel
theorem dX8_staysOf_24 : decode cX8_staysOf 24 = .ok (.iload_n 2, 1) := by decide +kernel
theorem dX8_staysOf_25 : decode cX8_staysOf 25 = .ok (.iload 4, 2) := by decide +kernel
theorem dX8_staysOf_27 : decode cX8_staysOf 27 = .ok (.iconst (-1), 1) := by decide +kernel
theorem dX8_staysOf_28 : decode cX8_staysOf 28 = .ok (.if_icmp .eq 9, 3) := by decide +kernel
theorem dX8_staysOf_31 : decode cX8_staysOf 31 = .ok (.iload 4, 2) := by decide +kernel
theorem dX8_staysOf_33 : decode cX8_staysOf 33 = .ok (.iload_n 1, 1) := by decide +kernel
theorem dX8_staysOf_34 : decode cX8_staysOf 34 = .ok (.if_icmp .ne 12, 3) := by decide +kernel
theorem dX8_staysOf_37 : decode cX8_staysOf 37 = .ok (.aload_n 0, 1) := by decide +kernel
theorem dX8_staysOf_38 : decode cX8_staysOf 38 = .ok (.getfield 13, 3) := by decide +kernel
theorem dX8_staysOf_41 : decode cX8_staysOf 41 = .ok (.iload_n 3, 1) := by decide +kernel
theorem dX8_staysOf_42 : decode cX8_staysOf 42 = .ok (.iaload, 1) := by decide +kernel
theorem dX8_staysOf_43 : decode cX8_staysOf 43 = .ok (.goto 4, 3) := by decide +kernel
theorem dX8_staysOf_46 : decode cX8_staysOf 46 = .ok (.iconst 0, 1) := by decide +kernel
theorem dX8_staysOf_47 : decode cX8_staysOf 47 = .ok (.iadd, 1) := by decide +kernel
theorem dX8_staysOf_48 : decode cX8_staysOf 48 = .ok (.istore_n 2, 1) := by decide +kernel
theorem dX8_staysOf_49 : decode cX8_staysOf 49 = .ok (.iinc 3 1, 3) := by decide +kernel
theorem dX8_staysOf_52 : decode cX8_staysOf 52 = .ok (.goto (-48), 3) := by decide +kernel
theorem dX8_staysOf_55 : decode cX8_staysOf 55 = .ok (.iload_n 2, 1) := by decide +kernel
theorem dX8_staysOf_56 : decode cX8_staysOf 56 = .ok (.ireturn, 1) := by decide +kernel
set_option maxRecDepth 20000 in
theorem ggX8_wonBy_X8_leaves : GoodIn wsX8_wonBy wsX8_leaves := goodIn_r _ [9, 10, 11, 12, 13, 14, 15, 8, 16, 17, 18, 19, 20, 21, 22, 23, 24, 25, 26, 27, 28, 29, 30, 31, 32, 33, 34, 35, 36, 37, 38, 39, 40, 41, 42, 43, 44, 45, 46, 47, 48, 49, 50] (by decide +kernel) (by decide +kernel)
set_option maxRecDepth 20000 in
theorem gX8_wonBy_X8_leaves : GoodIn wsX8_wonBy (wsV RX8 104 RX8 yX8_leaves wsX8_leaves) := goodIn_app (goodIn_of _ (by decide +kernel)) ggX8_wonBy_X8_leaves
theorem dX8_wonBy_0 : decode cX8_wonBy 0 = .ok (.dconst 0, 1) := by decide +kernel
theorem dX8_wonBy_1 : decode cX8_wonBy 1 = .ok (.dstore_n 3, 1) := by decide +kernel
theorem dX8_wonBy_2 : decode cX8_wonBy 2 = .ok (.iconst 0, 1) := by decide +kernel
theorem dX8_wonBy_3 : decode cX8_wonBy 3 = .ok (.istore 5, 2) := by decide +kernel
theorem dX8_wonBy_5 : decode cX8_wonBy 5 = .ok (.iload 5, 2) := by decide +kernel
theorem dX8_wonBy_7 : decode cX8_wonBy 7 = .ok (.bipush 25, 2) := by decide +kernel
theorem dX8_wonBy_9 : decode cX8_wonBy 9 = .ok (.if_icmp .ge 81, 3) := by decide +kernel
theorem dX8_wonBy_12 : decode cX8_wonBy 12 = .ok (.aload_n 0, 1) := by decide +kernel
theorem dX8_wonBy_13 : decode cX8_wonBy 13 = .ok (.iload_n 1, 1) := by decide +kernel
theorem dX8_wonBy_14 : decode cX8_wonBy 14 = .ok (.aload_n 0, 1) := by decide +kernel
theorem dX8_wonBy_15 : decode cX8_wonBy 15 = .ok (.getfield 35, 3) := by decide +kernel
theorem dX8_wonBy_18 : decode cX8_wonBy 18 = .ok (.iload_n 1, 1) := by decide +kernel
theorem dX8_wonBy_19 : decode cX8_wonBy 19 = .ok (.iaload, 1) := by decide +kernel
theorem dX8_wonBy_20 : decode cX8_wonBy 20 = .ok (.iload 5, 2) := by decide +kernel
theorem dX8_wonBy_22 : decode cX8_wonBy 22 = .ok (.invokevirtual 104, 3) := by decide +kernel
theorem dX8_wonBy_25 : decode cX8_wonBy 25 = .ok (.istore 6, 2) := by decide +kernel
theorem dX8_wonBy_27 : decode cX8_wonBy 27 = .ok (.aload_n 0, 1) := by decide +kernel
theorem dX8_wonBy_28 : decode cX8_wonBy 28 = .ok (.getfield 13, 3) := by decide +kernel
theorem dX8_wonBy_31 : decode cX8_wonBy 31 = .ok (.iload 5, 2) := by decide +kernel
theorem dX8_wonBy_33 : decode cX8_wonBy 33 = .ok (.iaload, 1) := by decide +kernel
theorem dX8_wonBy_34 : decode cX8_wonBy 34 = .ok (.ifCond .le 50, 3) := by decide +kernel
theorem dX8_wonBy_37 : decode cX8_wonBy 37 = .ok (.iload 6, 2) := by decide +kernel
theorem dX8_wonBy_39 : decode cX8_wonBy 39 = .ok (.iconst (-1), 1) := by decide +kernel
theorem dX8_wonBy_40 : decode cX8_wonBy 40 = .ok (.if_icmp .eq 44, 3) := by decide +kernel
theorem dX8_wonBy_43 : decode cX8_wonBy 43 = .ok (.iload 6, 2) := by decide +kernel
theorem dX8_wonBy_45 : decode cX8_wonBy 45 = .ok (.iload_n 1, 1) := by decide +kernel
theorem dX8_wonBy_46 : decode cX8_wonBy 46 = .ok (.if_icmp .eq 38, 3) := by decide +kernel
theorem dX8_wonBy_49 : decode cX8_wonBy 49 = .ok (.dload_n 3, 1) := by decide +kernel
theorem dX8_wonBy_50 : decode cX8_wonBy 50 = .ok (.aload_n 0, 1) := by decide +kernel
theorem dX8_wonBy_51 : decode cX8_wonBy 51 = .ok (.getfield 13, 3) := by decide +kernel
theorem dX8_wonBy_54 : decode cX8_wonBy 54 = .ok (.iload 5, 2) := by decide +kernel
theorem dX8_wonBy_56 : decode cX8_wonBy 56 = .ok (.iaload, 1) := by decide +kernel
theorem dX8_wonBy_57 : decode cX8_wonBy 57 = .ok (.i2d, 1) := by decide +kernel
theorem dX8_wonBy_58 : decode cX8_wonBy 58 = .ok (.iload 6, 2) := by decide +kernel
theorem dX8_wonBy_60 : decode cX8_wonBy 60 = .ok (.ifCond .ne 7, 3) := by decide +kernel
theorem dX8_wonBy_63 : decode cX8_wonBy 63 = .ok (.dconst 1, 1) := by decide +kernel
theorem dX8_wonBy_64 : decode cX8_wonBy 64 = .ok (.goto 17, 3) := by decide +kernel
theorem dX8_wonBy_67 : decode cX8_wonBy 67 = .ok (.dconst 1, 1) := by decide +kernel
theorem dX8_wonBy_68 : decode cX8_wonBy 68 = .ok (.aload_n 0, 1) := by decide +kernel
theorem dX8_wonBy_69 : decode cX8_wonBy 69 = .ok (.getfield 38, 3) := by decide +kernel
theorem dX8_wonBy_72 : decode cX8_wonBy 72 = .ok (.bipush 81, 2) := by decide +kernel
theorem dX8_wonBy_74 : decode cX8_wonBy 74 = .ok (.iload_n 2, 1) := by decide +kernel
theorem dX8_wonBy_75 : decode cX8_wonBy 75 = .ok (.imul, 1) := by decide +kernel
theorem dX8_wonBy_76 : decode cX8_wonBy 76 = .ok (.iload 6, 2) := by decide +kernel
theorem dX8_wonBy_78 : decode cX8_wonBy 78 = .ok (.iadd, 1) := by decide +kernel
theorem dX8_wonBy_79 : decode cX8_wonBy 79 = .ok (.daload, 1) := by decide +kernel
theorem dX8_wonBy_80 : decode cX8_wonBy 80 = .ok (.dsub, 1) := by decide +kernel
theorem dX8_wonBy_81 : decode cX8_wonBy 81 = .ok (.dmul, 1) := by decide +kernel
theorem dX8_wonBy_82 : decode cX8_wonBy 82 = .ok (.dadd, 1) := by decide +kernel
theorem dX8_wonBy_83 : decode cX8_wonBy 83 = .ok (.dstore_n 3, 1) := by decide +kernel
theorem dX8_wonBy_84 : decode cX8_wonBy 84 = .ok (.iinc 5 1, 3) := by decide +kernel
theorem dX8_wonBy_87 : decode cX8_wonBy 87 = .ok (.goto (-82), 3) := by decide +kernel
theorem dX8_wonBy_90 : decode cX8_wonBy 90 = .ok (.dload_n 3, 1) := by decide +kernel
theorem dX8_wonBy_91 : decode cX8_wonBy 91 = .ok (.aload_n 0, 1) := by decide +kernel
theorem dX8_wonBy_92 : decode cX8_wonBy 92 = .ok (.getfield 16, 3) := by decide +kernel
theorem dX8_wonBy_95 : decode cX8_wonBy 95 = .ok (.i2d, 1) := by decide +kernel
theorem dX8_wonBy_96 : decode cX8_wonBy 96 = .ok (.ddiv, 1) := by decide +kernel
theorem dX8_wonBy_97 : decode cX8_wonBy 97 = .ok (.dreturn, 1) := by decide +kernel
set_option maxRecDepth 20000 in
theorem ggX8_winsFor_X8_wonBy : GoodIn wsX8_winsFor wsX8_wonBy := goodIn_r _ [8, 1, 9, 3, 2, 10, 11, 12, 7, 13, 14, 15, 16, 17, 18, 19, 20, 21, 22, 23, 24, 25, 30, 31, 32, 33, 34, 35, 36, 37, 38, 39, 40, 41, 42, 43, 44, 45, 46, 47, 48, 49, 50, 51, 52, 53, 54, 55, 56, 57, 58] (by decide +kernel) (by decide +kernel)
set_option maxRecDepth 20000 in
theorem gX8_winsFor_X8_wonBy : GoodIn wsX8_winsFor (wsV RX8 117 RX8 yX8_wonBy wsX8_wonBy) := goodIn_app (goodIn_of _ (by decide +kernel)) ggX8_winsFor_X8_wonBy
set_option maxRecDepth 20000 in
theorem ggX8_winsFor_X8_staysOf : GoodIn wsX8_winsFor wsX8_staysOf := goodIn_r _ [29, 1, 9, 10, 11, 12, 7, 13, 14, 15, 16, 17, 18, 19, 20, 21, 22, 23, 24, 25, 30, 31, 32, 33, 34, 35, 36, 37, 38, 39, 40, 41, 42, 43, 44, 45, 46, 47, 48, 49, 50, 51, 52, 53, 54, 55, 56, 57, 58] (by decide +kernel) (by decide +kernel)
set_option maxRecDepth 20000 in
theorem gX8_winsFor_X8_staysOf : GoodIn wsX8_winsFor (wsV RX8 121 RX8 yX8_staysOf wsX8_staysOf) := goodIn_app (goodIn_of _ (by decide +kernel)) ggX8_winsFor_X8_staysOf
theorem dX8_winsFor_0 : decode cX8_winsFor 0 = .ok (.aload_n 0, 1) := by decide +kernel
theorem dX8_winsFor_1 : decode cX8_winsFor 1 = .ok (.getfield 35, 3) := by decide +kernel
theorem dX8_winsFor_4 : decode cX8_winsFor 4 = .ok (.iload_n 1, 1) := by decide +kernel
theorem dX8_winsFor_5 : decode cX8_winsFor 5 = .ok (.iaload, 1) := by decide +kernel
theorem dX8_winsFor_6 : decode cX8_winsFor 6 = .ok (.iconst (-1), 1) := by decide +kernel
theorem dX8_winsFor_7 : decode cX8_winsFor 7 = .ok (.if_icmp .eq 13, 3) := by decide +kernel
theorem dX8_winsFor_10 : decode cX8_winsFor 10 = .ok (.aload_n 0, 1) := by decide +kernel
theorem dX8_winsFor_11 : decode cX8_winsFor 11 = .ok (.getfield 35, 3) := by decide +kernel
theorem dX8_winsFor_14 : decode cX8_winsFor 14 = .ok (.iload_n 2, 1) := by decide +kernel
theorem dX8_winsFor_15 : decode cX8_winsFor 15 = .ok (.iaload, 1) := by decide +kernel
theorem dX8_winsFor_16 : decode cX8_winsFor 16 = .ok (.iconst (-1), 1) := by decide +kernel
theorem dX8_winsFor_17 : decode cX8_winsFor 17 = .ok (.if_icmp .ne 4, 3) := by decide +kernel
theorem dX8_winsFor_20 : decode cX8_winsFor 20 = .ok (.return_, 1) := by decide +kernel
theorem dX8_winsFor_21 : decode cX8_winsFor 21 = .ok (.aload_n 0, 1) := by decide +kernel
theorem dX8_winsFor_22 : decode cX8_winsFor 22 = .ok (.iload_n 1, 1) := by decide +kernel
theorem dX8_winsFor_23 : decode cX8_winsFor 23 = .ok (.iload_n 2, 1) := by decide +kernel
theorem dX8_winsFor_24 : decode cX8_winsFor 24 = .ok (.invokevirtual 117, 3) := by decide +kernel
theorem dX8_winsFor_27 : decode cX8_winsFor 27 = .ok (.dstore_n 3, 1) := by decide +kernel
theorem dX8_winsFor_28 : decode cX8_winsFor 28 = .ok (.aload_n 0, 1) := by decide +kernel
theorem dX8_winsFor_29 : decode cX8_winsFor 29 = .ok (.iload_n 2, 1) := by decide +kernel
theorem dX8_winsFor_30 : decode cX8_winsFor 30 = .ok (.iload_n 1, 1) := by decide +kernel
theorem dX8_winsFor_31 : decode cX8_winsFor 31 = .ok (.invokevirtual 117, 3) := by decide +kernel
theorem dX8_winsFor_34 : decode cX8_winsFor 34 = .ok (.dstore 5, 2) := by decide +kernel
theorem dX8_winsFor_36 : decode cX8_winsFor 36 = .ok (.aload_n 0, 1) := by decide +kernel
theorem dX8_winsFor_37 : decode cX8_winsFor 37 = .ok (.iload_n 1, 1) := by decide +kernel
theorem dX8_winsFor_38 : decode cX8_winsFor 38 = .ok (.invokevirtual 121, 3) := by decide +kernel
theorem dX8_winsFor_41 : decode cX8_winsFor 41 = .ok (.i2d, 1) := by decide +kernel
theorem dX8_winsFor_42 : decode cX8_winsFor 42 = .ok (.aload_n 0, 1) := by decide +kernel
theorem dX8_winsFor_43 : decode cX8_winsFor 43 = .ok (.getfield 16, 3) := by decide +kernel
theorem dX8_winsFor_46 : decode cX8_winsFor 46 = .ok (.i2d, 1) := by decide +kernel
theorem dX8_winsFor_47 : decode cX8_winsFor 47 = .ok (.ddiv, 1) := by decide +kernel
theorem dX8_winsFor_48 : decode cX8_winsFor 48 = .ok (.dstore 7, 2) := by decide +kernel
theorem dX8_winsFor_50 : decode cX8_winsFor 50 = .ok (.aload_n 0, 1) := by decide +kernel
theorem dX8_winsFor_51 : decode cX8_winsFor 51 = .ok (.iload_n 2, 1) := by decide +kernel
theorem dX8_winsFor_52 : decode cX8_winsFor 52 = .ok (.invokevirtual 121, 3) := by decide +kernel
theorem dX8_winsFor_55 : decode cX8_winsFor 55 = .ok (.i2d, 1) := by decide +kernel
theorem dX8_winsFor_56 : decode cX8_winsFor 56 = .ok (.aload_n 0, 1) := by decide +kernel
theorem dX8_winsFor_57 : decode cX8_winsFor 57 = .ok (.getfield 16, 3) := by decide +kernel
theorem dX8_winsFor_60 : decode cX8_winsFor 60 = .ok (.i2d, 1) := by decide +kernel
theorem dX8_winsFor_61 : decode cX8_winsFor 61 = .ok (.ddiv, 1) := by decide +kernel
theorem dX8_winsFor_62 : decode cX8_winsFor 62 = .ok (.dstore 9, 2) := by decide +kernel
theorem dX8_winsFor_64 : decode cX8_winsFor 64 = .ok (.aload_n 0, 1) := by decide +kernel
theorem dX8_winsFor_65 : decode cX8_winsFor 65 = .ok (.getfield 38, 3) := by decide +kernel
theorem dX8_winsFor_68 : decode cX8_winsFor 68 = .ok (.bipush 81, 2) := by decide +kernel
theorem dX8_winsFor_70 : decode cX8_winsFor 70 = .ok (.iload_n 1, 1) := by decide +kernel
theorem dX8_winsFor_71 : decode cX8_winsFor 71 = .ok (.imul, 1) := by decide +kernel
theorem dX8_winsFor_72 : decode cX8_winsFor 72 = .ok (.iload_n 2, 1) := by decide +kernel
theorem dX8_winsFor_73 : decode cX8_winsFor 73 = .ok (.iadd, 1) := by decide +kernel
theorem dX8_winsFor_74 : decode cX8_winsFor 74 = .ok (.dload_n 3, 1) := by decide +kernel
theorem dX8_winsFor_75 : decode cX8_winsFor 75 = .ok (.dload 7, 2) := by decide +kernel
theorem dX8_winsFor_77 : decode cX8_winsFor 77 = .ok (.dconst 1, 1) := by decide +kernel
theorem dX8_winsFor_78 : decode cX8_winsFor 78 = .ok (.dload 5, 2) := by decide +kernel
theorem dX8_winsFor_80 : decode cX8_winsFor 80 = .ok (.dsub, 1) := by decide +kernel
theorem dX8_winsFor_81 : decode cX8_winsFor 81 = .ok (.dload 9, 2) := by decide +kernel
theorem dX8_winsFor_83 : decode cX8_winsFor 83 = .ok (.dsub, 1) := by decide +kernel
theorem dX8_winsFor_84 : decode cX8_winsFor 84 = .ok (.dmul, 1) := by decide +kernel
theorem dX8_winsFor_85 : decode cX8_winsFor 85 = .ok (.dadd, 1) := by decide +kernel
theorem dX8_winsFor_86 : decode cX8_winsFor 86 = .ok (.dconst 1, 1) := by decide +kernel
theorem dX8_winsFor_87 : decode cX8_winsFor 87 = .ok (.dload 7, 2) := by decide +kernel
theorem dX8_winsFor_89 : decode cX8_winsFor 89 = .ok (.dload 9, 2) := by decide +kernel
theorem dX8_winsFor_91 : decode cX8_winsFor 91 = .ok (.dmul, 1) := by decide +kernel
theorem dX8_winsFor_92 : decode cX8_winsFor 92 = .ok (.dsub, 1) := by decide +kernel
theorem dX8_winsFor_93 : decode cX8_winsFor 93 = .ok (.ddiv, 1) := by decide +kernel
theorem dX8_winsFor_94 : decode cX8_winsFor 94 = .ok (.dastore, 1) := by decide +kernel
theorem dX8_winsFor_95 : decode cX8_winsFor 95 = .ok (.return_, 1) := by decide +kernel
set_option maxRecDepth 20000 in
theorem ggX8_findThrows_X8_throwsFor : GoodIn wsX8_findThrows wsX8_throwsFor := goodIn_r _ [6, 7, 8, 9, 10, 11, 12, 13, 5, 14, 15, 16, 17, 18, 19, 20, 21, 22, 23, 24, 25, 26, 40, 41, 42, 43, 44, 45, 46, 47, 48, 49, 50, 51, 52, 53, 54, 55, 56, 57, 58, 59, 60, 61, 62, 63, 64, 65, 66, 67, 68] (by decide +kernel) (by decide +kernel)
set_option maxRecDepth 20000 in
theorem gX8_findThrows_X8_throwsFor : GoodIn wsX8_findThrows (wsV RX8 124 RX8 yX8_throwsFor wsX8_throwsFor) := goodIn_app (goodIn_of _ (by decide +kernel)) ggX8_findThrows_X8_throwsFor
set_option maxRecDepth 20000 in
theorem ggX8_findThrows_X8_winsFor : GoodIn wsX8_findThrows wsX8_winsFor := goodIn_r _ [30, 7, 10, 31, 32, 33, 34, 5, 35, 8, 11, 12, 13, 14, 15, 16, 17, 18, 19, 20, 21, 22, 23, 24, 25, 26, 36, 37, 38, 39, 40, 41, 42, 43, 44, 45, 46, 47, 48, 49, 50, 51, 52, 53, 54, 55, 56, 57, 58, 59, 60, 61, 62, 63, 64, 65, 66, 67, 68] (by decide +kernel) (by decide +kernel)
set_option maxRecDepth 20000 in
theorem gX8_findThrows_X8_winsFor : GoodIn wsX8_findThrows (wsV RX8 128 RX8 yX8_winsFor wsX8_winsFor) := goodIn_app (goodIn_of _ (by decide +kernel)) ggX8_findThrows_X8_winsFor
theorem dX8_findThrows_0 : decode cX8_findThrows 0 = .ok (.aload_n 0, 1) := by decide +kernel
theorem dX8_findThrows_1 : decode cX8_findThrows 1 = .ok (.getfield 66, 3) := by decide +kernel
theorem dX8_findThrows_4 : decode cX8_findThrows 4 = .ok (.ifCond .eq 4, 3) := by decide +kernel
theorem dX8_findThrows_7 : decode cX8_findThrows 7 = .ok (.return_, 1) := by decide +kernel
theorem dX8_findThrows_8 : decode cX8_findThrows 8 = .ok (.aload_n 0, 1) := by decide +kernel
theorem dX8_findThrows_9 : decode cX8_findThrows 9 = .ok (.iconst 1, 1) := by decide +kernel
theorem dX8_findThrows_10 : decode cX8_findThrows 10 = .ok (.putfield 66, 3) := by decide +kernel
theorem dX8_findThrows_13 : decode cX8_findThrows 13 = .ok (.iconst 1, 1) := by decide +kernel
theorem dX8_findThrows_14 : decode cX8_findThrows 14 = .ok (.istore_n 1, 1) := by decide +kernel
theorem dX8_findThrows_15 : decode cX8_findThrows 15 = .ok (.iload_n 1, 1) := by decide +kernel
theorem dX8_findThrows_16 : decode cX8_findThrows 16 = .ok (.sipush 301, 3) := by decide +kernel
theorem dX8_findThrows_19 : decode cX8_findThrows 19 = .ok (.if_icmp .gt 14, 3) := by decide +kernel
theorem dX8_findThrows_22 : decode cX8_findThrows 22 = .ok (.aload_n 0, 1) := by decide +kernel
theorem dX8_findThrows_23 : decode cX8_findThrows 23 = .ok (.iload_n 1, 1) := by decide +kernel
theorem dX8_findThrows_24 : decode cX8_findThrows 24 = .ok (.invokevirtual 124, 3) := by decide +kernel
theorem dX8_findThrows_27 : decode cX8_findThrows 27 = .ok (.iinc 1 1, 3) := by decide +kernel
theorem dX8_findThrows_30 : decode cX8_findThrows 30 = .ok (.goto (-15), 3) := by decide +kernel
theorem dX8_findThrows_33 : decode cX8_findThrows 33 = .ok (.iconst 2, 1) := by decide +kernel
theorem dX8_findThrows_34 : decode cX8_findThrows 34 = .ok (.istore_n 1, 1) := by decide +kernel
theorem dX8_findThrows_35 : decode cX8_findThrows 35 = .ok (.iload_n 1, 1) := by decide +kernel
theorem dX8_findThrows_36 : decode cX8_findThrows 36 = .ok (.sipush 160, 3) := by decide +kernel
theorem dX8_findThrows_39 : decode cX8_findThrows 39 = .ok (.if_icmp .gt 44, 3) := by decide +kernel
theorem dX8_findThrows_42 : decode cX8_findThrows 42 = .ok (.iconst 1, 1) := by decide +kernel
theorem dX8_findThrows_43 : decode cX8_findThrows 43 = .ok (.istore_n 2, 1) := by decide +kernel
theorem dX8_findThrows_44 : decode cX8_findThrows 44 = .ok (.iload_n 2, 1) := by decide +kernel
theorem dX8_findThrows_45 : decode cX8_findThrows 45 = .ok (.bipush 80, 2) := by decide +kernel
theorem dX8_findThrows_47 : decode cX8_findThrows 47 = .ok (.if_icmp .gt 30, 3) := by decide +kernel
theorem dX8_findThrows_50 : decode cX8_findThrows 50 = .ok (.iload_n 2, 1) := by decide +kernel
theorem dX8_findThrows_51 : decode cX8_findThrows 51 = .ok (.iload_n 1, 1) := by decide +kernel
theorem dX8_findThrows_52 : decode cX8_findThrows 52 = .ok (.if_icmp .ge 25, 3) := by decide +kernel
theorem dX8_findThrows_55 : decode cX8_findThrows 55 = .ok (.iload_n 1, 1) := by decide +kernel
theorem dX8_findThrows_56 : decode cX8_findThrows 56 = .ok (.iload_n 2, 1) := by decide +kernel
theorem dX8_findThrows_57 : decode cX8_findThrows 57 = .ok (.isub, 1) := by decide +kernel
theorem dX8_findThrows_58 : decode cX8_findThrows 58 = .ok (.bipush 80, 2) := by decide +kernel
theorem dX8_findThrows_60 : decode cX8_findThrows 60 = .ok (.if_icmp .gt 11, 3) := by decide +kernel
theorem dX8_findThrows_63 : decode cX8_findThrows 63 = .ok (.aload_n 0, 1) := by decide +kernel
theorem dX8_findThrows_64 : decode cX8_findThrows 64 = .ok (.iload_n 2, 1) := by decide +kernel
theorem dX8_findThrows_65 : decode cX8_findThrows 65 = .ok (.iload_n 1, 1) := by decide +kernel
theorem dX8_findThrows_66 : decode cX8_findThrows 66 = .ok (.iload_n 2, 1) := by decide +kernel
theorem dX8_findThrows_67 : decode cX8_findThrows 67 = .ok (.isub, 1) := by decide +kernel
theorem dX8_findThrows_68 : decode cX8_findThrows 68 = .ok (.invokevirtual 128, 3) := by decide +kernel
theorem dX8_findThrows_71 : decode cX8_findThrows 71 = .ok (.iinc 2 1, 3) := by decide +kernel
theorem dX8_findThrows_74 : decode cX8_findThrows 74 = .ok (.goto (-30), 3) := by decide +kernel
theorem dX8_findThrows_77 : decode cX8_findThrows 77 = .ok (.iinc 1 1, 3) := by decide +kernel
theorem dX8_findThrows_80 : decode cX8_findThrows 80 = .ok (.goto (-45), 3) := by decide +kernel
theorem dX8_findThrows_83 : decode cX8_findThrows 83 = .ok (.return_, 1) := by decide +kernel
theorem dX8_bitsOf_0 : decode cX8_bitsOf 0 = .ok (.dload_n 0, 1) := by decide +kernel
theorem dX8_bitsOf_1 : decode cX8_bitsOf 1 = .ok (.dconst 0, 1) := by decide +kernel
theorem dX8_bitsOf_2 : decode cX8_bitsOf 2 = .ok (.dcmp .g, 1) := by decide +kernel
theorem dX8_bitsOf_3 : decode cX8_bitsOf 3 = .ok (.ifCond .lt 17, 3) := by decide +kernel
theorem dX8_bitsOf_6 : decode cX8_bitsOf 6 = .ok (.dload_n 0, 1) := by decide +kernel
theorem dX8_bitsOf_7 : decode cX8_bitsOf 7 = .ok (.dconst 0, 1) := by decide +kernel
theorem dX8_bitsOf_8 : decode cX8_bitsOf 8 = .ok (.dcmp .l, 1) := by decide +kernel
theorem dX8_bitsOf_9 : decode cX8_bitsOf 9 = .ok (.ifCond .ne 15, 3) := by decide +kernel
theorem dX8_bitsOf_12 : decode cX8_bitsOf 12 = .ok (.dconst 1, 1) := by decide +kernel
theorem dX8_bitsOf_13 : decode cX8_bitsOf 13 = .ok (.dload_n 0, 1) := by decide +kernel
theorem dX8_bitsOf_14 : decode cX8_bitsOf 14 = .ok (.ddiv, 1) := by decide +kernel
theorem dX8_bitsOf_15 : decode cX8_bitsOf 15 = .ok (.dconst 0, 1) := by decide +kernel
theorem dX8_bitsOf_16 : decode cX8_bitsOf 16 = .ok (.dcmp .g, 1) := by decide +kernel
theorem dX8_bitsOf_17 : decode cX8_bitsOf 17 = .ok (.ifCond .ge 7, 3) := by decide +kernel
theorem dX8_bitsOf_20 : decode cX8_bitsOf 20 = .ok (.iconst 1, 1) := by decide +kernel
theorem dX8_bitsOf_21 : decode cX8_bitsOf 21 = .ok (.goto 4, 3) := by decide +kernel
theorem dX8_bitsOf_24 : decode cX8_bitsOf 24 = .ok (.iconst 0, 1) := by decide +kernel
theorem dX8_bitsOf_25 : decode cX8_bitsOf 25 = .ok (.istore_n 2, 1) := by decide +kernel
theorem dX8_bitsOf_26 : decode cX8_bitsOf 26 = .ok (.iload_n 2, 1) := by decide +kernel
theorem dX8_bitsOf_27 : decode cX8_bitsOf 27 = .ok (.ifCond .eq 9, 3) := by decide +kernel
theorem dX8_bitsOf_30 : decode cX8_bitsOf 30 = .ok (.dconst 0, 1) := by decide +kernel
theorem dX8_bitsOf_31 : decode cX8_bitsOf 31 = .ok (.dload_n 0, 1) := by decide +kernel
theorem dX8_bitsOf_32 : decode cX8_bitsOf 32 = .ok (.dsub, 1) := by decide +kernel
theorem dX8_bitsOf_33 : decode cX8_bitsOf 33 = .ok (.goto 4, 3) := by decide +kernel
theorem dX8_bitsOf_36 : decode cX8_bitsOf 36 = .ok (.dload_n 0, 1) := by decide +kernel
theorem dX8_bitsOf_37 : decode cX8_bitsOf 37 = .ok (.dstore_n 3, 1) := by decide +kernel
theorem dX8_bitsOf_38 : decode cX8_bitsOf 38 = .ok (.sipush 1075, 3) := by decide +kernel
theorem dX8_bitsOf_41 : decode cX8_bitsOf 41 = .ok (.istore 5, 2) := by decide +kernel
theorem dX8_bitsOf_43 : decode cX8_bitsOf 43 = .ok (.dload_n 3, 1) := by decide +kernel
theorem dX8_bitsOf_44 : decode cX8_bitsOf 44 = .ok (.ldc2_w 131, 3) := by decide +kernel
theorem dX8_bitsOf_47 : decode cX8_bitsOf 47 = .ok (.dcmp .l, 1) := by decide +kernel
theorem dX8_bitsOf_48 : decode cX8_bitsOf 48 = .ok (.ifCond .lt 15, 3) := by decide +kernel
theorem dX8_bitsOf_51 : decode cX8_bitsOf 51 = .ok (.dload_n 3, 1) := by decide +kernel
theorem dX8_bitsOf_52 : decode cX8_bitsOf 52 = .ok (.ldc2_w 133, 3) := by decide +kernel
theorem dX8_bitsOf_55 : decode cX8_bitsOf 55 = .ok (.ddiv, 1) := by decide +kernel
theorem dX8_bitsOf_56 : decode cX8_bitsOf 56 = .ok (.dstore_n 3, 1) := by decide +kernel
theorem dX8_bitsOf_57 : decode cX8_bitsOf 57 = .ok (.iinc 5 1, 3) := by decide +kernel
theorem dX8_bitsOf_60 : decode cX8_bitsOf 60 = .ok (.goto (-17), 3) := by decide +kernel
theorem dX8_bitsOf_63 : decode cX8_bitsOf 63 = .ok (.dload_n 3, 1) := by decide +kernel
theorem dX8_bitsOf_64 : decode cX8_bitsOf 64 = .ok (.ldc2_w 135, 3) := by decide +kernel
theorem dX8_bitsOf_67 : decode cX8_bitsOf 67 = .ok (.dcmp .g, 1) := by decide +kernel
theorem dX8_bitsOf_68 : decode cX8_bitsOf 68 = .ok (.ifCond .ge 21, 3) := by decide +kernel
theorem dX8_bitsOf_71 : decode cX8_bitsOf 71 = .ok (.iload 5, 2) := by decide +kernel
theorem dX8_bitsOf_73 : decode cX8_bitsOf 73 = .ok (.iconst 1, 1) := by decide +kernel
theorem dX8_bitsOf_74 : decode cX8_bitsOf 74 = .ok (.if_icmp .le 15, 3) := by decide +kernel
theorem dX8_bitsOf_77 : decode cX8_bitsOf 77 = .ok (.dload_n 3, 1) := by decide +kernel
theorem dX8_bitsOf_78 : decode cX8_bitsOf 78 = .ok (.ldc2_w 133, 3) := by decide +kernel
theorem dX8_bitsOf_81 : decode cX8_bitsOf 81 = .ok (.dmul, 1) := by decide +kernel
theorem dX8_bitsOf_82 : decode cX8_bitsOf 82 = .ok (.dstore_n 3, 1) := by decide +kernel
theorem dX8_bitsOf_83 : decode cX8_bitsOf 83 = .ok (.iinc 5 (-1), 3) := by decide +kernel
theorem dX8_bitsOf_86 : decode cX8_bitsOf 86 = .ok (.goto (-23), 3) := by decide +kernel
theorem dX8_bitsOf_89 : decode cX8_bitsOf 89 = .ok (.dload_n 3, 1) := by decide +kernel
theorem dX8_bitsOf_90 : decode cX8_bitsOf 90 = .ok (.d2l, 1) := by decide +kernel
theorem dX8_bitsOf_91 : decode cX8_bitsOf 91 = .ok (.lstore 6, 2) := by decide +kernel
theorem dX8_bitsOf_93 : decode cX8_bitsOf 93 = .ok (.lload 6, 2) := by decide +kernel
theorem dX8_bitsOf_95 : decode cX8_bitsOf 95 = .ok (.ldc2_w 137, 3) := by decide +kernel
theorem dX8_bitsOf_98 : decode cX8_bitsOf 98 = .ok (.lcmp, 1) := by decide +kernel
theorem dX8_bitsOf_99 : decode cX8_bitsOf 99 = .ok (.ifCond .ge 8, 3) := by decide +kernel
theorem dX8_bitsOf_102 : decode cX8_bitsOf 102 = .ok (.lload 6, 2) := by decide +kernel
theorem dX8_bitsOf_104 : decode cX8_bitsOf 104 = .ok (.goto 16, 3) := by decide +kernel
theorem dX8_bitsOf_107 : decode cX8_bitsOf 107 = .ok (.lload 6, 2) := by decide +kernel
theorem dX8_bitsOf_109 : decode cX8_bitsOf 109 = .ok (.ldc2_w 137, 3) := by decide +kernel
theorem dX8_bitsOf_112 : decode cX8_bitsOf 112 = .ok (.lsub, 1) := by decide +kernel
theorem dX8_bitsOf_113 : decode cX8_bitsOf 113 = .ok (.iload 5, 2) := by decide +kernel
theorem dX8_bitsOf_115 : decode cX8_bitsOf 115 = .ok (.i2l, 1) := by decide +kernel
theorem dX8_bitsOf_116 : decode cX8_bitsOf 116 = .ok (.bipush 52, 2) := by decide +kernel
theorem dX8_bitsOf_118 : decode cX8_bitsOf 118 = .ok (.lshl, 1) := by decide +kernel
theorem dX8_bitsOf_119 : decode cX8_bitsOf 119 = .ok (.ladd, 1) := by decide +kernel
theorem dX8_bitsOf_120 : decode cX8_bitsOf 120 = .ok (.lstore 8, 2) := by decide +kernel
theorem dX8_bitsOf_122 : decode cX8_bitsOf 122 = .ok (.iload_n 2, 1) := by decide +kernel
theorem dX8_bitsOf_123 : decode cX8_bitsOf 123 = .ok (.ifCond .eq 12, 3) := by decide +kernel
theorem dX8_bitsOf_126 : decode cX8_bitsOf 126 = .ok (.lload 8, 2) := by decide +kernel
theorem dX8_bitsOf_128 : decode cX8_bitsOf 128 = .ok (.ldc2_w 139, 3) := by decide +kernel
theorem dX8_bitsOf_131 : decode cX8_bitsOf 131 = .ok (.lor, 1) := by decide +kernel
theorem dX8_bitsOf_132 : decode cX8_bitsOf 132 = .ok (.goto 5, 3) := by decide +kernel
theorem dX8_bitsOf_135 : decode cX8_bitsOf 135 = .ok (.lload 8, 2) := by decide +kernel
theorem dX8_bitsOf_137 : decode cX8_bitsOf 137 = .ok (.lreturn, 1) := by decide +kernel
set_option maxRecDepth 20000 in
theorem ggX8_throwsOf_X8_in : GoodIn wsX8_throwsOf wsX8_in := goodIn_r _ [8] (by decide +kernel) (by decide +kernel)
set_option maxRecDepth 20000 in
theorem gX8_throwsOf_X8_in : GoodIn wsX8_throwsOf (va_wsS RX8 69 yX8_in wsX8_in) := goodIn_app (goodIn_of _ (by decide +kernel)) ggX8_throwsOf_X8_in
set_option maxRecDepth 20000 in
theorem ggX8_throwsOf_X8_findThrows : GoodIn wsX8_throwsOf wsX8_findThrows := goodIn_r _ [12, 13, 14, 15, 16, 7, 17, 2, 18, 4, 19, 20, 21, 22, 23, 24, 25, 26, 27, 28, 29, 30, 31, 32, 33, 34, 35, 36, 37, 38, 39, 40, 41, 42, 43, 44, 45, 46, 47, 48, 57, 58, 59, 60, 61, 62, 63, 64, 65, 66, 67, 68, 69, 70, 71, 72, 73, 74, 75, 76, 77, 78, 79, 80, 81, 82, 83, 84, 85] (by decide +kernel) (by decide +kernel)
set_option maxRecDepth 20000 in
theorem gX8_throwsOf_X8_findThrows : GoodIn wsX8_throwsOf (wsV RX8 141 RX8 yX8_findThrows wsX8_findThrows) := goodIn_app (goodIn_of _ (by decide +kernel)) ggX8_throwsOf_X8_findThrows
set_option maxRecDepth 20000 in
theorem ggX8_throwsOf_X8_bitsOf : GoodIn wsX8_throwsOf wsX8_bitsOf := goodIn_r _ [51, 52, 53, 54, 55, 56] (by decide +kernel) (by decide +kernel)
set_option maxRecDepth 20000 in
theorem gX8_throwsOf_X8_bitsOf : GoodIn wsX8_throwsOf (va_wsS RX8 146 yX8_bitsOf wsX8_bitsOf) := goodIn_app (goodIn_of _ (by decide +kernel)) ggX8_throwsOf_X8_bitsOf
theorem dX8_throwsOf_0 : decode cX8_throwsOf 0 = .ok (.iload_n 1, 1) := by decide +kernel
theorem dX8_throwsOf_1 : decode cX8_throwsOf 1 = .ok (.iconst 1, 1) := by decide +kernel
theorem dX8_throwsOf_2 : decode cX8_throwsOf 2 = .ok (.sipush 301, 3) := by decide +kernel
theorem dX8_throwsOf_5 : decode cX8_throwsOf 5 = .ok (.invokestatic 69, 3) := by decide +kernel
theorem dX8_throwsOf_8 : decode cX8_throwsOf 8 = .ok (.ifCond .ne 7, 3) := by decide +kernel
theorem dX8_throwsOf_11 : decode cX8_throwsOf 11 = .ok (.ldc2_w 112, 3) := by decide +kernel
theorem dX8_throwsOf_14 : decode cX8_throwsOf 14 = .ok (.lreturn, 1) := by decide +kernel
theorem dX8_throwsOf_15 : decode cX8_throwsOf 15 = .ok (.aload_n 0, 1) := by decide +kernel
theorem dX8_throwsOf_16 : decode cX8_throwsOf 16 = .ok (.invokevirtual 141, 3) := by decide +kernel
theorem dX8_throwsOf_19 : decode cX8_throwsOf 19 = .ok (.aload_n 0, 1) := by decide +kernel
theorem dX8_throwsOf_20 : decode cX8_throwsOf 20 = .ok (.getfield 35, 3) := by decide +kernel
theorem dX8_throwsOf_23 : decode cX8_throwsOf 23 = .ok (.iload_n 1, 1) := by decide +kernel
theorem dX8_throwsOf_24 : decode cX8_throwsOf 24 = .ok (.iaload, 1) := by decide +kernel
theorem dX8_throwsOf_25 : decode cX8_throwsOf 25 = .ok (.iconst (-1), 1) := by decide +kernel
theorem dX8_throwsOf_26 : decode cX8_throwsOf 26 = .ok (.if_icmp .ne 9, 3) := by decide +kernel
theorem dX8_throwsOf_29 : decode cX8_throwsOf 29 = .ok (.ldc2_w 144, 3) := by decide +kernel
theorem dX8_throwsOf_32 : decode cX8_throwsOf 32 = .ok (.goto 12, 3) := by decide +kernel
theorem dX8_throwsOf_35 : decode cX8_throwsOf 35 = .ok (.aload_n 0, 1) := by decide +kernel
theorem dX8_throwsOf_36 : decode cX8_throwsOf 36 = .ok (.getfield 31, 3) := by decide +kernel
theorem dX8_throwsOf_39 : decode cX8_throwsOf 39 = .ok (.iload_n 1, 1) := by decide +kernel
theorem dX8_throwsOf_40 : decode cX8_throwsOf 40 = .ok (.daload, 1) := by decide +kernel
theorem dX8_throwsOf_41 : decode cX8_throwsOf 41 = .ok (.invokestatic 146, 3) := by decide +kernel
theorem dX8_throwsOf_44 : decode cX8_throwsOf 44 = .ok (.lreturn, 1) := by decide +kernel
set_option maxRecDepth 20000 in
theorem ggX8_aimOf_X8_in : GoodIn wsX8_aimOf wsX8_in := goodIn_r _ [5] (by decide +kernel) (by decide +kernel)
set_option maxRecDepth 20000 in
theorem gX8_aimOf_X8_in : GoodIn wsX8_aimOf (va_wsS RX8 69 yX8_in wsX8_in) := goodIn_app (goodIn_of _ (by decide +kernel)) ggX8_aimOf_X8_in
set_option maxRecDepth 20000 in
theorem ggX8_aimOf_X8_findThrows : GoodIn wsX8_aimOf wsX8_findThrows := goodIn_r _ [9, 10, 11, 12, 13, 4, 14, 1, 15, 16, 17, 18, 19, 20, 21, 22, 23, 24, 25, 26, 27, 28, 29, 30, 31, 32, 33, 34, 35, 36, 37, 38, 39, 40, 41, 42, 43, 44, 45, 46, 47, 48, 49, 50, 51, 52, 53, 54, 55, 56, 57, 58, 59, 60, 61, 62, 63, 64, 65, 66, 67, 68, 69, 70, 71, 72, 73, 74, 75] (by decide +kernel) (by decide +kernel)
set_option maxRecDepth 20000 in
theorem gX8_aimOf_X8_findThrows : GoodIn wsX8_aimOf (wsV RX8 141 RX8 yX8_findThrows wsX8_findThrows) := goodIn_app (goodIn_of _ (by decide +kernel)) ggX8_aimOf_X8_findThrows
theorem dX8_aimOf_0 : decode cX8_aimOf 0 = .ok (.iload_n 1, 1) := by decide +kernel
theorem dX8_aimOf_1 : decode cX8_aimOf 1 = .ok (.iconst 1, 1) := by decide +kernel
theorem dX8_aimOf_2 : decode cX8_aimOf 2 = .ok (.sipush 301, 3) := by decide +kernel
theorem dX8_aimOf_5 : decode cX8_aimOf 5 = .ok (.invokestatic 69, 3) := by decide +kernel
theorem dX8_aimOf_8 : decode cX8_aimOf 8 = .ok (.ifCond .ne 6, 3) := by decide +kernel
theorem dX8_aimOf_11 : decode cX8_aimOf 11 = .ok (.bipush (-2), 2) := by decide +kernel
theorem dX8_aimOf_13 : decode cX8_aimOf 13 = .ok (.ireturn, 1) := by decide +kernel
