theorem dJ9_floorMod_7cf53_0 : decode cJ9_floorMod_7cf53 0 = .ok (.iload_n 0, 1) := by decide +kernel
theorem dJ9_floorMod_7cf53_1 : decode cJ9_floorMod_7cf53 1 = .ok (.iload_n 1, 1) := by decide +kernel
theorem dJ9_floorMod_7cf53_2 : decode cJ9_floorMod_7cf53 2 = .ok (.irem, 1) := by decide +kernel
theorem dJ9_floorMod_7cf53_3 : decode cJ9_floorMod_7cf53 3 = .ok (.istore_n 2, 1) := by decide +kernel
theorem dJ9_floorMod_7cf53_4 : decode cJ9_floorMod_7cf53 4 = .ok (.iload_n 0, 1) := by decide +kernel
theorem dJ9_floorMod_7cf53_5 : decode cJ9_floorMod_7cf53 5 = .ok (.iload_n 1, 1) := by decide +kernel
theorem dJ9_floorMod_7cf53_6 : decode cJ9_floorMod_7cf53 6 = .ok (.ixor, 1) := by decide +kernel
theorem dJ9_floorMod_7cf53_7 : decode cJ9_floorMod_7cf53 7 = .ok (.ifCond .ge 11, 3) := by decide +kernel
theorem dJ9_floorMod_7cf53_10 : decode cJ9_floorMod_7cf53 10 = .ok (.iload_n 2, 1) := by decide +kernel
theorem dJ9_floorMod_7cf53_11 : decode cJ9_floorMod_7cf53 11 = .ok (.ifCond .eq 7, 3) := by decide +kernel
theorem dJ9_floorMod_7cf53_14 : decode cJ9_floorMod_7cf53 14 = .ok (.iload_n 2, 1) := by decide +kernel
theorem dJ9_floorMod_7cf53_15 : decode cJ9_floorMod_7cf53 15 = .ok (.iload_n 1, 1) := by decide +kernel
theorem dJ9_floorMod_7cf53_16 : decode cJ9_floorMod_7cf53 16 = .ok (.iadd, 1) := by decide +kernel
theorem dJ9_floorMod_7cf53_17 : decode cJ9_floorMod_7cf53 17 = .ok (.ireturn, 1) := by decide +kernel
theorem dJ9_floorMod_7cf53_18 : decode cJ9_floorMod_7cf53 18 = .ok (.iload_n 2, 1) := by decide +kernel
theorem dJ9_floorMod_7cf53_19 : decode cJ9_floorMod_7cf53 19 = .ok (.ireturn, 1) := by decide +kernel
theorem dJ9_abs_0f7a4_0 : decode cJ9_abs_0f7a4 0 = .ok (.iload_n 0, 1) := by decide +kernel
theorem dJ9_abs_0f7a4_1 : decode cJ9_abs_0f7a4 1 = .ok (.ifCond .ge 8, 3) := by decide +kernel
theorem dJ9_abs_0f7a4_4 : decode cJ9_abs_0f7a4 4 = .ok (.iload_n 0, 1) := by decide +kernel
theorem dJ9_abs_0f7a4_5 : decode cJ9_abs_0f7a4 5 = .ok (.ineg, 1) := by decide +kernel
theorem dJ9_abs_0f7a4_6 : decode cJ9_abs_0f7a4 6 = .ok (.goto 4, 3) := by decide +kernel
theorem dJ9_abs_0f7a4_9 : decode cJ9_abs_0f7a4 9 = .ok (.iload_n 0, 1) := by decide +kernel
theorem dJ9_abs_0f7a4_10 : decode cJ9_abs_0f7a4 10 = .ok (.ireturn, 1) := by decide +kernel
theorem dJ9_max_7cf53_0 : decode cJ9_max_7cf53 0 = .ok (.iload_n 0, 1) := by decide +kernel
theorem dJ9_max_7cf53_1 : decode cJ9_max_7cf53 1 = .ok (.iload_n 1, 1) := by decide +kernel
theorem dJ9_max_7cf53_2 : decode cJ9_max_7cf53 2 = .ok (.if_icmp .lt 7, 3) := by decide +kernel
theorem dJ9_max_7cf53_5 : decode cJ9_max_7cf53 5 = .ok (.iload_n 0, 1) := by decide +kernel
theorem dJ9_max_7cf53_6 : decode cJ9_max_7cf53 6 = .ok (.goto 4, 3) := by decide +kernel
theorem dJ9_max_7cf53_9 : decode cJ9_max_7cf53 9 = .ok (.iload_n 1, 1) := by decide +kernel
theorem dJ9_max_7cf53_10 : decode cJ9_max_7cf53 10 = .ok (.ireturn, 1) := by decide +kernel
theorem dJ9_min_7cf53_0 : decode cJ9_min_7cf53 0 = .ok (.iload_n 0, 1) := by decide +kernel
theorem dJ9_min_7cf53_1 : decode cJ9_min_7cf53 1 = .ok (.iload_n 1, 1) := by decide +kernel
theorem dJ9_min_7cf53_2 : decode cJ9_min_7cf53 2 = .ok (.if_icmp .gt 7, 3) := by decide +kernel
theorem dJ9_min_7cf53_5 : decode cJ9_min_7cf53 5 = .ok (.iload_n 0, 1) := by decide +kernel
theorem dJ9_min_7cf53_6 : decode cJ9_min_7cf53 6 = .ok (.goto 4, 3) := by decide +kernel
theorem dJ9_min_7cf53_9 : decode cJ9_min_7cf53 9 = .ok (.iload_n 1, 1) := by decide +kernel
theorem dJ9_min_7cf53_10 : decode cJ9_min_7cf53 10 = .ok (.ireturn, 1) := by decide +kernel
theorem dJ7_fill_d0a16_0 : decode cJ7_fill_d0a16 0 = .ok (.iconst 0, 1) := by decide +kernel
theorem dJ7_fill_d0a16_1 : decode cJ7_fill_d0a16 1 = .ok (.istore_n 3, 1) := by decide +kernel
theorem dJ7_fill_d0a16_2 : decode cJ7_fill_d0a16 2 = .ok (.aload_n 0, 1) := by decide +kernel
theorem dJ7_fill_d0a16_3 : decode cJ7_fill_d0a16 3 = .ok (.arraylength, 1) := by decide +kernel
theorem dJ7_fill_d0a16_4 : decode cJ7_fill_d0a16 4 = .ok (.istore 4, 2) := by decide +kernel
theorem dJ7_fill_d0a16_6 : decode cJ7_fill_d0a16 6 = .ok (.iload_n 3, 1) := by decide +kernel
theorem dJ7_fill_d0a16_7 : decode cJ7_fill_d0a16 7 = .ok (.iload 4, 2) := by decide +kernel
theorem dJ7_fill_d0a16_9 : decode cJ7_fill_d0a16 9 = .ok (.if_icmp .ge 13, 3) := by decide +kernel
theorem dJ7_fill_d0a16_12 : decode cJ7_fill_d0a16 12 = .ok (.aload_n 0, 1) := by decide +kernel
theorem dJ7_fill_d0a16_13 : decode cJ7_fill_d0a16 13 = .ok (.iload_n 3, 1) := by decide +kernel
theorem dJ7_fill_d0a16_14 : decode cJ7_fill_d0a16 14 = .ok (.lload_n 1, 1) := by decide +kernel
theorem dJ7_fill_d0a16_15 : decode cJ7_fill_d0a16 15 = .ok (.lastore, 1) := by decide +kernel
theorem dJ7_fill_d0a16_16 : decode cJ7_fill_d0a16 16 = .ok (.iinc 3 1, 3) := by decide +kernel
theorem dJ7_fill_d0a16_19 : decode cJ7_fill_d0a16 19 = .ok (.goto (-13), 3) := by decide +kernel
theorem dJ7_fill_d0a16_22 : decode cJ7_fill_d0a16 22 = .ok (.return_, 1) := by decide +kernel
theorem dJ7_fill_7f8df_0 : decode cJ7_fill_7f8df 0 = .ok (.iconst 0, 1) := by decide +kernel
theorem dJ7_fill_7f8df_1 : decode cJ7_fill_7f8df 1 = .ok (.istore_n 3, 1) := by decide +kernel
theorem dJ7_fill_7f8df_2 : decode cJ7_fill_7f8df 2 = .ok (.aload_n 0, 1) := by decide +kernel
theorem dJ7_fill_7f8df_3 : decode cJ7_fill_7f8df 3 = .ok (.arraylength, 1) := by decide +kernel
theorem dJ7_fill_7f8df_4 : decode cJ7_fill_7f8df 4 = .ok (.istore 4, 2) := by decide +kernel
theorem dJ7_fill_7f8df_6 : decode cJ7_fill_7f8df 6 = .ok (.iload_n 3, 1) := by decide +kernel
theorem dJ7_fill_7f8df_7 : decode cJ7_fill_7f8df 7 = .ok (.iload 4, 2) := by decide +kernel
theorem dJ7_fill_7f8df_9 : decode cJ7_fill_7f8df 9 = .ok (.if_icmp .ge 13, 3) := by decide +kernel
theorem dJ7_fill_7f8df_12 : decode cJ7_fill_7f8df 12 = .ok (.aload_n 0, 1) := by decide +kernel
theorem dJ7_fill_7f8df_13 : decode cJ7_fill_7f8df 13 = .ok (.iload_n 3, 1) := by decide +kernel
theorem dJ7_fill_7f8df_14 : decode cJ7_fill_7f8df 14 = .ok (.dload_n 1, 1) := by decide +kernel
theorem dJ7_fill_7f8df_15 : decode cJ7_fill_7f8df 15 = .ok (.dastore, 1) := by decide +kernel
theorem dJ7_fill_7f8df_16 : decode cJ7_fill_7f8df 16 = .ok (.iinc 3 1, 3) := by decide +kernel
theorem dJ7_fill_7f8df_19 : decode cJ7_fill_7f8df 19 = .ok (.goto (-13), 3) := by decide +kernel
theorem dJ7_fill_7f8df_22 : decode cJ7_fill_7f8df 22 = .ok (.return_, 1) := by decide +kernel
theorem dX0_init_0 : decode cX0_init 0 = .ok (.aload_n 0, 1) := by decide +kernel
theorem dX0_init_1 : decode cX0_init 1 = .ok (.invokespecial 3, 3) := by decide +kernel
theorem dX0_init_4 : decode cX0_init 4 = .ok (.aload_n 0, 1) := by decide +kernel
theorem dX0_init_5 : decode cX0_init 5 = .ok (.bipush 20, 2) := by decide +kernel
theorem dX0_init_7 : decode cX0_init 7 = .ok (.newarray .int, 2) := by decide +kernel
theorem dX0_init_9 : decode cX0_init 9 = .ok (.putfield 9, 3) := by decide +kernel
theorem dX0_init_12 : decode cX0_init 12 = .ok (.getstatic 15, 3) := by decide +kernel
theorem dX0_init_15 : decode cX0_init 15 = .ok (.iconst 0, 1) := by decide +kernel
theorem dX0_init_16 : decode cX0_init 16 = .ok (.aload_n 0, 1) := by decide +kernel
theorem dX0_init_17 : decode cX0_init 17 = .ok (.getfield 9, 3) := by decide +kernel
theorem dX0_init_20 : decode cX0_init 20 = .ok (.iconst 0, 1) := by decide +kernel
theorem dX0_init_21 : decode cX0_init 21 = .ok (.bipush 20, 2) := by decide +kernel
theorem dX0_init_23 : decode cX0_init 23 = .ok (.invokestatic 18, 3) := by decide +kernel
theorem dX0_init_26 : decode cX0_init 26 = .ok (.return_, 1) := by decide +kernel
theorem dX0_countOf_0 : decode cX0_countOf 0 = .ok (.iload_n 1, 1) := by decide +kernel
theorem dX0_countOf_1 : decode cX0_countOf 1 = .ok (.ifCond .lt 10, 3) := by decide +kernel
theorem dX0_countOf_4 : decode cX0_countOf 4 = .ok (.iload_n 1, 1) := by decide +kernel
theorem dX0_countOf_5 : decode cX0_countOf 5 = .ok (.sipush 140, 3) := by decide +kernel
theorem dX0_countOf_8 : decode cX0_countOf 8 = .ok (.if_icmp .lt 5, 3) := by decide +kernel
theorem dX0_countOf_11 : decode cX0_countOf 11 = .ok (.iconst 0, 1) := by decide +kernel
theorem dX0_countOf_12 : decode cX0_countOf 12 = .ok (.ireturn, 1) := by decide +kernel
theorem dX0_countOf_13 : decode cX0_countOf 13 = .ok (.aload_n 0, 1) := by decide +kernel
theorem dX0_countOf_14 : decode cX0_countOf 14 = .ok (.getfield 9, 3) := by decide +kernel
theorem dX0_countOf_17 : decode cX0_countOf 17 = .ok (.iload_n 1, 1) := by decide +kernel
theorem dX0_countOf_18 : decode cX0_countOf 18 = .ok (.bipush 20, 2) := by decide +kernel
theorem dX0_countOf_20 : decode cX0_countOf 20 = .ok (.irem, 1) := by decide +kernel
theorem dX0_countOf_21 : decode cX0_countOf 21 = .ok (.iaload, 1) := by decide +kernel
theorem dX0_countOf_22 : decode cX0_countOf 22 = .ok (.istore_n 2, 1) := by decide +kernel
theorem dX0_countOf_23 : decode cX0_countOf 23 = .ok (.iload_n 1, 1) := by decide +kernel
theorem dX0_countOf_24 : decode cX0_countOf 24 = .ok (.bipush 20, 2) := by decide +kernel
theorem dX0_countOf_26 : decode cX0_countOf 26 = .ok (.idiv, 1) := by decide +kernel
theorem dX0_countOf_27 : decode cX0_countOf 27 = .ok (.tableswitch 57 0 6 #[41, 44, 57, 47, 57, 51, 55], 41) := by decide +kernel
theorem dX0_countOf_68 : decode cX0_countOf 68 = .ok (.bipush 50, 2) := by decide +kernel
theorem dX0_countOf_70 : decode cX0_countOf 70 = .ok (.ireturn, 1) := by decide +kernel
theorem dX0_countOf_71 : decode cX0_countOf 71 = .ok (.bipush 25, 2) := by decide +kernel
theorem dX0_countOf_73 : decode cX0_countOf 73 = .ok (.ireturn, 1) := by decide +kernel
theorem dX0_countOf_74 : decode cX0_countOf 74 = .ok (.iconst 3, 1) := by decide +kernel
theorem dX0_countOf_75 : decode cX0_countOf 75 = .ok (.iload_n 2, 1) := by decide +kernel
theorem dX0_countOf_76 : decode cX0_countOf 76 = .ok (.imul, 1) := by decide +kernel
theorem dX0_countOf_77 : decode cX0_countOf 77 = .ok (.ireturn, 1) := by decide +kernel
theorem dX0_countOf_78 : decode cX0_countOf 78 = .ok (.iconst 2, 1) := by decide +kernel
theorem dX0_countOf_79 : decode cX0_countOf 79 = .ok (.iload_n 2, 1) := by decide +kernel
theorem dX0_countOf_80 : decode cX0_countOf 80 = .ok (.imul, 1) := by decide +kernel
theorem dX0_countOf_81 : decode cX0_countOf 81 = .ok (.ireturn, 1) := by decide +kernel
theorem dX0_countOf_82 : decode cX0_countOf 82 = .ok (.iconst 0, 1) := by decide +kernel
theorem dX0_countOf_83 : decode cX0_countOf 83 = .ok (.ireturn, 1) := by decide +kernel
theorem dX0_countOf_84 : decode cX0_countOf 84 = .ok (.iload_n 2, 1) := by decide +kernel
theorem dX0_countOf_85 : decode cX0_countOf 85 = .ok (.ireturn, 1) := by decide +kernel
set_option maxRecDepth 20000 in
theorem ggX0_landingOf_X0_countOf : GoodIn wsX0_landingOf wsX0_countOf := goodIn_r _ [5, 6, 7] (by decide +kernel) (by decide +kernel)
set_option maxRecDepth 20000 in
theorem gX0_landingOf_X0_countOf : GoodIn wsX0_landingOf (wsV RX0 24 RX0 yX0_countOf wsX0_countOf) := goodIn_app (goodIn_of _ (by decide +kernel)) ggX0_landingOf_X0_countOf
theorem dX0_landingOf_0 : decode cX0_landingOf 0 = .ok (.iload_n 1, 1) := by decide +kernel
theorem dX0_landingOf_1 : decode cX0_landingOf 1 = .ok (.bipush 20, 2) := by decide +kernel
theorem dX0_landingOf_3 : decode cX0_landingOf 3 = .ok (.idiv, 1) := by decide +kernel
theorem dX0_landingOf_4 : decode cX0_landingOf 4 = .ok (.istore_n 2, 1) := by decide +kernel
theorem dX0_landingOf_5 : decode cX0_landingOf 5 = .ok (.iload_n 2, 1) := by decide +kernel
theorem dX0_landingOf_6 : decode cX0_landingOf 6 = .ok (.ifCond .eq 8, 3) := by decide +kernel
theorem dX0_landingOf_9 : decode cX0_landingOf 9 = .ok (.iload_n 2, 1) := by decide +kernel
theorem dX0_landingOf_10 : decode cX0_landingOf 10 = .ok (.iconst 5, 1) := by decide +kernel
theorem dX0_landingOf_11 : decode cX0_landingOf 11 = .ok (.if_icmp .ne 7, 3) := by decide +kernel
theorem dX0_landingOf_14 : decode cX0_landingOf 14 = .ok (.iconst 1, 1) := by decide +kernel
theorem dX0_landingOf_15 : decode cX0_landingOf 15 = .ok (.goto 4, 3) := by decide +kernel
theorem dX0_landingOf_18 : decode cX0_landingOf 18 = .ok (.iconst 0, 1) := by decide +kernel
theorem dX0_landingOf_19 : decode cX0_landingOf 19 = .ok (.istore_n 3, 1) := by decide +kernel
theorem dX0_landingOf_20 : decode cX0_landingOf 20 = .ok (.iconst 2, 1) := by decide +kernel
theorem dX0_landingOf_21 : decode cX0_landingOf 21 = .ok (.aload_n 0, 1) := by decide +kernel
theorem dX0_landingOf_22 : decode cX0_landingOf 22 = .ok (.iload_n 1, 1) := by decide +kernel
theorem dX0_landingOf_23 : decode cX0_landingOf 23 = .ok (.invokevirtual 24, 3) := by decide +kernel
theorem dX0_landingOf_26 : decode cX0_landingOf 26 = .ok (.imul, 1) := by decide +kernel
theorem dX0_landingOf_27 : decode cX0_landingOf 27 = .ok (.iload_n 3, 1) := by decide +kernel
theorem dX0_landingOf_28 : decode cX0_landingOf 28 = .ok (.iadd, 1) := by decide +kernel
theorem dX0_landingOf_29 : decode cX0_landingOf 29 = .ok (.ireturn, 1) := by decide +kernel
theorem dX0_exchange_0 : decode cX0_exchange 0 = .ok (.aload_n 0, 1) := by decide +kernel
theorem dX0_exchange_1 : decode cX0_exchange 1 = .ok (.getfield 9, 3) := by decide +kernel
theorem dX0_exchange_4 : decode cX0_exchange 4 = .ok (.iload_n 1, 1) := by decide +kernel
theorem dX0_exchange_5 : decode cX0_exchange 5 = .ok (.iaload, 1) := by decide +kernel
theorem dX0_exchange_6 : decode cX0_exchange 6 = .ok (.istore_n 3, 1) := by decide +kernel
theorem dX0_exchange_7 : decode cX0_exchange 7 = .ok (.aload_n 0, 1) := by decide +kernel
theorem dX0_exchange_8 : decode cX0_exchange 8 = .ok (.getfield 9, 3) := by decide +kernel
theorem dX0_exchange_11 : decode cX0_exchange 11 = .ok (.iload_n 1, 1) := by decide +kernel
theorem dX0_exchange_12 : decode cX0_exchange 12 = .ok (.aload_n 0, 1) := by decide +kernel
theorem dX0_exchange_13 : decode cX0_exchange 13 = .ok (.getfield 9, 3) := by decide +kernel
theorem dX0_exchange_16 : decode cX0_exchange 16 = .ok (.iload_n 2, 1) := by decide +kernel
theorem dX0_exchange_17 : decode cX0_exchange 17 = .ok (.iaload, 1) := by decide +kernel
theorem dX0_exchange_18 : decode cX0_exchange 18 = .ok (.iastore, 1) := by decide +kernel
theorem dX0_exchange_19 : decode cX0_exchange 19 = .ok (.aload_n 0, 1) := by decide +kernel
theorem dX0_exchange_20 : decode cX0_exchange 20 = .ok (.getfield 9, 3) := by decide +kernel
theorem dX0_exchange_23 : decode cX0_exchange 23 = .ok (.iload_n 2, 1) := by decide +kernel
theorem dX0_exchange_24 : decode cX0_exchange 24 = .ok (.iload_n 3, 1) := by decide +kernel
theorem dX0_exchange_25 : decode cX0_exchange 25 = .ok (.iastore, 1) := by decide +kernel
theorem dX0_exchange_26 : decode cX0_exchange 26 = .ok (.return_, 1) := by decide +kernel
theorem dX0_roughness_0 : decode cX0_roughness 0 = .ok (.iconst 0, 1) := by decide +kernel
theorem dX0_roughness_1 : decode cX0_roughness 1 = .ok (.istore_n 1, 1) := by decide +kernel
theorem dX0_roughness_2 : decode cX0_roughness 2 = .ok (.iconst 0, 1) := by decide +kernel
theorem dX0_roughness_3 : decode cX0_roughness 3 = .ok (.istore_n 2, 1) := by decide +kernel
theorem dX0_roughness_4 : decode cX0_roughness 4 = .ok (.iload_n 2, 1) := by decide +kernel
theorem dX0_roughness_5 : decode cX0_roughness 5 = .ok (.bipush 20, 2) := by decide +kernel
theorem dX0_roughness_7 : decode cX0_roughness 7 = .ok (.if_icmp .ge 33, 3) := by decide +kernel
theorem dX0_roughness_10 : decode cX0_roughness 10 = .ok (.iload_n 1, 1) := by decide +kernel
theorem dX0_roughness_11 : decode cX0_roughness 11 = .ok (.aload_n 0, 1) := by decide +kernel
theorem dX0_roughness_12 : decode cX0_roughness 12 = .ok (.getfield 9, 3) := by decide +kernel
theorem dX0_roughness_15 : decode cX0_roughness 15 = .ok (.iload_n 2, 1) := by decide +kernel
theorem dX0_roughness_16 : decode cX0_roughness 16 = .ok (.iaload, 1) := by decide +kernel
theorem dX0_roughness_17 : decode cX0_roughness 17 = .ok (.aload_n 0, 1) := by decide +kernel
theorem dX0_roughness_18 : decode cX0_roughness 18 = .ok (.getfield 9, 3) := by decide +kernel
theorem dX0_roughness_21 : decode cX0_roughness 21 = .ok (.iload_n 2, 1) := by decide +kernel
theorem dX0_roughness_22 : decode cX0_roughness 22 = .ok (.iconst 1, 1) := by decide +kernel
theorem dX0_roughness_23 : decode cX0_roughness 23 = .ok (.iadd, 1) := by decide +kernel
theorem dX0_roughness_24 : decode cX0_roughness 24 = .ok (.bipush 20, 2) := by decide +kernel
theorem dX0_roughness_26 : decode cX0_roughness 26 = .ok (.irem, 1) := by decide +kernel
theorem dX0_roughness_27 : decode cX0_roughness 27 = .ok (.iaload, 1) := by decide +kernel
theorem dX0_roughness_28 : decode cX0_roughness 28 = .ok (.isub, 1) := by decide +kernel
theorem dX0_roughness_29 : decode cX0_roughness 29 = .ok (.invokestatic 28, 3) := by decide +kernel
theorem dX0_roughness_32 : decode cX0_roughness 32 = .ok (.iadd, 1) := by decide +kernel
theorem dX0_roughness_33 : decode cX0_roughness 33 = .ok (.istore_n 1, 1) := by decide +kernel
theorem dX0_roughness_34 : decode cX0_roughness 34 = .ok (.iinc 2 1, 3) := by decide +kernel
theorem dX0_roughness_37 : decode cX0_roughness 37 = .ok (.goto (-33), 3) := by decide +kernel
theorem dX0_roughness_40 : decode cX0_roughness 40 = .ok (.iload_n 1, 1) := by decide +kernel
theorem dX0_roughness_41 : decode cX0_roughness 41 = .ok (.ireturn, 1) := by decide +kernel
set_option maxRecDepth 20000 in
theorem ggX0_roughestExchange_X0_roughness : GoodIn wsX0_roughestExchange wsX0_roughness := goodIn_r _ [5, 6, 7, 8, 9, 10, 15] (by decide +kernel) (by decide +kernel)
set_option maxRecDepth 20000 in
theorem gX0_roughestExchange_X0_roughness : GoodIn wsX0_roughestExchange (wsV RX0 33 RX0 yX0_roughness wsX0_roughness) := goodIn_app (goodIn_of _ (by decide +kernel)) ggX0_roughestExchange_X0_roughness
set_option maxRecDepth 20000 in
theorem ggX0_roughestExchange_X0_exchange : GoodIn wsX0_roughestExchange wsX0_exchange := goodIn_r _ [14, 6, 15] (by decide +kernel) (by decide +kernel)
set_option maxRecDepth 20000 in
theorem gX0_roughestExchange_X0_exchange : GoodIn wsX0_roughestExchange (wsV RX0 37 RX0 yX0_exchange wsX0_exchange) := goodIn_app (goodIn_of _ (by decide +kernel)) ggX0_roughestExchange_X0_exchange
theorem dX0_roughestExchange_0 : decode cX0_roughestExchange 0 = .ok (.aload_n 0, 1) := by decide +kernel
theorem dX0_roughestExchange_1 : decode cX0_roughestExchange 1 = .ok (.invokevirtual 33, 3) := by decide +kernel
theorem dX0_roughestExchange_4 : decode cX0_roughestExchange 4 = .ok (.istore_n 1, 1) := by decide +kernel
theorem dX0_roughestExchange_5 : decode cX0_roughestExchange 5 = .ok (.iconst (-1), 1) := by decide +kernel
theorem dX0_roughestExchange_6 : decode cX0_roughestExchange 6 = .ok (.istore_n 2, 1) := by decide +kernel
theorem dX0_roughestExchange_7 : decode cX0_roughestExchange 7 = .ok (.iconst 0, 1) := by decide +kernel
theorem dX0_roughestExchange_8 : decode cX0_roughestExchange 8 = .ok (.istore_n 3, 1) := by decide +kernel
theorem dX0_roughestExchange_9 : decode cX0_roughestExchange 9 = .ok (.iload_n 3, 1) := by decide +kernel
theorem dX0_roughestExchange_10 : decode cX0_roughestExchange 10 = .ok (.bipush 20, 2) := by decide +kernel
theorem dX0_roughestExchange_12 : decode cX0_roughestExchange 12 = .ok (.if_icmp .ge 64, 3) := by decide +kernel
theorem dX0_roughestExchange_15 : decode cX0_roughestExchange 15 = .ok (.iload_n 3, 1) := by decide +kernel
theorem dX0_roughestExchange_16 : decode cX0_roughestExchange 16 = .ok (.iconst 1, 1) := by decide +kernel
theorem dX0_roughestExchange_17 : decode cX0_roughestExchange 17 = .ok (.iadd, 1) := by decide +kernel
theorem dX0_roughestExchange_18 : decode cX0_roughestExchange 18 = .ok (.istore 4, 2) := by decide +kernel
theorem dX0_roughestExchange_20 : decode cX0_roughestExchange 20 = .ok (.iload 4, 2) := by decide +kernel
theorem dX0_roughestExchange_22 : decode cX0_roughestExchange 22 = .ok (.bipush 20, 2) := by decide +kernel
theorem dX0_roughestExchange_24 : decode cX0_roughestExchange 24 = .ok (.if_icmp .ge 46, 3) := by decide +kernel
theorem dX0_roughestExchange_27 : decode cX0_roughestExchange 27 = .ok (.aload_n 0, 1) := by decide +kernel
theorem dX0_roughestExchange_28 : decode cX0_roughestExchange 28 = .ok (.iload_n 3, 1) := by decide +kernel
theorem dX0_roughestExchange_29 : decode cX0_roughestExchange 29 = .ok (.iload 4, 2) := by decide +kernel
theorem dX0_roughestExchange_31 : decode cX0_roughestExchange 31 = .ok (.invokevirtual 37, 3) := by decide +kernel
theorem dX0_roughestExchange_34 : decode cX0_roughestExchange 34 = .ok (.aload_n 0, 1) := by decide +kernel
theorem dX0_roughestExchange_35 : decode cX0_roughestExchange 35 = .ok (.invokevirtual 33, 3) := by decide +kernel
theorem dX0_roughestExchange_38 : decode cX0_roughestExchange 38 = .ok (.istore 5, 2) := by decide +kernel
theorem dX0_roughestExchange_40 : decode cX0_roughestExchange 40 = .ok (.aload_n 0, 1) := by decide +kernel
theorem dX0_roughestExchange_41 : decode cX0_roughestExchange 41 = .ok (.iload_n 3, 1) := by decide +kernel
theorem dX0_roughestExchange_42 : decode cX0_roughestExchange 42 = .ok (.iload 4, 2) := by decide +kernel
theorem dX0_roughestExchange_44 : decode cX0_roughestExchange 44 = .ok (.invokevirtual 37, 3) := by decide +kernel
theorem dX0_roughestExchange_47 : decode cX0_roughestExchange 47 = .ok (.iload 5, 2) := by decide +kernel
theorem dX0_roughestExchange_49 : decode cX0_roughestExchange 49 = .ok (.iload_n 1, 1) := by decide +kernel
theorem dX0_roughestExchange_50 : decode cX0_roughestExchange 50 = .ok (.if_icmp .le 14, 3) := by decide +kernel
theorem dX0_roughestExchange_53 : decode cX0_roughestExchange 53 = .ok (.iload 5, 2) := by decide +kernel
theorem dX0_roughestExchange_55 : decode cX0_roughestExchange 55 = .ok (.istore_n 1, 1) := by decide +kernel
theorem dX0_roughestExchange_56 : decode cX0_roughestExchange 56 = .ok (.bipush 32, 2) := by decide +kernel
theorem dX0_roughestExchange_58 : decode cX0_roughestExchange 58 = .ok (.iload_n 3, 1) := by decide +kernel
theorem dX0_roughestExchange_59 : decode cX0_roughestExchange 59 = .ok (.imul, 1) := by decide +kernel
theorem dX0_roughestExchange_60 : decode cX0_roughestExchange 60 = .ok (.iload 4, 2) := by decide +kernel
theorem dX0_roughestExchange_62 : decode cX0_roughestExchange 62 = .ok (.iadd, 1) := by decide +kernel
theorem dX0_roughestExchange_63 : decode cX0_roughestExchange 63 = .ok (.istore_n 2, 1) := by decide +kernel
theorem dX0_roughestExchange_64 : decode cX0_roughestExchange 64 = .ok (.iinc 4 1, 3) := by decide +kernel
theorem dX0_roughestExchange_67 : decode cX0_roughestExchange 67 = .ok (.goto (-47), 3) := by decide +kernel
theorem dX0_roughestExchange_70 : decode cX0_roughestExchange 70 = .ok (.iinc 3 1, 3) := by decide +kernel
theorem dX0_roughestExchange_73 : decode cX0_roughestExchange 73 = .ok (.goto (-64), 3) := by decide +kernel
theorem dX0_roughestExchange_76 : decode cX0_roughestExchange 76 = .ok (.iload_n 2, 1) := by decide +kernel
theorem dX0_roughestExchange_77 : decode cX0_roughestExchange 77 = .ok (.ireturn, 1) := by decide +kernel
theorem dX1_init_0 : decode cX1_init 0 = .ok (.aload_n 0, 1) := by decide +kernel
theorem dX1_init_1 : decode cX1_init 1 = .ok (.invokespecial 3, 3) := by decide +kernel
theorem dX1_init_4 : decode cX1_init 4 = .ok (.aload_n 0, 1) := by decide +kernel
theorem dX1_init_5 : decode cX1_init 5 = .ok (.bipush 25, 2) := by decide +kernel
theorem dX1_init_7 : decode cX1_init 7 = .ok (.newarray .int, 2) := by decide +kernel
theorem dX1_init_9 : decode cX1_init 9 = .ok (.putfield 9, 3) := by decide +kernel
theorem dX1_init_12 : decode cX1_init 12 = .ok (.aload_n 0, 1) := by decide +kernel
theorem dX1_init_13 : decode cX1_init 13 = .ok (.getfield 9, 3) := by decide +kernel
theorem dX1_init_16 : decode cX1_init 16 = .ok (.bipush 12, 2) := by decide +kernel
theorem dX1_init_18 : decode cX1_init 18 = .ok (.iconst 1, 1) := by decide +kernel
theorem dX1_init_19 : decode cX1_init 19 = .ok (.iastore, 1) := by decide +kernel
theorem dX1_init_20 : decode cX1_init 20 = .ok (.aload_n 0, 1) := by decide +kernel
theorem dX1_init_21 : decode cX1_init 21 = .ok (.iconst 1, 1) := by decide +kernel
theorem dX1_init_22 : decode cX1_init 22 = .ok (.putfield 15, 3) := by decide +kernel
theorem dX1_init_25 : decode cX1_init 25 = .ok (.return_, 1) := by decide +kernel
theorem dX1_put_0 : decode cX1_put 0 = .ok (.aload_n 0, 1) := by decide +kernel
theorem dX1_put_1 : decode cX1_put 1 = .ok (.dup, 1) := by decide +kernel
theorem dX1_put_2 : decode cX1_put 2 = .ok (.getfield 15, 3) := by decide +kernel
theorem dX1_put_5 : decode cX1_put 5 = .ok (.iload_n 2, 1) := by decide +kernel
theorem dX1_put_6 : decode cX1_put 6 = .ok (.aload_n 0, 1) := by decide +kernel
theorem dX1_put_7 : decode cX1_put 7 = .ok (.getfield 9, 3) := by decide +kernel
theorem dX1_put_10 : decode cX1_put 10 = .ok (.iload_n 1, 1) := by decide +kernel
theorem dX1_put_11 : decode cX1_put 11 = .ok (.iaload, 1) := by decide +kernel
theorem dX1_put_12 : decode cX1_put 12 = .ok (.isub, 1) := by decide +kernel
theorem dX1_put_13 : decode cX1_put 13 = .ok (.iadd, 1) := by decide +kernel
theorem dX1_put_14 : decode cX1_put 14 = .ok (.putfield 15, 3) := by decide +kernel
theorem dX1_put_17 : decode cX1_put 17 = .ok (.aload_n 0, 1) := by decide +kernel
theorem dX1_put_18 : decode cX1_put 18 = .ok (.getfield 9, 3) := by decide +kernel
theorem dX1_put_21 : decode cX1_put 21 = .ok (.iload_n 1, 1) := by decide +kernel
theorem dX1_put_22 : decode cX1_put 22 = .ok (.iload_n 2, 1) := by decide +kernel
theorem dX1_put_23 : decode cX1_put 23 = .ok (.iastore, 1) := by decide +kernel
theorem dX1_put_24 : decode cX1_put 24 = .ok (.return_, 1) := by decide +kernel
theorem dX1_stepAt_0 : decode cX1_stepAt 0 = .ok (.aload_n 0, 1) := by decide +kernel
theorem dX1_stepAt_1 : decode cX1_stepAt 1 = .ok (.getfield 15, 3) := by decide +kernel
theorem dX1_stepAt_4 : decode cX1_stepAt 4 = .ok (.iconst 1, 1) := by decide +kernel
theorem dX1_stepAt_5 : decode cX1_stepAt 5 = .ok (.if_icmp .ge 7, 3) := by decide +kernel
theorem dX1_stepAt_8 : decode cX1_stepAt 8 = .ok (.iconst 0, 1) := by decide +kernel
theorem dX1_stepAt_9 : decode cX1_stepAt 9 = .ok (.goto 9, 3) := by decide +kernel
theorem dX1_stepAt_12 : decode cX1_stepAt 12 = .ok (.iload_n 1, 1) := by decide +kernel
theorem dX1_stepAt_13 : decode cX1_stepAt 13 = .ok (.aload_n 0, 1) := by decide +kernel
theorem dX1_stepAt_14 : decode cX1_stepAt 14 = .ok (.getfield 15, 3) := by decide +kernel
theorem dX1_stepAt_17 : decode cX1_stepAt 17 = .ok (.irem, 1) := by decide +kernel
theorem dX1_stepAt_18 : decode cX1_stepAt 18 = .ok (.istore_n 2, 1) := by decide +kernel
theorem dX1_stepAt_19 : decode cX1_stepAt 19 = .ok (.iconst 0, 1) := by decide +kernel
theorem dX1_stepAt_20 : decode cX1_stepAt 20 = .ok (.istore_n 3, 1) := by decide +kernel
theorem dX1_stepAt_21 : decode cX1_stepAt 21 = .ok (.iload_n 3, 1) := by decide +kernel
theorem dX1_stepAt_22 : decode cX1_stepAt 22 = .ok (.bipush 25, 2) := by decide +kernel
theorem dX1_stepAt_24 : decode cX1_stepAt 24 = .ok (.if_icmp .ge 30, 3) := by decide +kernel
theorem dX1_stepAt_27 : decode cX1_stepAt 27 = .ok (.iload_n 2, 1) := by decide +kernel
theorem dX1_stepAt_28 : decode cX1_stepAt 28 = .ok (.aload_n 0, 1) := by decide +kernel
theorem dX1_stepAt_29 : decode cX1_stepAt 29 = .ok (.getfield 9, 3) := by decide +kernel
theorem dX1_stepAt_32 : decode cX1_stepAt 32 = .ok (.iload_n 3, 1) := by decide +kernel
theorem dX1_stepAt_33 : decode cX1_stepAt 33 = .ok (.iaload, 1) := by decide +kernel
theorem dX1_stepAt_34 : decode cX1_stepAt 34 = .ok (.if_icmp .ge 5, 3) := by decide +kernel
theorem dX1_stepAt_37 : decode cX1_stepAt 37 = .ok (.iload_n 3, 1) := by decide +kernel
theorem dX1_stepAt_38 : decode cX1_stepAt 38 = .ok (.ireturn, 1) := by decide +kernel
theorem dX1_stepAt_39 : decode cX1_stepAt 39 = .ok (.iload_n 2, 1) := by decide +kernel
theorem dX1_stepAt_40 : decode cX1_stepAt 40 = .ok (.aload_n 0, 1) := by decide +kernel
theorem dX1_stepAt_41 : decode cX1_stepAt 41 = .ok (.getfield 9, 3) := by decide +kernel
theorem dX1_stepAt_44 : decode cX1_stepAt 44 = .ok (.iload_n 3, 1) := by decide +kernel
theorem dX1_stepAt_45 : decode cX1_stepAt 45 = .ok (.iaload, 1) := by decide +kernel
theorem dX1_stepAt_46 : decode cX1_stepAt 46 = .ok (.isub, 1) := by decide +kernel
theorem dX1_stepAt_47 : decode cX1_stepAt 47 = .ok (.istore_n 2, 1) := by decide +kernel
theorem dX1_stepAt_48 : decode cX1_stepAt 48 = .ok (.iinc 3 1, 3) := by decide +kernel
theorem dX1_stepAt_51 : decode cX1_stepAt 51 = .ok (.goto (-30), 3) := by decide +kernel
theorem dX1_stepAt_54 : decode cX1_stepAt 54 = .ok (.bipush 12, 2) := by decide +kernel
theorem dX1_stepAt_56 : decode cX1_stepAt 56 = .ok (.ireturn, 1) := by decide +kernel
theorem dX2_init_0 : decode cX2_init 0 = .ok (.aload_n 0, 1) := by decide +kernel
theorem dX2_init_1 : decode cX2_init 1 = .ok (.invokespecial 3, 3) := by decide +kernel
theorem dX2_init_4 : decode cX2_init 4 = .ok (.aload_n 0, 1) := by decide +kernel
theorem dX2_init_5 : decode cX2_init 5 = .ok (.bipush 25, 2) := by decide +kernel
theorem dX2_init_7 : decode cX2_init 7 = .ok (.newarray .int, 2) := by decide +kernel
theorem dX2_init_9 : decode cX2_init 9 = .ok (.putfield 9, 3) := by decide +kernel
theorem dX2_init_12 : decode cX2_init 12 = .ok (.aload_n 0, 1) := by decide +kernel
theorem dX2_init_13 : decode cX2_init 13 = .ok (.sipush 3000, 3) := by decide +kernel
theorem dX2_init_16 : decode cX2_init 16 = .ok (.newarray .int, 2) := by decide +kernel
theorem dX2_init_18 : decode cX2_init 18 = .ok (.putfield 15, 3) := by decide +kernel
theorem dX2_init_21 : decode cX2_init 21 = .ok (.aload_n 0, 1) := by decide +kernel
theorem dX2_init_22 : decode cX2_init 22 = .ok (.aload_n 1, 1) := by decide +kernel
theorem dX2_init_23 : decode cX2_init 23 = .ok (.putfield 18, 3) := by decide +kernel
theorem dX2_init_26 : decode cX2_init 26 = .ok (.aload_n 0, 1) := by decide +kernel
theorem dX2_init_27 : decode cX2_init 27 = .ok (.aload_n 2, 1) := by decide +kernel
theorem dX2_init_28 : decode cX2_init 28 = .ok (.putfield 22, 3) := by decide +kernel
theorem dX2_init_31 : decode cX2_init 31 = .ok (.aload_n 0, 1) := by decide +kernel
theorem dX2_init_32 : decode cX2_init 32 = .ok (.iconst 0, 1) := by decide +kernel
theorem dX2_init_33 : decode cX2_init 33 = .ok (.putfield 26, 3) := by decide +kernel
theorem dX2_init_36 : decode cX2_init 36 = .ok (.aload_n 0, 1) := by decide +kernel
theorem dX2_init_37 : decode cX2_init 37 = .ok (.iconst 1, 1) := by decide +kernel
theorem dX2_init_38 : decode cX2_init 38 = .ok (.putfield 30, 3) := by decide +kernel
theorem dX2_init_41 : decode cX2_init 41 = .ok (.aload_n 0, 1) := by decide +kernel
theorem dX2_init_42 : decode cX2_init 42 = .ok (.iconst 1, 1) := by decide +kernel
theorem dX2_init_43 : decode cX2_init 43 = .ok (.putfield 33, 3) := by decide +kernel
theorem dX2_init_46 : decode cX2_init 46 = .ok (.return_, 1) := by decide +kernel
set_option maxRecDepth 20000 in
theorem ggX2_lay_X2_layStep : GoodIn wsX2_lay wsX2_layStep := goodIn_r _ [10, 11, 2, 5, 12, 13, 14, 15, 16, 17, 18, 19, 20, 21, 22, 23, 24, 25, 26, 27, 28, 29, 30, 31, 32, 33, 34, 35, 36, 37, 38, 39, 40, 41, 42, 43, 44] (by decide +kernel) (by decide +kernel)
set_option maxRecDepth 20000 in
theorem gX2_lay_X2_layStep : GoodIn wsX2_lay (wsV RX2 41 RX2 yX2_layStep wsX2_layStep) := goodIn_app (goodIn_of _ (by decide +kernel)) ggX2_lay_X2_layStep
theorem dX2_lay_0 : decode cX2_lay 0 = .ok (.aload_n 0, 1) := by decide +kernel
theorem dX2_lay_1 : decode cX2_lay 1 = .ok (.iconst 0, 1) := by decide +kernel
theorem dX2_lay_2 : decode cX2_lay 2 = .ok (.putfield 26, 3) := by decide +kernel
theorem dX2_lay_5 : decode cX2_lay 5 = .ok (.aload_n 0, 1) := by decide +kernel
theorem dX2_lay_6 : decode cX2_lay 6 = .ok (.aload_n 0, 1) := by decide +kernel
theorem dX2_lay_7 : decode cX2_lay 7 = .ok (.getfield 22, 3) := by decide +kernel
theorem dX2_lay_10 : decode cX2_lay 10 = .ok (.getfield 37, 3) := by decide +kernel
theorem dX2_lay_13 : decode cX2_lay 13 = .ok (.putfield 30, 3) := by decide +kernel
theorem dX2_lay_16 : decode cX2_lay 16 = .ok (.iconst 0, 1) := by decide +kernel
theorem dX2_lay_17 : decode cX2_lay 17 = .ok (.istore_n 1, 1) := by decide +kernel
theorem dX2_lay_18 : decode cX2_lay 18 = .ok (.iload_n 1, 1) := by decide +kernel
theorem dX2_lay_19 : decode cX2_lay 19 = .ok (.bipush 25, 2) := by decide +kernel
theorem dX2_lay_21 : decode cX2_lay 21 = .ok (.if_icmp .ge 40, 3) := by decide +kernel
theorem dX2_lay_24 : decode cX2_lay 24 = .ok (.aload_n 0, 1) := by decide +kernel
theorem dX2_lay_25 : decode cX2_lay 25 = .ok (.getfield 22, 3) := by decide +kernel
theorem dX2_lay_28 : decode cX2_lay 28 = .ok (.getfield 40, 3) := by decide +kernel
theorem dX2_lay_31 : decode cX2_lay 31 = .ok (.iload_n 1, 1) := by decide +kernel
theorem dX2_lay_32 : decode cX2_lay 32 = .ok (.iaload, 1) := by decide +kernel
theorem dX2_lay_33 : decode cX2_lay 33 = .ok (.ifCond .le 22, 3) := by decide +kernel
theorem dX2_lay_36 : decode cX2_lay 36 = .ok (.aload_n 0, 1) := by decide +kernel
theorem dX2_lay_37 : decode cX2_lay 37 = .ok (.iload_n 1, 1) := by decide +kernel
theorem dX2_lay_38 : decode cX2_lay 38 = .ok (.aload_n 0, 1) := by decide +kernel
theorem dX2_lay_39 : decode cX2_lay 39 = .ok (.getfield 26, 3) := by decide +kernel
theorem dX2_lay_42 : decode cX2_lay 42 = .ok (.invokevirtual 41, 3) := by decide +kernel
theorem dX2_lay_45 : decode cX2_lay 45 = .ok (.aload_n 0, 1) := by decide +kernel
theorem dX2_lay_46 : decode cX2_lay 46 = .ok (.dup, 1) := by decide +kernel
theorem dX2_lay_47 : decode cX2_lay 47 = .ok (.getfield 26, 3) := by decide +kernel
theorem dX2_lay_50 : decode cX2_lay 50 = .ok (.iconst 1, 1) := by decide +kernel
theorem dX2_lay_51 : decode cX2_lay 51 = .ok (.iadd, 1) := by decide +kernel
theorem dX2_lay_52 : decode cX2_lay 52 = .ok (.putfield 26, 3) := by decide +kernel
theorem dX2_lay_55 : decode cX2_lay 55 = .ok (.iinc 1 1, 3) := by decide +kernel
theorem dX2_lay_58 : decode cX2_lay 58 = .ok (.goto (-40), 3) := by decide +kernel
theorem dX2_lay_61 : decode cX2_lay 61 = .ok (.return_, 1) := by decide +kernel
set_option maxRecDepth 20000 in
theorem ggX2_layStep_X7_bedFrom : GoodIn wsX2_layStep wsX7_bedFrom := goodIn_r _ [8, 9, 10, 11, 12, 13, 14, 15, 16] (by decide +kernel) (by decide +kernel)
set_option maxRecDepth 20000 in
theorem gX2_layStep_X7_bedFrom_n45 : GoodIn wsX2_layStep (wsX7_bedFrom) := ggX2_layStep_X7_bedFrom
set_option maxRecDepth 20000 in
theorem ggX2_layStep_X0_landingOf : GoodIn wsX2_layStep wsX0_landingOf := goodIn_r _ [21, 22, 23, 24, 20, 25, 26, 36] (by decide +kernel) (by decide +kernel)
set_option maxRecDepth 20000 in
theorem gX2_layStep_X0_landingOf : GoodIn wsX2_layStep (wsV RX2 49 RX0 yX0_landingOf wsX0_landingOf) := goodIn_app (goodIn_of _ (by decide +kernel)) ggX2_layStep_X0_landingOf
theorem dX2_layStep_0 : decode cX2_layStep 0 = .ok (.aload_n 0, 1) := by decide +kernel
theorem dX2_layStep_1 : decode cX2_layStep 1 = .ok (.getfield 9, 3) := by decide +kernel
theorem dX2_layStep_4 : decode cX2_layStep 4 = .ok (.iload_n 2, 1) := by decide +kernel
theorem dX2_layStep_5 : decode cX2_layStep 5 = .ok (.aload_n 0, 1) := by decide +kernel
theorem dX2_layStep_6 : decode cX2_layStep 6 = .ok (.getfield 22, 3) := by decide +kernel
theorem dX2_layStep_9 : decode cX2_layStep 9 = .ok (.getfield 40, 3) := by decide +kernel
theorem dX2_layStep_12 : decode cX2_layStep 12 = .ok (.iload_n 1, 1) := by decide +kernel
theorem dX2_layStep_13 : decode cX2_layStep 13 = .ok (.iaload, 1) := by decide +kernel
theorem dX2_layStep_14 : decode cX2_layStep 14 = .ok (.iastore, 1) := by decide +kernel
theorem dX2_layStep_15 : decode cX2_layStep 15 = .ok (.iconst 0, 1) := by decide +kernel
theorem dX2_layStep_16 : decode cX2_layStep 16 = .ok (.istore_n 3, 1) := by decide +kernel
theorem dX2_layStep_17 : decode cX2_layStep 17 = .ok (.iload_n 3, 1) := by decide +kernel
theorem dX2_layStep_18 : decode cX2_layStep 18 = .ok (.bipush 120, 2) := by decide +kernel
theorem dX2_layStep_20 : decode cX2_layStep 20 = .ok (.if_icmp .ge 32, 3) := by decide +kernel
theorem dX2_layStep_23 : decode cX2_layStep 23 = .ok (.aload_n 0, 1) := by decide +kernel
theorem dX2_layStep_24 : decode cX2_layStep 24 = .ok (.getfield 15, 3) := by decide +kernel
theorem dX2_layStep_27 : decode cX2_layStep 27 = .ok (.iload_n 3, 1) := by decide +kernel
theorem dX2_layStep_28 : decode cX2_layStep 28 = .ok (.bipush 25, 2) := by decide +kernel
theorem dX2_layStep_30 : decode cX2_layStep 30 = .ok (.imul, 1) := by decide +kernel
theorem dX2_layStep_31 : decode cX2_layStep 31 = .ok (.iload_n 2, 1) := by decide +kernel
theorem dX2_layStep_32 : decode cX2_layStep 32 = .ok (.iadd, 1) := by decide +kernel
theorem dX2_layStep_33 : decode cX2_layStep 33 = .ok (.aload_n 0, 1) := by decide +kernel
theorem dX2_layStep_34 : decode cX2_layStep 34 = .ok (.getfield 18, 3) := by decide +kernel
theorem dX2_layStep_37 : decode cX2_layStep 37 = .ok (.iload_n 3, 1) := by decide +kernel
theorem dX2_layStep_38 : decode cX2_layStep 38 = .ok (.iload_n 1, 1) := by decide +kernel
theorem dX2_layStep_39 : decode cX2_layStep 39 = .ok (.invokestatic 45, 3) := by decide +kernel
theorem dX2_layStep_42 : decode cX2_layStep 42 = .ok (.invokevirtual 49, 3) := by decide +kernel
theorem dX2_layStep_45 : decode cX2_layStep 45 = .ok (.iastore, 1) := by decide +kernel
theorem dX2_layStep_46 : decode cX2_layStep 46 = .ok (.iinc 3 1, 3) := by decide +kernel
theorem dX2_layStep_49 : decode cX2_layStep 49 = .ok (.goto (-32), 3) := by decide +kernel
theorem dX2_layStep_52 : decode cX2_layStep 52 = .ok (.return_, 1) := by decide +kernel
theorem dX2_after_0 : decode cX2_after 0 = .ok (.iload_n 1, 1) := by decide +kernel
theorem dX2_after_1 : decode cX2_after 1 = .ok (.iload_n 2, 1) := by decide +kernel
theorem dX2_after_2 : decode cX2_after 2 = .ok (.iconst 2, 1) := by decide +kernel
theorem dX2_after_3 : decode cX2_after 3 = .ok (.idiv, 1) := by decide +kernel
theorem dX2_after_4 : decode cX2_after 4 = .ok (.isub, 1) := by decide +kernel
theorem dX2_after_5 : decode cX2_after 5 = .ok (.istore_n 3, 1) := by decide +kernel
theorem dX2_after_6 : decode cX2_after 6 = .ok (.iload_n 3, 1) := by decide +kernel
theorem dX2_after_7 : decode cX2_after 7 = .ok (.iconst 1, 1) := by decide +kernel
theorem dX2_after_8 : decode cX2_after 8 = .ok (.if_icmp .le 5, 3) := by decide +kernel
theorem dX2_after_11 : decode cX2_after 11 = .ok (.iload_n 3, 1) := by decide +kernel
theorem dX2_after_12 : decode cX2_after 12 = .ok (.ireturn, 1) := by decide +kernel
theorem dX2_after_13 : decode cX2_after 13 = .ok (.iload_n 3, 1) := by decide +kernel
theorem dX2_after_14 : decode cX2_after 14 = .ok (.ifCond .ge 5, 3) := by decide +kernel
theorem dX2_after_17 : decode cX2_after 17 = .ok (.iconst (-1), 1) := by decide +kernel
theorem dX2_after_18 : decode cX2_after 18 = .ok (.ireturn, 1) := by decide +kernel
theorem dX2_after_19 : decode cX2_after 19 = .ok (.aload_n 0, 1) := by decide +kernel
theorem dX2_after_20 : decode cX2_after 20 = .ok (.getfield 33, 3) := by decide +kernel
theorem dX2_after_23 : decode cX2_after 23 = .ok (.ifCond .ne 5, 3) := by decide +kernel
theorem dX2_after_26 : decode cX2_after 26 = .ok (.iload_n 3, 1) := by decide +kernel
theorem dX2_after_27 : decode cX2_after 27 = .ok (.ireturn, 1) := by decide +kernel
theorem dX2_after_28 : decode cX2_after 28 = .ok (.iload_n 3, 1) := by decide +kernel
theorem dX2_after_29 : decode cX2_after 29 = .ok (.ifCond .ne 14, 3) := by decide +kernel
theorem dX2_after_32 : decode cX2_after 32 = .ok (.iload_n 2, 1) := by decide +kernel
theorem dX2_after_33 : decode cX2_after 33 = .ok (.iconst 2, 1) := by decide +kernel
theorem dX2_after_34 : decode cX2_after 34 = .ok (.irem, 1) := by decide +kernel
theorem dX2_after_35 : decode cX2_after 35 = .ok (.iconst 1, 1) := by decide +kernel
theorem dX2_after_36 : decode cX2_after 36 = .ok (.if_icmp .ne 7, 3) := by decide +kernel
theorem dX2_after_39 : decode cX2_after 39 = .ok (.iconst 0, 1) := by decide +kernel
theorem dX2_after_40 : decode cX2_after 40 = .ok (.goto 4, 3) := by decide +kernel
theorem dX2_after_43 : decode cX2_after 43 = .ok (.iconst (-1), 1) := by decide +kernel
theorem dX2_after_44 : decode cX2_after 44 = .ok (.ireturn, 1) := by decide +kernel
theorem dX3_init_0 : decode cX3_init 0 = .ok (.aload_n 0, 1) := by decide +kernel
theorem dX3_init_1 : decode cX3_init 1 = .ok (.invokespecial 3, 3) := by decide +kernel
theorem dX3_init_4 : decode cX3_init 4 = .ok (.aload_n 0, 1) := by decide +kernel
theorem dX3_init_5 : decode cX3_init 5 = .ok (.aconst_null, 1) := by decide +kernel
theorem dX3_init_6 : decode cX3_init 6 = .ok (.putfield 9, 3) := by decide +kernel
theorem dX3_init_9 : decode cX3_init 9 = .ok (.aload_n 0, 1) := by decide +kernel
theorem dX3_init_10 : decode cX3_init 10 = .ok (.iload_n 2, 1) := by decide +kernel
theorem dX3_init_11 : decode cX3_init 11 = .ok (.putfield 15, 3) := by decide +kernel
theorem dX3_init_14 : decode cX3_init 14 = .ok (.aload_n 0, 1) := by decide +kernel
theorem dX3_init_15 : decode cX3_init 15 = .ok (.iload_n 3, 1) := by decide +kernel
theorem dX3_init_16 : decode cX3_init 16 = .ok (.putfield 19, 3) := by decide +kernel
theorem dX3_init_19 : decode cX3_init 19 = .ok (.aload_n 0, 1) := by decide +kernel
theorem dX3_init_20 : decode cX3_init 20 = .ok (.iconst 0, 1) := by decide +kernel
theorem dX3_init_21 : decode cX3_init 21 = .ok (.putfield 22, 3) := by decide +kernel
theorem dX3_init_24 : decode cX3_init 24 = .ok (.aload_n 0, 1) := by decide +kernel
theorem dX3_init_25 : decode cX3_init 25 = .ok (.iload_n 1, 1) := by decide +kernel
theorem dX3_init_26 : decode cX3_init 26 = .ok (.putfield 25, 3) := by decide +kernel
theorem dX3_init_29 : decode cX3_init 29 = .ok (.aload_n 0, 1) := by decide +kernel
theorem dX3_init_30 : decode cX3_init 30 = .ok (.iload_n 1, 1) := by decide +kernel
theorem dX3_init_31 : decode cX3_init 31 = .ok (.putfield 28, 3) := by decide +kernel
theorem dX3_init_34 : decode cX3_init 34 = .ok (.aload_n 0, 1) := by decide +kernel
theorem dX3_init_35 : decode cX3_init 35 = .ok (.iload_n 1, 1) := by decide +kernel
theorem dX3_init_36 : decode cX3_init 36 = .ok (.putfield 31, 3) := by decide +kernel
theorem dX3_init_39 : decode cX3_init 39 = .ok (.aload_n 0, 1) := by decide +kernel
theorem dX3_init_40 : decode cX3_init 40 = .ok (.iload_n 2, 1) := by decide +kernel
theorem dX3_init_41 : decode cX3_init 41 = .ok (.putfield 34, 3) := by decide +kernel
theorem dX3_init_44 : decode cX3_init 44 = .ok (.aload_n 0, 1) := by decide +kernel
theorem dX3_init_45 : decode cX3_init 45 = .ok (.iconst 0, 1) := by decide +kernel
theorem dX3_init_46 : decode cX3_init 46 = .ok (.putfield 37, 3) := by decide +kernel
theorem dX3_init_49 : decode cX3_init 49 = .ok (.aload_n 0, 1) := by decide +kernel
theorem dX3_init_50 : decode cX3_init 50 = .ok (.iconst (-1), 1) := by decide +kernel
theorem dX3_init_51 : decode cX3_init 51 = .ok (.putfield 40, 3) := by decide +kernel
theorem dX3_init_54 : decode cX3_init 54 = .ok (.return_, 1) := by decide +kernel
theorem dX3_init__0 : decode cX3_init_ 0 = .ok (.aload_n 0, 1) := by decide +kernel
theorem dX3_init__1 : decode cX3_init_ 1 = .ok (.invokespecial 3, 3) := by decide +kernel
theorem dX3_init__4 : decode cX3_init_ 4 = .ok (.aload_n 0, 1) := by decide +kernel
theorem dX3_init__5 : decode cX3_init_ 5 = .ok (.aload_n 1, 1) := by decide +kernel
theorem dX3_init__6 : decode cX3_init_ 6 = .ok (.putfield 9, 3) := by decide +kernel
theorem dX3_init__9 : decode cX3_init_ 9 = .ok (.aload_n 0, 1) := by decide +kernel
theorem dX3_init__10 : decode cX3_init_ 10 = .ok (.aload_n 1, 1) := by decide +kernel
theorem dX3_init__11 : decode cX3_init_ 11 = .ok (.getfield 15, 3) := by decide +kernel
theorem dX3_init__14 : decode cX3_init_ 14 = .ok (.putfield 15, 3) := by decide +kernel
theorem dX3_init__17 : decode cX3_init_ 17 = .ok (.aload_n 0, 1) := by decide +kernel
theorem dX3_init__18 : decode cX3_init_ 18 = .ok (.aload_n 1, 1) := by decide +kernel
theorem dX3_init__19 : decode cX3_init_ 19 = .ok (.getfield 19, 3) := by decide +kernel
theorem dX3_init__22 : decode cX3_init_ 22 = .ok (.putfield 19, 3) := by decide +kernel
theorem dX3_init__25 : decode cX3_init_ 25 = .ok (.aload_n 0, 1) := by decide +kernel
theorem dX3_init__26 : decode cX3_init_ 26 = .ok (.aload_n 1, 1) := by decide +kernel
theorem dX3_init__27 : decode cX3_init_ 27 = .ok (.getfield 22, 3) := by decide +kernel
theorem dX3_init__30 : decode cX3_init_ 30 = .ok (.putfield 22, 3) := by decide +kernel
theorem dX3_init__33 : decode cX3_init_ 33 = .ok (.aload_n 0, 1) := by decide +kernel
theorem dX3_init__34 : decode cX3_init_ 34 = .ok (.aload_n 1, 1) := by decide +kernel
theorem dX3_init__35 : decode cX3_init_ 35 = .ok (.getfield 25, 3) := by decide +kernel
theorem dX3_init__38 : decode cX3_init_ 38 = .ok (.putfield 25, 3) := by decide +kernel
theorem dX3_init__41 : decode cX3_init_ 41 = .ok (.aload_n 0, 1) := by decide +kernel
theorem dX3_init__42 : decode cX3_init_ 42 = .ok (.aload_n 1, 1) := by decide +kernel
theorem dX3_init__43 : decode cX3_init_ 43 = .ok (.getfield 28, 3) := by decide +kernel
theorem dX3_init__46 : decode cX3_init_ 46 = .ok (.putfield 28, 3) := by decide +kernel
theorem dX3_init__49 : decode cX3_init_ 49 = .ok (.aload_n 0, 1) := by decide +kernel
theorem dX3_init__50 : decode cX3_init_ 50 = .ok (.aload_n 1, 1) := by decide +kernel
theorem dX3_init__51 : decode cX3_init_ 51 = .ok (.getfield 31, 3) := by decide +kernel
theorem dX3_init__54 : decode cX3_init_ 54 = .ok (.putfield 31, 3) := by decide +kernel
theorem dX3_init__57 : decode cX3_init_ 57 = .ok (.aload_n 0, 1) := by decide +kernel
theorem dX3_init__58 : decode cX3_init_ 58 = .ok (.aload_n 1, 1) := by decide +kernel
theorem dX3_init__59 : decode cX3_init_ 59 = .ok (.getfield 34, 3) := by decide +kernel
theorem dX3_init__62 : decode cX3_init_ 62 = .ok (.putfield 34, 3) := by decide +kernel
theorem dX3_init__65 : decode cX3_init_ 65 = .ok (.aload_n 0, 1) := by decide +kernel
theorem dX3_init__66 : decode cX3_init_ 66 = .ok (.aload_n 1, 1) := by decide +kernel
theorem dX3_init__67 : decode cX3_init_ 67 = .ok (.getfield 37, 3) := by decide +kernel
theorem dX3_init__70 : decode cX3_init_ 70 = .ok (.putfield 37, 3) := by decide +kernel
theorem dX3_init__73 : decode cX3_init_ 73 = .ok (.aload_n 0, 1) := by decide +kernel
theorem dX3_init__74 : decode cX3_init_ 74 = .ok (.aload_n 1, 1) := by decide +kernel
theorem dX3_init__75 : decode cX3_init_ 75 = .ok (.getfield 40, 3) := by decide +kernel
theorem dX3_init__78 : decode cX3_init_ 78 = .ok (.putfield 40, 3) := by decide +kernel
theorem dX3_init__81 : decode cX3_init_ 81 = .ok (.return_, 1) := by decide +kernel
theorem dX3_leftOf_0 : decode cX3_leftOf 0 = .ok (.iload_n 1, 1) := by decide +kernel
theorem dX3_leftOf_1 : decode cX3_leftOf 1 = .ok (.ifCond .ne 10, 3) := by decide +kernel
theorem dX3_leftOf_4 : decode cX3_leftOf 4 = .ok (.aload_n 0, 1) := by decide +kernel
theorem dX3_leftOf_5 : decode cX3_leftOf 5 = .ok (.getfield 25, 3) := by decide +kernel
theorem dX3_leftOf_8 : decode cX3_leftOf 8 = .ok (.goto 7, 3) := by decide +kernel
theorem dX3_leftOf_11 : decode cX3_leftOf 11 = .ok (.aload_n 0, 1) := by decide +kernel
theorem dX3_leftOf_12 : decode cX3_leftOf 12 = .ok (.getfield 28, 3) := by decide +kernel
theorem dX3_leftOf_15 : decode cX3_leftOf 15 = .ok (.ireturn, 1) := by decide +kernel
theorem dX3_isOver_0 : decode cX3_isOver 0 = .ok (.aload_n 0, 1) := by decide +kernel
theorem dX3_isOver_1 : decode cX3_isOver 1 = .ok (.getfield 25, 3) := by decide +kernel
theorem dX3_isOver_4 : decode cX3_isOver 4 = .ok (.ifCond .eq 10, 3) := by decide +kernel
theorem dX3_isOver_7 : decode cX3_isOver 7 = .ok (.aload_n 0, 1) := by decide +kernel
theorem dX3_isOver_8 : decode cX3_isOver 8 = .ok (.getfield 28, 3) := by decide +kernel
theorem dX3_isOver_11 : decode cX3_isOver 11 = .ok (.ifCond .ne 7, 3) := by decide +kernel
theorem dX3_isOver_14 : decode cX3_isOver 14 = .ok (.iconst 1, 1) := by decide +kernel
theorem dX3_isOver_15 : decode cX3_isOver 15 = .ok (.goto 4, 3) := by decide +kernel
theorem dX3_isOver_18 : decode cX3_isOver 18 = .ok (.iconst 0, 1) := by decide +kernel
theorem dX3_isOver_19 : decode cX3_isOver 19 = .ok (.ireturn, 1) := by decide +kernel
theorem dX3_draw_0 : decode cX3_draw 0 = .ok (.aload_n 0, 1) := by decide +kernel
theorem dX3_draw_1 : decode cX3_draw 1 = .ok (.aload_n 0, 1) := by decide +kernel
theorem dX3_draw_2 : decode cX3_draw 2 = .ok (.getfield 19, 3) := by decide +kernel
theorem dX3_draw_5 : decode cX3_draw 5 = .ok (.ldc 43, 2) := by decide +kernel
theorem dX3_draw_7 : decode cX3_draw 7 = .ok (.imul, 1) := by decide +kernel
theorem dX3_draw_8 : decode cX3_draw 8 = .ok (.sipush 12345, 3) := by decide +kernel
theorem dX3_draw_11 : decode cX3_draw 11 = .ok (.iadd, 1) := by decide +kernel
theorem dX3_draw_12 : decode cX3_draw 12 = .ok (.ldc 44, 2) := by decide +kernel
theorem dX3_draw_14 : decode cX3_draw 14 = .ok (.iand, 1) := by decide +kernel
theorem dX3_draw_15 : decode cX3_draw 15 = .ok (.putfield 19, 3) := by decide +kernel
theorem dX3_draw_18 : decode cX3_draw 18 = .ok (.return_, 1) := by decide +kernel
set_option maxRecDepth 20000 in
theorem ggX3_take_X3_putLeft : GoodIn wsX3_take wsX3_putLeft := goodIn_r _ [9, 10, 11, 12, 22, 23, 24, 25, 26, 27, 28, 29, 30, 31] (by decide +kernel) (by decide +kernel)
set_option maxRecDepth 20000 in
theorem gX3_take_X3_putLeft : GoodIn wsX3_take (wsV RX3 45 RX3 yX3_putLeft wsX3_putLeft) := goodIn_app (goodIn_of _ (by decide +kernel)) ggX3_take_X3_putLeft
set_option maxRecDepth 20000 in
theorem ggX3_take_X3_passTurn : GoodIn wsX3_take wsX3_passTurn := goodIn_r _ [16, 10, 4, 17, 3, 18, 19, 20, 8, 21, 11, 12, 22, 23, 24, 25, 26, 27, 28, 29, 30, 31] (by decide +kernel) (by decide +kernel)
set_option maxRecDepth 20000 in
theorem gX3_take_X3_passTurn : GoodIn wsX3_take (wsV RX3 49 RX3 yX3_passTurn wsX3_passTurn) := goodIn_app (goodIn_of _ (by decide +kernel)) ggX3_take_X3_passTurn
theorem dX3_take_0 : decode cX3_take 0 = .ok (.aload_n 0, 1) := by decide +kernel
theorem dX3_take_1 : decode cX3_take 1 = .ok (.dup, 1) := by decide +kernel
theorem dX3_take_2 : decode cX3_take 2 = .ok (.getfield 37, 3) := by decide +kernel
theorem dX3_take_5 : decode cX3_take 5 = .ok (.iconst 1, 1) := by decide +kernel
theorem dX3_take_6 : decode cX3_take 6 = .ok (.iadd, 1) := by decide +kernel
theorem dX3_take_7 : decode cX3_take 7 = .ok (.putfield 37, 3) := by decide +kernel
theorem dX3_take_10 : decode cX3_take 10 = .ok (.aload_n 0, 1) := by decide +kernel
theorem dX3_take_11 : decode cX3_take 11 = .ok (.iload_n 1, 1) := by decide +kernel
theorem dX3_take_12 : decode cX3_take 12 = .ok (.putfield 40, 3) := by decide +kernel
theorem dX3_take_15 : decode cX3_take 15 = .ok (.aload_n 0, 1) := by decide +kernel
theorem dX3_take_16 : decode cX3_take 16 = .ok (.dup, 1) := by decide +kernel
theorem dX3_take_17 : decode cX3_take 17 = .ok (.getfield 34, 3) := by decide +kernel
theorem dX3_take_20 : decode cX3_take 20 = .ok (.iconst 1, 1) := by decide +kernel
theorem dX3_take_21 : decode cX3_take 21 = .ok (.isub, 1) := by decide +kernel
theorem dX3_take_22 : decode cX3_take 22 = .ok (.putfield 34, 3) := by decide +kernel
theorem dX3_take_25 : decode cX3_take 25 = .ok (.aload_n 0, 1) := by decide +kernel
theorem dX3_take_26 : decode cX3_take 26 = .ok (.iload_n 2, 1) := by decide +kernel
theorem dX3_take_27 : decode cX3_take 27 = .ok (.iconst (-1), 1) := by decide +kernel
theorem dX3_take_28 : decode cX3_take 28 = .ok (.if_icmp .ne 10, 3) := by decide +kernel
theorem dX3_take_31 : decode cX3_take 31 = .ok (.aload_n 0, 1) := by decide +kernel
theorem dX3_take_32 : decode cX3_take 32 = .ok (.getfield 31, 3) := by decide +kernel
theorem dX3_take_35 : decode cX3_take 35 = .ok (.goto 4, 3) := by decide +kernel
theorem dX3_take_38 : decode cX3_take 38 = .ok (.iload_n 2, 1) := by decide +kernel
theorem dX3_take_39 : decode cX3_take 39 = .ok (.invokevirtual 45, 3) := by decide +kernel
theorem dX3_take_42 : decode cX3_take 42 = .ok (.iload_n 2, 1) := by decide +kernel
theorem dX3_take_43 : decode cX3_take 43 = .ok (.iconst (-1), 1) := by decide +kernel
theorem dX3_take_44 : decode cX3_take 44 = .ok (.if_icmp .eq 14, 3) := by decide +kernel
theorem dX3_take_47 : decode cX3_take 47 = .ok (.aload_n 0, 1) := by decide +kernel
theorem dX3_take_48 : decode cX3_take 48 = .ok (.getfield 34, 3) := by decide +kernel
theorem dX3_take_51 : decode cX3_take 51 = .ok (.ifCond .ne 11, 3) := by decide +kernel
theorem dX3_take_54 : decode cX3_take 54 = .ok (.iload_n 2, 1) := by decide +kernel
theorem dX3_take_55 : decode cX3_take 55 = .ok (.ifCond .eq 7, 3) := by decide +kernel
theorem dX3_take_58 : decode cX3_take 58 = .ok (.aload_n 0, 1) := by decide +kernel
theorem dX3_take_59 : decode cX3_take 59 = .ok (.invokevirtual 49, 3) := by decide +kernel
theorem dX3_take_62 : decode cX3_take 62 = .ok (.return_, 1) := by decide +kernel
theorem dX3_putLeft_0 : decode cX3_putLeft 0 = .ok (.aload_n 0, 1) := by decide +kernel
theorem dX3_putLeft_1 : decode cX3_putLeft 1 = .ok (.getfield 22, 3) := by decide +kernel
theorem dX3_putLeft_4 : decode cX3_putLeft 4 = .ok (.ifCond .ne 11, 3) := by decide +kernel
theorem dX3_putLeft_7 : decode cX3_putLeft 7 = .ok (.aload_n 0, 1) := by decide +kernel
theorem dX3_putLeft_8 : decode cX3_putLeft 8 = .ok (.iload_n 1, 1) := by decide +kernel
theorem dX3_putLeft_9 : decode cX3_putLeft 9 = .ok (.putfield 25, 3) := by decide +kernel
theorem dX3_putLeft_12 : decode cX3_putLeft 12 = .ok (.goto 8, 3) := by decide +kernel
theorem dX3_putLeft_15 : decode cX3_putLeft 15 = .ok (.aload_n 0, 1) := by decide +kernel
theorem dX3_putLeft_16 : decode cX3_putLeft 16 = .ok (.iload_n 1, 1) := by decide +kernel
theorem dX3_putLeft_17 : decode cX3_putLeft 17 = .ok (.putfield 28, 3) := by decide +kernel
theorem dX3_putLeft_20 : decode cX3_putLeft 20 = .ok (.return_, 1) := by decide +kernel
set_option maxRecDepth 20000 in
theorem ggX3_passTurn_X3_leftOf : GoodIn wsX3_passTurn wsX3_leftOf := goodIn_r _ [9, 10, 11, 12, 13, 14, 15, 16, 17, 18, 19, 20, 21] (by decide +kernel) (by decide +kernel)
set_option maxRecDepth 20000 in
theorem gX3_passTurn_X3_leftOf : GoodIn wsX3_passTurn (wsV RX3 52 RX3 yX3_leftOf wsX3_leftOf) := goodIn_app (goodIn_of _ (by decide +kernel)) ggX3_passTurn_X3_leftOf
theorem dX3_passTurn_0 : decode cX3_passTurn 0 = .ok (.aload_n 0, 1) := by decide +kernel
theorem dX3_passTurn_1 : decode cX3_passTurn 1 = .ok (.iconst 1, 1) := by decide +kernel
theorem dX3_passTurn_2 : decode cX3_passTurn 2 = .ok (.aload_n 0, 1) := by decide +kernel
theorem dX3_passTurn_3 : decode cX3_passTurn 3 = .ok (.getfield 22, 3) := by decide +kernel
theorem dX3_passTurn_6 : decode cX3_passTurn 6 = .ok (.isub, 1) := by decide +kernel
theorem dX3_passTurn_7 : decode cX3_passTurn 7 = .ok (.putfield 22, 3) := by decide +kernel
theorem dX3_passTurn_10 : decode cX3_passTurn 10 = .ok (.aload_n 0, 1) := by decide +kernel
theorem dX3_passTurn_11 : decode cX3_passTurn 11 = .ok (.aload_n 0, 1) := by decide +kernel
theorem dX3_passTurn_12 : decode cX3_passTurn 12 = .ok (.aload_n 0, 1) := by decide +kernel
theorem dX3_passTurn_13 : decode cX3_passTurn 13 = .ok (.getfield 22, 3) := by decide +kernel
theorem dX3_passTurn_16 : decode cX3_passTurn 16 = .ok (.invokevirtual 52, 3) := by decide +kernel
theorem dX3_passTurn_19 : decode cX3_passTurn 19 = .ok (.putfield 31, 3) := by decide +kernel
theorem dX3_passTurn_22 : decode cX3_passTurn 22 = .ok (.aload_n 0, 1) := by decide +kernel
theorem dX3_passTurn_23 : decode cX3_passTurn 23 = .ok (.aload_n 0, 1) := by decide +kernel
theorem dX3_passTurn_24 : decode cX3_passTurn 24 = .ok (.getfield 15, 3) := by decide +kernel
theorem dX3_passTurn_27 : decode cX3_passTurn 27 = .ok (.putfield 34, 3) := by decide +kernel
theorem dX3_passTurn_30 : decode cX3_passTurn 30 = .ok (.return_, 1) := by decide +kernel
set_option maxRecDepth 20000 in
theorem ggX3_fact_X3_isOver : GoodIn wsX3_fact wsX3_isOver := goodIn_r _ [11, 2, 3, 12, 13, 14, 15, 16, 17, 18, 19, 20, 21] (by decide +kernel) (by decide +kernel)
set_option maxRecDepth 20000 in
theorem gX3_fact_X3_isOver : GoodIn wsX3_fact (wsV RX3 56 RX3 yX3_isOver wsX3_isOver) := goodIn_app (goodIn_of _ (by decide +kernel)) ggX3_fact_X3_isOver
theorem dX3_fact_0 : decode cX3_fact 0 = .ok (.iload_n 1, 1) := by decide +kernel
theorem dX3_fact_1 : decode cX3_fact 1 = .ok (.tableswitch 77 0 5 #[39, 44, 49, 54, 59, 72], 39) := by decide +kernel
theorem dX3_fact_40 : decode cX3_fact 40 = .ok (.aload_n 0, 1) := by decide +kernel
theorem dX3_fact_41 : decode cX3_fact 41 = .ok (.getfield 22, 3) := by decide +kernel
theorem dX3_fact_44 : decode cX3_fact 44 = .ok (.ireturn, 1) := by decide +kernel
theorem dX3_fact_45 : decode cX3_fact 45 = .ok (.aload_n 0, 1) := by decide +kernel
theorem dX3_fact_46 : decode cX3_fact 46 = .ok (.getfield 25, 3) := by decide +kernel
theorem dX3_fact_49 : decode cX3_fact 49 = .ok (.ireturn, 1) := by decide +kernel
theorem dX3_fact_50 : decode cX3_fact 50 = .ok (.aload_n 0, 1) := by decide +kernel
theorem dX3_fact_51 : decode cX3_fact 51 = .ok (.getfield 28, 3) := by decide +kernel
theorem dX3_fact_54 : decode cX3_fact 54 = .ok (.ireturn, 1) := by decide +kernel
theorem dX3_fact_55 : decode cX3_fact 55 = .ok (.aload_n 0, 1) := by decide +kernel
theorem dX3_fact_56 : decode cX3_fact 56 = .ok (.getfield 34, 3) := by decide +kernel
theorem dX3_fact_59 : decode cX3_fact 59 = .ok (.ireturn, 1) := by decide +kernel
theorem dX3_fact_60 : decode cX3_fact 60 = .ok (.aload_n 0, 1) := by decide +kernel
theorem dX3_fact_61 : decode cX3_fact 61 = .ok (.invokevirtual 56, 3) := by decide +kernel
theorem dX3_fact_64 : decode cX3_fact 64 = .ok (.ifCond .eq 7, 3) := by decide +kernel
theorem dX3_fact_67 : decode cX3_fact 67 = .ok (.iconst 1, 1) := by decide +kernel
theorem dX3_fact_68 : decode cX3_fact 68 = .ok (.goto 4, 3) := by decide +kernel
theorem dX3_fact_71 : decode cX3_fact 71 = .ok (.iconst 0, 1) := by decide +kernel
theorem dX3_fact_72 : decode cX3_fact 72 = .ok (.ireturn, 1) := by decide +kernel
theorem dX3_fact_73 : decode cX3_fact 73 = .ok (.aload_n 0, 1) := by decide +kernel
theorem dX3_fact_74 : decode cX3_fact 74 = .ok (.getfield 37, 3) := by decide +kernel
theorem dX3_fact_77 : decode cX3_fact 77 = .ok (.ireturn, 1) := by decide +kernel
theorem dX3_fact_78 : decode cX3_fact 78 = .ok (.aload_n 0, 1) := by decide +kernel
theorem dX3_fact_79 : decode cX3_fact 79 = .ok (.getfield 40, 3) := by decide +kernel
theorem dX3_fact_82 : decode cX3_fact 82 = .ok (.ireturn, 1) := by decide +kernel
