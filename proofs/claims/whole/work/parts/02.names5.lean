theorem dX7_dart_26 : decode cX7_dart 26 = .ok (.invokevirtual 179, 3) := by decide +kernel
theorem dX7_dart_29 : decode cX7_dart 29 = .ok (.ifCond .ne 16, 3) := by decide +kernel
theorem dX7_dart_32 : decode cX7_dart 32 = .ok (.aload_n 0, 1) := by decide +kernel
theorem dX7_dart_33 : decode cX7_dart 33 = .ok (.getfield 61, 3) := by decide +kernel
theorem dX7_dart_36 : decode cX7_dart 36 = .ok (.getfield 183, 3) := by decide +kernel
theorem dX7_dart_39 : decode cX7_dart 39 = .ok (.sipush 512, 3) := by decide +kernel
theorem dX7_dart_42 : decode cX7_dart 42 = .ok (.if_icmp .lt 6, 3) := by decide +kernel
theorem dX7_dart_45 : decode cX7_dart 45 = .ok (.bipush (-3), 2) := by decide +kernel
theorem dX7_dart_47 : decode cX7_dart 47 = .ok (.ireturn, 1) := by decide +kernel
theorem dX7_dart_48 : decode cX7_dart 48 = .ok (.iload_n 1, 1) := by decide +kernel
theorem dX7_dart_49 : decode cX7_dart 49 = .ok (.iconst (-1), 1) := by decide +kernel
theorem dX7_dart_50 : decode cX7_dart 50 = .ok (.if_icmp .ne 24, 3) := by decide +kernel
theorem dX7_dart_53 : decode cX7_dart 53 = .ok (.aload_n 0, 1) := by decide +kernel
theorem dX7_dart_54 : decode cX7_dart 54 = .ok (.aload_n 0, 1) := by decide +kernel
theorem dX7_dart_55 : decode cX7_dart 55 = .ok (.getfield 61, 3) := by decide +kernel
theorem dX7_dart_58 : decode cX7_dart 58 = .ok (.aload_n 0, 1) := by decide +kernel
theorem dX7_dart_59 : decode cX7_dart 59 = .ok (.getfield 61, 3) := by decide +kernel
theorem dX7_dart_62 : decode cX7_dart 62 = .ok (.getfield 186, 3) := by decide +kernel
theorem dX7_dart_65 : decode cX7_dart 65 = .ok (.invokevirtual 189, 3) := by decide +kernel
theorem dX7_dart_68 : decode cX7_dart 68 = .ok (.invokevirtual 153, 3) := by decide +kernel
theorem dX7_dart_71 : decode cX7_dart 71 = .ok (.goto 4, 3) := by decide +kernel
theorem dX7_dart_74 : decode cX7_dart 74 = .ok (.iload_n 1, 1) := by decide +kernel
theorem dX7_dart_75 : decode cX7_dart 75 = .ok (.istore_n 2, 1) := by decide +kernel
theorem dX7_dart_76 : decode cX7_dart 76 = .ok (.iload_n 2, 1) := by decide +kernel
theorem dX7_dart_77 : decode cX7_dart 77 = .ok (.invokestatic 105, 3) := by decide +kernel
theorem dX7_dart_80 : decode cX7_dart 80 = .ok (.ifCond .ne 6, 3) := by decide +kernel
theorem dX7_dart_83 : decode cX7_dart 83 = .ok (.bipush (-3), 2) := by decide +kernel
theorem dX7_dart_85 : decode cX7_dart 85 = .ok (.ireturn, 1) := by decide +kernel
theorem dX7_dart_86 : decode cX7_dart 86 = .ok (.aload_n 0, 1) := by decide +kernel
theorem dX7_dart_87 : decode cX7_dart 87 = .ok (.iload_n 2, 1) := by decide +kernel
theorem dX7_dart_88 : decode cX7_dart 88 = .ok (.aload_n 0, 1) := by decide +kernel
theorem dX7_dart_89 : decode cX7_dart 89 = .ok (.getfield 61, 3) := by decide +kernel
theorem dX7_dart_92 : decode cX7_dart 92 = .ok (.invokevirtual 192, 3) := by decide +kernel
theorem dX7_dart_95 : decode cX7_dart 95 = .ok (.ireturn, 1) := by decide +kernel
set_option maxRecDepth 20000 in
theorem ggX7_about_X3_fact : GoodIn wsX7_about wsX3_fact := goodIn_r _ [6, 7, 8, 9, 10, 11, 12, 13, 14, 15, 5, 16, 25, 26, 27, 28, 29, 30, 31, 32, 33, 34] (by decide +kernel) (by decide +kernel)
set_option maxRecDepth 20000 in
theorem gX7_about_X3_fact : GoodIn wsX7_about (wsV RX7 196 RX3 yX3_fact wsX3_fact) := goodIn_app (goodIn_of _ (by decide +kernel)) ggX7_about_X3_fact
theorem dX7_about_0 : decode cX7_about 0 = .ok (.iload_n 1, 1) := by decide +kernel
theorem dX7_about_1 : decode cX7_about 1 = .ok (.ifCond .lt 9, 3) := by decide +kernel
theorem dX7_about_4 : decode cX7_about 4 = .ok (.iload_n 1, 1) := by decide +kernel
theorem dX7_about_5 : decode cX7_about 5 = .ok (.bipush 7, 2) := by decide +kernel
theorem dX7_about_7 : decode cX7_about 7 = .ok (.if_icmp .lt 6, 3) := by decide +kernel
theorem dX7_about_10 : decode cX7_about 10 = .ok (.bipush (-2), 2) := by decide +kernel
theorem dX7_about_12 : decode cX7_about 12 = .ok (.ireturn, 1) := by decide +kernel
theorem dX7_about_13 : decode cX7_about 13 = .ok (.aload_n 0, 1) := by decide +kernel
theorem dX7_about_14 : decode cX7_about 14 = .ok (.getfield 61, 3) := by decide +kernel
theorem dX7_about_17 : decode cX7_about 17 = .ok (.ifnonnull 8, 3) := by decide +kernel
theorem dX7_about_20 : decode cX7_about 20 = .ok (.bipush (-3), 2) := by decide +kernel
theorem dX7_about_22 : decode cX7_about 22 = .ok (.goto 11, 3) := by decide +kernel
theorem dX7_about_25 : decode cX7_about 25 = .ok (.aload_n 0, 1) := by decide +kernel
theorem dX7_about_26 : decode cX7_about 26 = .ok (.getfield 61, 3) := by decide +kernel
theorem dX7_about_29 : decode cX7_about 29 = .ok (.iload_n 1, 1) := by decide +kernel
theorem dX7_about_30 : decode cX7_about 30 = .ok (.invokevirtual 196, 3) := by decide +kernel
theorem dX7_about_33 : decode cX7_about 33 = .ok (.ireturn, 1) := by decide +kernel
theorem dX7_undo_0 : decode cX7_undo 0 = .ok (.aload_n 0, 1) := by decide +kernel
theorem dX7_undo_1 : decode cX7_undo 1 = .ok (.getfield 61, 3) := by decide +kernel
theorem dX7_undo_4 : decode cX7_undo 4 = .ok (.ifnull 13, 3) := by decide +kernel
theorem dX7_undo_7 : decode cX7_undo 7 = .ok (.aload_n 0, 1) := by decide +kernel
theorem dX7_undo_8 : decode cX7_undo 8 = .ok (.getfield 61, 3) := by decide +kernel
theorem dX7_undo_11 : decode cX7_undo 11 = .ok (.getfield 199, 3) := by decide +kernel
theorem dX7_undo_14 : decode cX7_undo 14 = .ok (.ifnonnull 6, 3) := by decide +kernel
theorem dX7_undo_17 : decode cX7_undo 17 = .ok (.bipush (-3), 2) := by decide +kernel
theorem dX7_undo_19 : decode cX7_undo 19 = .ok (.ireturn, 1) := by decide +kernel
theorem dX7_undo_20 : decode cX7_undo 20 = .ok (.aload_n 0, 1) := by decide +kernel
theorem dX7_undo_21 : decode cX7_undo 21 = .ok (.aload_n 0, 1) := by decide +kernel
theorem dX7_undo_22 : decode cX7_undo 22 = .ok (.getfield 61, 3) := by decide +kernel
theorem dX7_undo_25 : decode cX7_undo 25 = .ok (.getfield 199, 3) := by decide +kernel
theorem dX7_undo_28 : decode cX7_undo 28 = .ok (.putfield 61, 3) := by decide +kernel
theorem dX7_undo_31 : decode cX7_undo 31 = .ok (.aload_n 0, 1) := by decide +kernel
theorem dX7_undo_32 : decode cX7_undo 32 = .ok (.getfield 61, 3) := by decide +kernel
theorem dX7_undo_35 : decode cX7_undo 35 = .ok (.getfield 183, 3) := by decide +kernel
theorem dX7_undo_38 : decode cX7_undo 38 = .ok (.ireturn, 1) := by decide +kernel
set_option maxRecDepth 20000 in
theorem ggX7_digest_X7_ruleNumber : GoodIn wsX7_digest wsX7_ruleNumber := goodIn_r _ [13, 14, 15, 41, 42, 43, 44, 45, 46, 47, 48, 52, 53, 54, 55, 56, 57, 58] (by decide +kernel) (by decide +kernel)
set_option maxRecDepth 20000 in
theorem gX7_digest_X7_ruleNumber : GoodIn wsX7_digest (wsV RX7 81 RX7 yX7_ruleNumber wsX7_ruleNumber) := goodIn_app (goodIn_of _ (by decide +kernel)) ggX7_digest_X7_ruleNumber
set_option maxRecDepth 20000 in
theorem ggX7_digest_X0_roughness : GoodIn wsX7_digest wsX0_roughness := goodIn_r _ [20, 21, 22, 23, 24, 25, 49] (by decide +kernel) (by decide +kernel)
set_option maxRecDepth 20000 in
theorem gX7_digest_X0_roughness : GoodIn wsX7_digest (wsV RX7 168 RX0 yX0_roughness wsX0_roughness) := goodIn_app (goodIn_of _ (by decide +kernel)) ggX7_digest_X0_roughness
set_option maxRecDepth 20000 in
theorem ggX7_digest_X3_fact : GoodIn wsX7_digest wsX3_fact := goodIn_r _ [30, 31, 32, 33, 34, 35, 36, 37, 38, 39, 29, 40, 59, 60, 61, 62, 63, 64, 65, 66, 67, 68] (by decide +kernel) (by decide +kernel)
set_option maxRecDepth 20000 in
theorem gX7_digest_X3_fact : GoodIn wsX7_digest (wsV RX7 196 RX3 yX3_fact wsX3_fact) := goodIn_app (goodIn_of _ (by decide +kernel)) ggX7_digest_X3_fact
theorem dX7_digest_0 : decode cX7_digest 0 = .ok (.ldc2_w 202, 3) := by decide +kernel
theorem dX7_digest_3 : decode cX7_digest 3 = .ok (.lstore_n 1, 1) := by decide +kernel
theorem dX7_digest_4 : decode cX7_digest 4 = .ok (.iconst 0, 1) := by decide +kernel
theorem dX7_digest_5 : decode cX7_digest 5 = .ok (.istore_n 3, 1) := by decide +kernel
theorem dX7_digest_6 : decode cX7_digest 6 = .ok (.iload_n 3, 1) := by decide +kernel
theorem dX7_digest_7 : decode cX7_digest 7 = .ok (.bipush 20, 2) := by decide +kernel
theorem dX7_digest_9 : decode cX7_digest 9 = .ok (.if_icmp .ge 26, 3) := by decide +kernel
theorem dX7_digest_12 : decode cX7_digest 12 = .ok (.ldc2_w 204, 3) := by decide +kernel
theorem dX7_digest_15 : decode cX7_digest 15 = .ok (.lload_n 1, 1) := by decide +kernel
theorem dX7_digest_16 : decode cX7_digest 16 = .ok (.lmul, 1) := by decide +kernel
theorem dX7_digest_17 : decode cX7_digest 17 = .ok (.aload_n 0, 1) := by decide +kernel
theorem dX7_digest_18 : decode cX7_digest 18 = .ok (.getfield 12, 3) := by decide +kernel
theorem dX7_digest_21 : decode cX7_digest 21 = .ok (.getfield 94, 3) := by decide +kernel
theorem dX7_digest_24 : decode cX7_digest 24 = .ok (.iload_n 3, 1) := by decide +kernel
theorem dX7_digest_25 : decode cX7_digest 25 = .ok (.iaload, 1) := by decide +kernel
theorem dX7_digest_26 : decode cX7_digest 26 = .ok (.i2l, 1) := by decide +kernel
theorem dX7_digest_27 : decode cX7_digest 27 = .ok (.ladd, 1) := by decide +kernel
theorem dX7_digest_28 : decode cX7_digest 28 = .ok (.lstore_n 1, 1) := by decide +kernel
theorem dX7_digest_29 : decode cX7_digest 29 = .ok (.iinc 3 1, 3) := by decide +kernel
theorem dX7_digest_32 : decode cX7_digest 32 = .ok (.goto (-26), 3) := by decide +kernel
theorem dX7_digest_35 : decode cX7_digest 35 = .ok (.iconst 0, 1) := by decide +kernel
theorem dX7_digest_36 : decode cX7_digest 36 = .ok (.istore_n 3, 1) := by decide +kernel
theorem dX7_digest_37 : decode cX7_digest 37 = .ok (.iload_n 3, 1) := by decide +kernel
theorem dX7_digest_38 : decode cX7_digest 38 = .ok (.bipush 25, 2) := by decide +kernel
theorem dX7_digest_40 : decode cX7_digest 40 = .ok (.if_icmp .ge 26, 3) := by decide +kernel
theorem dX7_digest_43 : decode cX7_digest 43 = .ok (.ldc2_w 204, 3) := by decide +kernel
theorem dX7_digest_46 : decode cX7_digest 46 = .ok (.lload_n 1, 1) := by decide +kernel
theorem dX7_digest_47 : decode cX7_digest 47 = .ok (.lmul, 1) := by decide +kernel
theorem dX7_digest_48 : decode cX7_digest 48 = .ok (.aload_n 0, 1) := by decide +kernel
theorem dX7_digest_49 : decode cX7_digest 49 = .ok (.getfield 19, 3) := by decide +kernel
theorem dX7_digest_52 : decode cX7_digest 52 = .ok (.getfield 69, 3) := by decide +kernel
theorem dX7_digest_55 : decode cX7_digest 55 = .ok (.iload_n 3, 1) := by decide +kernel
theorem dX7_digest_56 : decode cX7_digest 56 = .ok (.iaload, 1) := by decide +kernel
theorem dX7_digest_57 : decode cX7_digest 57 = .ok (.i2l, 1) := by decide +kernel
theorem dX7_digest_58 : decode cX7_digest 58 = .ok (.ladd, 1) := by decide +kernel
theorem dX7_digest_59 : decode cX7_digest 59 = .ok (.lstore_n 1, 1) := by decide +kernel
theorem dX7_digest_60 : decode cX7_digest 60 = .ok (.iinc 3 1, 3) := by decide +kernel
theorem dX7_digest_63 : decode cX7_digest 63 = .ok (.goto (-26), 3) := by decide +kernel
theorem dX7_digest_66 : decode cX7_digest 66 = .ok (.ldc2_w 204, 3) := by decide +kernel
theorem dX7_digest_69 : decode cX7_digest 69 = .ok (.lload_n 1, 1) := by decide +kernel
theorem dX7_digest_70 : decode cX7_digest 70 = .ok (.lmul, 1) := by decide +kernel
theorem dX7_digest_71 : decode cX7_digest 71 = .ok (.aload_n 0, 1) := by decide +kernel
theorem dX7_digest_72 : decode cX7_digest 72 = .ok (.invokevirtual 81, 3) := by decide +kernel
theorem dX7_digest_75 : decode cX7_digest 75 = .ok (.i2l, 1) := by decide +kernel
theorem dX7_digest_76 : decode cX7_digest 76 = .ok (.ladd, 1) := by decide +kernel
theorem dX7_digest_77 : decode cX7_digest 77 = .ok (.lstore_n 1, 1) := by decide +kernel
theorem dX7_digest_78 : decode cX7_digest 78 = .ok (.ldc2_w 204, 3) := by decide +kernel
theorem dX7_digest_81 : decode cX7_digest 81 = .ok (.lload_n 1, 1) := by decide +kernel
theorem dX7_digest_82 : decode cX7_digest 82 = .ok (.lmul, 1) := by decide +kernel
theorem dX7_digest_83 : decode cX7_digest 83 = .ok (.aload_n 0, 1) := by decide +kernel
theorem dX7_digest_84 : decode cX7_digest 84 = .ok (.getfield 19, 3) := by decide +kernel
theorem dX7_digest_87 : decode cX7_digest 87 = .ok (.getfield 73, 3) := by decide +kernel
theorem dX7_digest_90 : decode cX7_digest 90 = .ok (.i2l, 1) := by decide +kernel
theorem dX7_digest_91 : decode cX7_digest 91 = .ok (.ladd, 1) := by decide +kernel
theorem dX7_digest_92 : decode cX7_digest 92 = .ok (.lstore_n 1, 1) := by decide +kernel
theorem dX7_digest_93 : decode cX7_digest 93 = .ok (.ldc2_w 204, 3) := by decide +kernel
theorem dX7_digest_96 : decode cX7_digest 96 = .ok (.lload_n 1, 1) := by decide +kernel
theorem dX7_digest_97 : decode cX7_digest 97 = .ok (.lmul, 1) := by decide +kernel
theorem dX7_digest_98 : decode cX7_digest 98 = .ok (.aload_n 0, 1) := by decide +kernel
theorem dX7_digest_99 : decode cX7_digest 99 = .ok (.getfield 12, 3) := by decide +kernel
theorem dX7_digest_102 : decode cX7_digest 102 = .ok (.invokevirtual 168, 3) := by decide +kernel
theorem dX7_digest_105 : decode cX7_digest 105 = .ok (.i2l, 1) := by decide +kernel
theorem dX7_digest_106 : decode cX7_digest 106 = .ok (.ladd, 1) := by decide +kernel
theorem dX7_digest_107 : decode cX7_digest 107 = .ok (.lstore_n 1, 1) := by decide +kernel
theorem dX7_digest_108 : decode cX7_digest 108 = .ok (.aload_n 0, 1) := by decide +kernel
theorem dX7_digest_109 : decode cX7_digest 109 = .ok (.getfield 61, 3) := by decide +kernel
theorem dX7_digest_112 : decode cX7_digest 112 = .ok (.ifnull 33, 3) := by decide +kernel
theorem dX7_digest_115 : decode cX7_digest 115 = .ok (.iconst 0, 1) := by decide +kernel
theorem dX7_digest_116 : decode cX7_digest 116 = .ok (.istore_n 3, 1) := by decide +kernel
theorem dX7_digest_117 : decode cX7_digest 117 = .ok (.iload_n 3, 1) := by decide +kernel
theorem dX7_digest_118 : decode cX7_digest 118 = .ok (.bipush 7, 2) := by decide +kernel
theorem dX7_digest_120 : decode cX7_digest 120 = .ok (.if_icmp .ge 25, 3) := by decide +kernel
theorem dX7_digest_123 : decode cX7_digest 123 = .ok (.ldc2_w 204, 3) := by decide +kernel
theorem dX7_digest_126 : decode cX7_digest 126 = .ok (.lload_n 1, 1) := by decide +kernel
theorem dX7_digest_127 : decode cX7_digest 127 = .ok (.lmul, 1) := by decide +kernel
theorem dX7_digest_128 : decode cX7_digest 128 = .ok (.aload_n 0, 1) := by decide +kernel
theorem dX7_digest_129 : decode cX7_digest 129 = .ok (.getfield 61, 3) := by decide +kernel
theorem dX7_digest_132 : decode cX7_digest 132 = .ok (.iload_n 3, 1) := by decide +kernel
theorem dX7_digest_133 : decode cX7_digest 133 = .ok (.invokevirtual 196, 3) := by decide +kernel
theorem dX7_digest_136 : decode cX7_digest 136 = .ok (.i2l, 1) := by decide +kernel
theorem dX7_digest_137 : decode cX7_digest 137 = .ok (.ladd, 1) := by decide +kernel
theorem dX7_digest_138 : decode cX7_digest 138 = .ok (.lstore_n 1, 1) := by decide +kernel
theorem dX7_digest_139 : decode cX7_digest 139 = .ok (.iinc 3 1, 3) := by decide +kernel
theorem dX7_digest_142 : decode cX7_digest 142 = .ok (.goto (-25), 3) := by decide +kernel
theorem dX7_digest_145 : decode cX7_digest 145 = .ok (.lload_n 1, 1) := by decide +kernel
theorem dX7_digest_146 : decode cX7_digest 146 = .ok (.lreturn, 1) := by decide +kernel
set_option maxRecDepth 20000 in
theorem ggX7_makeReady_X2_lay : GoodIn wsX7_makeReady wsX2_lay := goodIn_r _ [10, 11, 12, 13, 14, 15, 16, 17, 18, 9, 19, 20, 21, 22, 23, 24, 25, 26, 27, 28, 29, 30, 31, 32, 33, 34, 35, 36, 37, 38, 39, 40, 41, 42, 43, 84, 85, 86, 87, 88, 89, 90, 91, 92, 93] (by decide +kernel) (by decide +kernel)
set_option maxRecDepth 20000 in
theorem gX7_makeReady_X2_lay : GoodIn wsX7_makeReady (wsV RX7 206 RX2 yX2_lay wsX2_lay) := goodIn_app (goodIn_of _ (by decide +kernel)) ggX7_makeReady_X2_lay
set_option maxRecDepth 20000 in
theorem ggX7_makeReady_X5_forget : GoodIn wsX7_makeReady wsX5_forget := goodIn_r _ [48, 49, 50, 51, 52, 53, 54, 55, 94, 95, 96, 97] (by decide +kernel) (by decide +kernel)
set_option maxRecDepth 20000 in
theorem gX7_makeReady_X5_forget : GoodIn wsX7_makeReady (wsV RX7 209 RX5 yX5_forget wsX5_forget) := goodIn_app (goodIn_of _ (by decide +kernel)) ggX7_makeReady_X5_forget
set_option maxRecDepth 20000 in
theorem ggX7_makeReady_X4_forget : GoodIn wsX7_makeReady wsX4_forget := goodIn_r _ [60, 61, 98, 99, 100, 101, 102, 103] (by decide +kernel) (by decide +kernel)
set_option maxRecDepth 20000 in
theorem gX7_makeReady_X4_forget : GoodIn wsX7_makeReady (wsV RX7 212 RX4 yX4_forget wsX4_forget) := goodIn_app (goodIn_of _ (by decide +kernel)) ggX7_makeReady_X4_forget
set_option maxRecDepth 20000 in
theorem ggX7_makeReady_X6_forget : GoodIn wsX7_makeReady wsX6_forget := goodIn_r _ [66, 67, 68, 69, 70, 65, 71, 72, 73, 74, 54, 75, 104, 105, 106, 107] (by decide +kernel) (by decide +kernel)
set_option maxRecDepth 20000 in
theorem gX7_makeReady_X6_forget : GoodIn wsX7_makeReady (wsV RX7 213 RX6 yX6_forget wsX6_forget) := goodIn_app (goodIn_of _ (by decide +kernel)) ggX7_makeReady_X6_forget
theorem dX7_makeReady_0 : decode cX7_makeReady 0 = .ok (.aload_n 0, 1) := by decide +kernel
theorem dX7_makeReady_1 : decode cX7_makeReady 1 = .ok (.getfield 57, 3) := by decide +kernel
theorem dX7_makeReady_4 : decode cX7_makeReady 4 = .ok (.ifCond .eq 36, 3) := by decide +kernel
theorem dX7_makeReady_7 : decode cX7_makeReady 7 = .ok (.aload_n 0, 1) := by decide +kernel
theorem dX7_makeReady_8 : decode cX7_makeReady 8 = .ok (.getfield 28, 3) := by decide +kernel
theorem dX7_makeReady_11 : decode cX7_makeReady 11 = .ok (.invokevirtual 206, 3) := by decide +kernel
theorem dX7_makeReady_14 : decode cX7_makeReady 14 = .ok (.aload_n 0, 1) := by decide +kernel
theorem dX7_makeReady_15 : decode cX7_makeReady 15 = .ok (.getfield 37, 3) := by decide +kernel
theorem dX7_makeReady_18 : decode cX7_makeReady 18 = .ok (.invokevirtual 209, 3) := by decide +kernel
theorem dX7_makeReady_21 : decode cX7_makeReady 21 = .ok (.aload_n 0, 1) := by decide +kernel
theorem dX7_makeReady_22 : decode cX7_makeReady 22 = .ok (.getfield 44, 3) := by decide +kernel
theorem dX7_makeReady_25 : decode cX7_makeReady 25 = .ok (.invokevirtual 212, 3) := by decide +kernel
theorem dX7_makeReady_28 : decode cX7_makeReady 28 = .ok (.aload_n 0, 1) := by decide +kernel
theorem dX7_makeReady_29 : decode cX7_makeReady 29 = .ok (.getfield 53, 3) := by decide +kernel
theorem dX7_makeReady_32 : decode cX7_makeReady 32 = .ok (.invokevirtual 213, 3) := by decide +kernel
theorem dX7_makeReady_35 : decode cX7_makeReady 35 = .ok (.aload_n 0, 1) := by decide +kernel
theorem dX7_makeReady_36 : decode cX7_makeReady 36 = .ok (.iconst 0, 1) := by decide +kernel
theorem dX7_makeReady_37 : decode cX7_makeReady 37 = .ok (.putfield 57, 3) := by decide +kernel
theorem dX7_makeReady_40 : decode cX7_makeReady 40 = .ok (.return_, 1) := by decide +kernel
set_option maxRecDepth 20000 in
theorem ggX7_throwsAim_X7_isLeft : GoodIn wsX7_throwsAim wsX7_isLeft := goodIn_r _ [6] (by decide +kernel) (by decide +kernel)
set_option maxRecDepth 20000 in
theorem gX7_throwsAim_X7_isLeft : GoodIn wsX7_throwsAim (va_wsS RX7 118 yX7_isLeft wsX7_isLeft) := goodIn_app (goodIn_of _ (by decide +kernel)) ggX7_throwsAim_X7_isLeft
set_option maxRecDepth 20000 in
theorem ggX7_throwsAim_X7_makeReady : GoodIn wsX7_throwsAim wsX7_makeReady := goodIn_r _ [10, 11, 12, 13, 1, 14, 15, 16, 17, 18, 19, 20, 21, 22, 23, 24, 25, 26, 27, 28, 29, 30, 31, 32, 5, 33, 34, 35, 36, 37, 38, 39, 40, 41, 42, 43, 44, 45, 46, 47, 48, 49, 50, 51, 52, 53, 54, 55, 56, 57, 58, 59, 60, 61, 62, 63, 64, 65, 66, 67, 68, 69, 70, 71, 72, 73, 74, 75, 76, 77, 78, 79, 80, 81, 82, 83, 114, 115, 116, 117, 118, 119, 120, 121, 128, 129, 130, 131, 132, 133, 134, 135, 136, 137, 138, 139, 140, 141, 122, 123, 124, 125, 126, 127, 142, 143, 144, 145] (by decide +kernel) (by decide +kernel)
set_option maxRecDepth 20000 in
theorem gX7_throwsAim_X7_makeReady : GoodIn wsX7_throwsAim (wsV RX7 126 RX7 yX7_makeReady wsX7_makeReady) := goodIn_app (goodIn_of _ (by decide +kernel)) ggX7_throwsAim_X7_makeReady
set_option maxRecDepth 20000 in
theorem ggX7_throwsAim_X4_settleUpTo : GoodIn wsX7_throwsAim wsX4_settleUpTo := goodIn_r _ [87, 69, 88, 89, 90, 67, 91, 92, 93, 94, 95, 96, 97, 98, 99, 100, 101, 102, 103, 104, 105, 106, 107, 18, 108, 109, 110, 111, 112, 113, 122, 123, 124, 125, 126, 127, 128, 129, 130, 131, 132, 133, 134] (by decide +kernel) (by decide +kernel)
set_option maxRecDepth 20000 in
theorem gX7_throwsAim_X4_settleUpTo : GoodIn wsX7_throwsAim (wsV RX7 136 RX4 yX4_settleUpTo wsX4_settleUpTo) := goodIn_app (goodIn_of _ (by decide +kernel)) ggX7_throwsAim_X4_settleUpTo
theorem dX7_throwsAim_0 : decode cX7_throwsAim 0 = .ok (.iload_n 1, 1) := by decide +kernel
theorem dX7_throwsAim_1 : decode cX7_throwsAim 1 = .ok (.invokestatic 118, 3) := by decide +kernel
theorem dX7_throwsAim_4 : decode cX7_throwsAim 4 = .ok (.ifCond .ne 5, 3) := by decide +kernel
theorem dX7_throwsAim_7 : decode cX7_throwsAim 7 = .ok (.iconst (-1), 1) := by decide +kernel
theorem dX7_throwsAim_8 : decode cX7_throwsAim 8 = .ok (.ireturn, 1) := by decide +kernel
theorem dX7_throwsAim_9 : decode cX7_throwsAim 9 = .ok (.aload_n 0, 1) := by decide +kernel
theorem dX7_throwsAim_10 : decode cX7_throwsAim 10 = .ok (.invokevirtual 126, 3) := by decide +kernel
theorem dX7_throwsAim_13 : decode cX7_throwsAim 13 = .ok (.aload_n 0, 1) := by decide +kernel
theorem dX7_throwsAim_14 : decode cX7_throwsAim 14 = .ok (.getfield 44, 3) := by decide +kernel
theorem dX7_throwsAim_17 : decode cX7_throwsAim 17 = .ok (.iload_n 1, 1) := by decide +kernel
theorem dX7_throwsAim_18 : decode cX7_throwsAim 18 = .ok (.invokevirtual 136, 3) := by decide +kernel
theorem dX7_throwsAim_21 : decode cX7_throwsAim 21 = .ok (.aload_n 0, 1) := by decide +kernel
theorem dX7_throwsAim_22 : decode cX7_throwsAim 22 = .ok (.getfield 44, 3) := by decide +kernel
theorem dX7_throwsAim_25 : decode cX7_throwsAim 25 = .ok (.getfield 214, 3) := by decide +kernel
theorem dX7_throwsAim_28 : decode cX7_throwsAim 28 = .ok (.iload_n 1, 1) := by decide +kernel
theorem dX7_throwsAim_29 : decode cX7_throwsAim 29 = .ok (.iaload, 1) := by decide +kernel
theorem dX7_throwsAim_30 : decode cX7_throwsAim 30 = .ok (.ireturn, 1) := by decide +kernel
set_option maxRecDepth 20000 in
theorem ggX7_weighedCount_X7_bedFrom : GoodIn wsX7_weighedCount wsX7_bedFrom := goodIn_r _ [7, 8, 9, 10, 11, 12, 13, 14, 15] (by decide +kernel) (by decide +kernel)
set_option maxRecDepth 20000 in
theorem gX7_weighedCount_X7_bedFrom : GoodIn wsX7_weighedCount (va_wsS RX7 108 yX7_bedFrom wsX7_bedFrom) := goodIn_app (goodIn_of _ (by decide +kernel)) ggX7_weighedCount_X7_bedFrom
set_option maxRecDepth 20000 in
theorem ggX7_weighedCount_X0_countOf : GoodIn wsX7_weighedCount wsX0_countOf := goodIn_r _ [20, 21, 32] (by decide +kernel) (by decide +kernel)
set_option maxRecDepth 20000 in
theorem gX7_weighedCount_X0_countOf : GoodIn wsX7_weighedCount (wsV RX7 101 RX0 yX0_countOf wsX0_countOf) := goodIn_app (goodIn_of _ (by decide +kernel)) ggX7_weighedCount_X0_countOf
theorem dX7_weighedCount_0 : decode cX7_weighedCount 0 = .ok (.iconst 0, 1) := by decide +kernel
theorem dX7_weighedCount_1 : decode cX7_weighedCount 1 = .ok (.istore_n 2, 1) := by decide +kernel
theorem dX7_weighedCount_2 : decode cX7_weighedCount 2 = .ok (.iconst 0, 1) := by decide +kernel
theorem dX7_weighedCount_3 : decode cX7_weighedCount 3 = .ok (.istore_n 3, 1) := by decide +kernel
theorem dX7_weighedCount_4 : decode cX7_weighedCount 4 = .ok (.iload_n 3, 1) := by decide +kernel
theorem dX7_weighedCount_5 : decode cX7_weighedCount 5 = .ok (.bipush 25, 2) := by decide +kernel
theorem dX7_weighedCount_7 : decode cX7_weighedCount 7 = .ok (.if_icmp .ge 46, 3) := by decide +kernel
theorem dX7_weighedCount_10 : decode cX7_weighedCount 10 = .ok (.aload_n 0, 1) := by decide +kernel
theorem dX7_weighedCount_11 : decode cX7_weighedCount 11 = .ok (.getfield 19, 3) := by decide +kernel
theorem dX7_weighedCount_14 : decode cX7_weighedCount 14 = .ok (.getfield 69, 3) := by decide +kernel
theorem dX7_weighedCount_17 : decode cX7_weighedCount 17 = .ok (.iload_n 3, 1) := by decide +kernel
theorem dX7_weighedCount_18 : decode cX7_weighedCount 18 = .ok (.iaload, 1) := by decide +kernel
theorem dX7_weighedCount_19 : decode cX7_weighedCount 19 = .ok (.ifCond .le 28, 3) := by decide +kernel
theorem dX7_weighedCount_22 : decode cX7_weighedCount 22 = .ok (.iload_n 2, 1) := by decide +kernel
theorem dX7_weighedCount_23 : decode cX7_weighedCount 23 = .ok (.aload_n 0, 1) := by decide +kernel
theorem dX7_weighedCount_24 : decode cX7_weighedCount 24 = .ok (.getfield 19, 3) := by decide +kernel
theorem dX7_weighedCount_27 : decode cX7_weighedCount 27 = .ok (.getfield 69, 3) := by decide +kernel
theorem dX7_weighedCount_30 : decode cX7_weighedCount 30 = .ok (.iload_n 3, 1) := by decide +kernel
theorem dX7_weighedCount_31 : decode cX7_weighedCount 31 = .ok (.iaload, 1) := by decide +kernel
theorem dX7_weighedCount_32 : decode cX7_weighedCount 32 = .ok (.aload_n 0, 1) := by decide +kernel
theorem dX7_weighedCount_33 : decode cX7_weighedCount 33 = .ok (.getfield 12, 3) := by decide +kernel
theorem dX7_weighedCount_36 : decode cX7_weighedCount 36 = .ok (.iload_n 1, 1) := by decide +kernel
theorem dX7_weighedCount_37 : decode cX7_weighedCount 37 = .ok (.iload_n 3, 1) := by decide +kernel
theorem dX7_weighedCount_38 : decode cX7_weighedCount 38 = .ok (.invokestatic 108, 3) := by decide +kernel
theorem dX7_weighedCount_41 : decode cX7_weighedCount 41 = .ok (.invokevirtual 101, 3) := by decide +kernel
theorem dX7_weighedCount_44 : decode cX7_weighedCount 44 = .ok (.imul, 1) := by decide +kernel
theorem dX7_weighedCount_45 : decode cX7_weighedCount 45 = .ok (.iadd, 1) := by decide +kernel
theorem dX7_weighedCount_46 : decode cX7_weighedCount 46 = .ok (.istore_n 2, 1) := by decide +kernel
theorem dX7_weighedCount_47 : decode cX7_weighedCount 47 = .ok (.iinc 3 1, 3) := by decide +kernel
theorem dX7_weighedCount_50 : decode cX7_weighedCount 50 = .ok (.goto (-46), 3) := by decide +kernel
theorem dX7_weighedCount_53 : decode cX7_weighedCount 53 = .ok (.iload_n 2, 1) := by decide +kernel
theorem dX7_weighedCount_54 : decode cX7_weighedCount 54 = .ok (.ireturn, 1) := by decide +kernel
set_option maxRecDepth 20000 in
theorem ggX7_throwAt_X3_init_ : GoodIn wsX7_throwAt wsX3_init_ := goodIn_r _ [13, 14, 15, 16, 17, 18, 19, 20, 21, 22, 23, 24, 25, 26, 86, 87, 88, 89, 90, 91, 92, 93, 94, 95] (by decide +kernel) (by decide +kernel)
set_option maxRecDepth 20000 in
theorem gX7_throwAt_X3_init_ : GoodIn wsX7_throwAt (wsX3_init_) := ggX7_throwAt_X3_init_
set_option maxRecDepth 20000 in
theorem ggX7_throwAt_X3_draw : GoodIn wsX7_throwAt wsX3_draw := goodIn_r _ [30, 19, 31, 32, 86, 87, 88, 89, 90, 91, 92, 93, 94, 95] (by decide +kernel) (by decide +kernel)
set_option maxRecDepth 20000 in
theorem gX7_throwAt_X3_draw : GoodIn wsX7_throwAt (wsV RX7 220 RX3 yX3_draw wsX3_draw) := goodIn_app (goodIn_of _ (by decide +kernel)) ggX7_throwAt_X3_draw
set_option maxRecDepth 20000 in
theorem ggX7_throwAt_X1_stepAt : GoodIn wsX7_throwAt wsX1_stepAt := goodIn_r _ [37, 38, 39, 104, 105] (by decide +kernel) (by decide +kernel)
set_option maxRecDepth 20000 in
theorem gX7_throwAt_X1_stepAt : GoodIn wsX7_throwAt (wsV RX7 227 RX1 yX1_stepAt wsX1_stepAt) := goodIn_app (goodIn_of _ (by decide +kernel)) ggX7_throwAt_X1_stepAt
set_option maxRecDepth 20000 in
theorem ggX7_throwAt_X7_bedFrom : GoodIn wsX7_throwAt wsX7_bedFrom := goodIn_r _ [43, 44, 45, 46, 47, 48, 49, 50, 51] (by decide +kernel) (by decide +kernel)
set_option maxRecDepth 20000 in
theorem gX7_throwAt_X7_bedFrom : GoodIn wsX7_throwAt (va_wsS RX7 108 yX7_bedFrom wsX7_bedFrom) := goodIn_app (goodIn_of _ (by decide +kernel)) ggX7_throwAt_X7_bedFrom
set_option maxRecDepth 20000 in
theorem ggX7_throwAt_X0_countOf : GoodIn wsX7_throwAt wsX0_countOf := goodIn_r _ [56, 57, 106] (by decide +kernel) (by decide +kernel)
set_option maxRecDepth 20000 in
theorem gX7_throwAt_X0_countOf : GoodIn wsX7_throwAt (wsV RX7 101 RX0 yX0_countOf wsX0_countOf) := goodIn_app (goodIn_of _ (by decide +kernel)) ggX7_throwAt_X0_countOf
set_option maxRecDepth 20000 in
theorem ggX7_throwAt_X3_leftOf : GoodIn wsX7_throwAt wsX3_leftOf := goodIn_r _ [61, 21, 22, 86, 87, 88, 89, 90, 91, 92, 93, 94, 95] (by decide +kernel) (by decide +kernel)
set_option maxRecDepth 20000 in
theorem gX7_throwAt_X3_leftOf : GoodIn wsX7_throwAt (wsV RX7 189 RX3 yX3_leftOf wsX3_leftOf) := goodIn_app (goodIn_of _ (by decide +kernel)) ggX7_throwAt_X3_leftOf
set_option maxRecDepth 20000 in
theorem ggX7_throwAt_X0_landingOf : GoodIn wsX7_throwAt wsX0_landingOf := goodIn_r _ [65, 66, 53, 54, 55, 56, 57, 106] (by decide +kernel) (by decide +kernel)
set_option maxRecDepth 20000 in
theorem gX7_throwAt_X0_landingOf : GoodIn wsX7_throwAt (wsV RX7 230 RX0 yX0_landingOf wsX0_landingOf) := goodIn_app (goodIn_of _ (by decide +kernel)) ggX7_throwAt_X0_landingOf
set_option maxRecDepth 20000 in
theorem ggX7_throwAt_X2_after : GoodIn wsX7_throwAt wsX2_after := goodIn_r _ [71, 72, 107, 108, 109, 110, 111, 112, 113] (by decide +kernel) (by decide +kernel)
set_option maxRecDepth 20000 in
theorem gX7_throwAt_X2_after : GoodIn wsX7_throwAt (wsV RX7 233 RX2 yX2_after wsX2_after) := goodIn_app (goodIn_of _ (by decide +kernel)) ggX7_throwAt_X2_after
set_option maxRecDepth 20000 in
theorem ggX7_throwAt_X3_take : GoodIn wsX7_throwAt wsX3_take := goodIn_r _ [76, 25, 26, 24, 23, 77, 78, 79, 3, 80, 20, 21, 22, 81, 82, 83, 84, 18, 85, 59, 60, 61, 86, 87, 88, 89, 90, 91, 92, 93, 94, 95] (by decide +kernel) (by decide +kernel)
set_option maxRecDepth 20000 in
theorem gX7_throwAt_X3_take : GoodIn wsX7_throwAt (wsV RX7 236 RX3 yX3_take wsX3_take) := goodIn_app (goodIn_of _ (by decide +kernel)) ggX7_throwAt_X3_take
theorem dX7_throwAt_0 : decode cX7_throwAt 0 = .ok (.new 174, 3) := by decide +kernel
theorem dX7_throwAt_3 : decode cX7_throwAt 3 = .ok (.dup, 1) := by decide +kernel
theorem dX7_throwAt_4 : decode cX7_throwAt 4 = .ok (.aload_n 2, 1) := by decide +kernel
theorem dX7_throwAt_5 : decode cX7_throwAt 5 = .ok (.invokespecial 217, 3) := by decide +kernel
theorem dX7_throwAt_8 : decode cX7_throwAt 8 = .ok (.astore_n 3, 1) := by decide +kernel
theorem dX7_throwAt_9 : decode cX7_throwAt 9 = .ok (.aload_n 3, 1) := by decide +kernel
theorem dX7_throwAt_10 : decode cX7_throwAt 10 = .ok (.invokevirtual 220, 3) := by decide +kernel
theorem dX7_throwAt_13 : decode cX7_throwAt 13 = .ok (.iload_n 1, 1) := by decide +kernel
theorem dX7_throwAt_14 : decode cX7_throwAt 14 = .ok (.aload_n 0, 1) := by decide +kernel
theorem dX7_throwAt_15 : decode cX7_throwAt 15 = .ok (.getfield 19, 3) := by decide +kernel
theorem dX7_throwAt_18 : decode cX7_throwAt 18 = .ok (.aload_n 3, 1) := by decide +kernel
theorem dX7_throwAt_19 : decode cX7_throwAt 19 = .ok (.getfield 223, 3) := by decide +kernel
theorem dX7_throwAt_22 : decode cX7_throwAt 22 = .ok (.ldc 226, 2) := by decide +kernel
theorem dX7_throwAt_24 : decode cX7_throwAt 24 = .ok (.idiv, 1) := by decide +kernel
theorem dX7_throwAt_25 : decode cX7_throwAt 25 = .ok (.invokevirtual 227, 3) := by decide +kernel
theorem dX7_throwAt_28 : decode cX7_throwAt 28 = .ok (.invokestatic 108, 3) := by decide +kernel
theorem dX7_throwAt_31 : decode cX7_throwAt 31 = .ok (.istore 4, 2) := by decide +kernel
theorem dX7_throwAt_33 : decode cX7_throwAt 33 = .ok (.aload_n 0, 1) := by decide +kernel
theorem dX7_throwAt_34 : decode cX7_throwAt 34 = .ok (.getfield 12, 3) := by decide +kernel
theorem dX7_throwAt_37 : decode cX7_throwAt 37 = .ok (.iload 4, 2) := by decide +kernel
theorem dX7_throwAt_39 : decode cX7_throwAt 39 = .ok (.invokevirtual 101, 3) := by decide +kernel
theorem dX7_throwAt_42 : decode cX7_throwAt 42 = .ok (.istore 5, 2) := by decide +kernel
theorem dX7_throwAt_44 : decode cX7_throwAt 44 = .ok (.aload_n 0, 1) := by decide +kernel
theorem dX7_throwAt_45 : decode cX7_throwAt 45 = .ok (.getfield 28, 3) := by decide +kernel
theorem dX7_throwAt_48 : decode cX7_throwAt 48 = .ok (.aload_n 2, 1) := by decide +kernel
theorem dX7_throwAt_49 : decode cX7_throwAt 49 = .ok (.aload_n 2, 1) := by decide +kernel
theorem dX7_throwAt_50 : decode cX7_throwAt 50 = .ok (.getfield 186, 3) := by decide +kernel
theorem dX7_throwAt_53 : decode cX7_throwAt 53 = .ok (.invokevirtual 189, 3) := by decide +kernel
theorem dX7_throwAt_56 : decode cX7_throwAt 56 = .ok (.aload_n 0, 1) := by decide +kernel
theorem dX7_throwAt_57 : decode cX7_throwAt 57 = .ok (.getfield 12, 3) := by decide +kernel
theorem dX7_throwAt_60 : decode cX7_throwAt 60 = .ok (.iload 4, 2) := by decide +kernel
theorem dX7_throwAt_62 : decode cX7_throwAt 62 = .ok (.invokevirtual 230, 3) := by decide +kernel
theorem dX7_throwAt_65 : decode cX7_throwAt 65 = .ok (.invokevirtual 233, 3) := by decide +kernel
theorem dX7_throwAt_68 : decode cX7_throwAt 68 = .ok (.istore 6, 2) := by decide +kernel
theorem dX7_throwAt_70 : decode cX7_throwAt 70 = .ok (.aload_n 3, 1) := by decide +kernel
theorem dX7_throwAt_71 : decode cX7_throwAt 71 = .ok (.iload 4, 2) := by decide +kernel
theorem dX7_throwAt_73 : decode cX7_throwAt 73 = .ok (.iload 6, 2) := by decide +kernel
theorem dX7_throwAt_75 : decode cX7_throwAt 75 = .ok (.invokevirtual 236, 3) := by decide +kernel
theorem dX7_throwAt_78 : decode cX7_throwAt 78 = .ok (.aload_n 0, 1) := by decide +kernel
theorem dX7_throwAt_79 : decode cX7_throwAt 79 = .ok (.aload_n 3, 1) := by decide +kernel
theorem dX7_throwAt_80 : decode cX7_throwAt 80 = .ok (.putfield 61, 3) := by decide +kernel
theorem dX7_throwAt_83 : decode cX7_throwAt 83 = .ok (.iload 6, 2) := by decide +kernel
theorem dX7_throwAt_85 : decode cX7_throwAt 85 = .ok (.iconst (-1), 1) := by decide +kernel
theorem dX7_throwAt_86 : decode cX7_throwAt 86 = .ok (.if_icmp .ne 12, 3) := by decide +kernel
theorem dX7_throwAt_89 : decode cX7_throwAt 89 = .ok (.sipush (-1000), 3) := by decide +kernel
theorem dX7_throwAt_92 : decode cX7_throwAt 92 = .ok (.iload 5, 2) := by decide +kernel
theorem dX7_throwAt_94 : decode cX7_throwAt 94 = .ok (.isub, 1) := by decide +kernel
theorem dX7_throwAt_95 : decode cX7_throwAt 95 = .ok (.goto 5, 3) := by decide +kernel
theorem dX7_throwAt_98 : decode cX7_throwAt 98 = .ok (.iload 5, 2) := by decide +kernel
theorem dX7_throwAt_100 : decode cX7_throwAt 100 = .ok (.ireturn, 1) := by decide +kernel
theorem dX7_ruleNumber_0 : decode cX7_ruleNumber 0 = .ok (.aload_n 0, 1) := by decide +kernel
theorem dX7_ruleNumber_1 : decode cX7_ruleNumber 1 = .ok (.getfield 28, 3) := by decide +kernel
theorem dX7_ruleNumber_4 : decode cX7_ruleNumber 4 = .ok (.getfield 85, 3) := by decide +kernel
theorem dX7_ruleNumber_7 : decode cX7_ruleNumber 7 = .ok (.ifCond .eq 7, 3) := by decide +kernel
theorem dX7_ruleNumber_10 : decode cX7_ruleNumber 10 = .ok (.iconst 1, 1) := by decide +kernel
theorem dX7_ruleNumber_11 : decode cX7_ruleNumber 11 = .ok (.goto 4, 3) := by decide +kernel
theorem dX7_ruleNumber_14 : decode cX7_ruleNumber 14 = .ok (.iconst 0, 1) := by decide +kernel
theorem dX7_ruleNumber_15 : decode cX7_ruleNumber 15 = .ok (.ireturn, 1) := by decide +kernel
theorem dX7_isStep_0 : decode cX7_isStep 0 = .ok (.iload_n 0, 1) := by decide +kernel
theorem dX7_isStep_1 : decode cX7_isStep 1 = .ok (.bipush (-2), 2) := by decide +kernel
theorem dX7_isStep_3 : decode cX7_isStep 3 = .ok (.if_icmp .lt 12, 3) := by decide +kernel
theorem dX7_isStep_6 : decode cX7_isStep 6 = .ok (.iload_n 0, 1) := by decide +kernel
theorem dX7_isStep_7 : decode cX7_isStep 7 = .ok (.iconst 2, 1) := by decide +kernel
theorem dX7_isStep_8 : decode cX7_isStep 8 = .ok (.if_icmp .gt 7, 3) := by decide +kernel
theorem dX7_isStep_11 : decode cX7_isStep 11 = .ok (.iconst 1, 1) := by decide +kernel
theorem dX7_isStep_12 : decode cX7_isStep 12 = .ok (.goto 4, 3) := by decide +kernel
theorem dX7_isStep_15 : decode cX7_isStep 15 = .ok (.iconst 0, 1) := by decide +kernel
theorem dX7_isStep_16 : decode cX7_isStep 16 = .ok (.ireturn, 1) := by decide +kernel
theorem dX7_isSector_0 : decode cX7_isSector 0 = .ok (.iload_n 0, 1) := by decide +kernel
theorem dX7_isSector_1 : decode cX7_isSector 1 = .ok (.ifCond .lt 13, 3) := by decide +kernel
theorem dX7_isSector_4 : decode cX7_isSector 4 = .ok (.iload_n 0, 1) := by decide +kernel
theorem dX7_isSector_5 : decode cX7_isSector 5 = .ok (.bipush 20, 2) := by decide +kernel
theorem dX7_isSector_7 : decode cX7_isSector 7 = .ok (.if_icmp .ge 7, 3) := by decide +kernel
theorem dX7_isSector_10 : decode cX7_isSector 10 = .ok (.iconst 1, 1) := by decide +kernel
theorem dX7_isSector_11 : decode cX7_isSector 11 = .ok (.goto 4, 3) := by decide +kernel
theorem dX7_isSector_14 : decode cX7_isSector 14 = .ok (.iconst 0, 1) := by decide +kernel
theorem dX7_isSector_15 : decode cX7_isSector 15 = .ok (.ireturn, 1) := by decide +kernel
set_option maxRecDepth 20000 in
theorem ggX7_isBed_X7_isSector : GoodIn wsX7_isBed wsX7_isSector := goodIn_r _ [4] (by decide +kernel) (by decide +kernel)
set_option maxRecDepth 20000 in
theorem gX7_isBed_X7_isSector : GoodIn wsX7_isBed (va_wsS RX7 88 yX7_isSector wsX7_isSector) := goodIn_app (goodIn_of _ (by decide +kernel)) ggX7_isBed_X7_isSector
theorem dX7_isBed_0 : decode cX7_isBed 0 = .ok (.iload_n 0, 1) := by decide +kernel
theorem dX7_isBed_1 : decode cX7_isBed 1 = .ok (.ifCond .lt 20, 3) := by decide +kernel
theorem dX7_isBed_4 : decode cX7_isBed 4 = .ok (.iload_n 0, 1) := by decide +kernel
theorem dX7_isBed_5 : decode cX7_isBed 5 = .ok (.bipush 6, 2) := by decide +kernel
theorem dX7_isBed_7 : decode cX7_isBed 7 = .ok (.if_icmp .gt 14, 3) := by decide +kernel
theorem dX7_isBed_10 : decode cX7_isBed 10 = .ok (.iload_n 1, 1) := by decide +kernel
theorem dX7_isBed_11 : decode cX7_isBed 11 = .ok (.invokestatic 88, 3) := by decide +kernel
theorem dX7_isBed_14 : decode cX7_isBed 14 = .ok (.ifCond .eq 7, 3) := by decide +kernel
theorem dX7_isBed_17 : decode cX7_isBed 17 = .ok (.iconst 1, 1) := by decide +kernel
theorem dX7_isBed_18 : decode cX7_isBed 18 = .ok (.goto 4, 3) := by decide +kernel
theorem dX7_isBed_21 : decode cX7_isBed 21 = .ok (.iconst 0, 1) := by decide +kernel
theorem dX7_isBed_22 : decode cX7_isBed 22 = .ok (.ireturn, 1) := by decide +kernel
theorem dX7_isAim_0 : decode cX7_isAim 0 = .ok (.iload_n 0, 1) := by decide +kernel
theorem dX7_isAim_1 : decode cX7_isAim 1 = .ok (.ifCond .lt 13, 3) := by decide +kernel
theorem dX7_isAim_4 : decode cX7_isAim 4 = .ok (.iload_n 0, 1) := by decide +kernel
theorem dX7_isAim_5 : decode cX7_isAim 5 = .ok (.bipush 120, 2) := by decide +kernel
theorem dX7_isAim_7 : decode cX7_isAim 7 = .ok (.if_icmp .ge 7, 3) := by decide +kernel
theorem dX7_isAim_10 : decode cX7_isAim 10 = .ok (.iconst 1, 1) := by decide +kernel
theorem dX7_isAim_11 : decode cX7_isAim 11 = .ok (.goto 4, 3) := by decide +kernel
theorem dX7_isAim_14 : decode cX7_isAim 14 = .ok (.iconst 0, 1) := by decide +kernel
theorem dX7_isAim_15 : decode cX7_isAim 15 = .ok (.ireturn, 1) := by decide +kernel
theorem dX7_isLeft_0 : decode cX7_isLeft 0 = .ok (.iload_n 0, 1) := by decide +kernel
theorem dX7_isLeft_1 : decode cX7_isLeft 1 = .ok (.iconst 1, 1) := by decide +kernel
theorem dX7_isLeft_2 : decode cX7_isLeft 2 = .ok (.if_icmp .lt 14, 3) := by decide +kernel
theorem dX7_isLeft_5 : decode cX7_isLeft 5 = .ok (.iload_n 0, 1) := by decide +kernel
theorem dX7_isLeft_6 : decode cX7_isLeft 6 = .ok (.sipush 301, 3) := by decide +kernel
theorem dX7_isLeft_9 : decode cX7_isLeft 9 = .ok (.if_icmp .gt 7, 3) := by decide +kernel
theorem dX7_isLeft_12 : decode cX7_isLeft 12 = .ok (.iconst 1, 1) := by decide +kernel
theorem dX7_isLeft_13 : decode cX7_isLeft 13 = .ok (.goto 4, 3) := by decide +kernel
theorem dX7_isLeft_16 : decode cX7_isLeft 16 = .ok (.iconst 0, 1) := by decide +kernel
theorem dX7_isLeft_17 : decode cX7_isLeft 17 = .ok (.ireturn, 1) := by decide +kernel
theorem dX7_isWinsLeft_0 : decode cX7_isWinsLeft 0 = .ok (.iload_n 0, 1) := by decide +kernel
theorem dX7_isWinsLeft_1 : decode cX7_isWinsLeft 1 = .ok (.iconst 1, 1) := by decide +kernel
theorem dX7_isWinsLeft_2 : decode cX7_isWinsLeft 2 = .ok (.if_icmp .lt 13, 3) := by decide +kernel
theorem dX7_isWinsLeft_5 : decode cX7_isWinsLeft 5 = .ok (.iload_n 0, 1) := by decide +kernel
theorem dX7_isWinsLeft_6 : decode cX7_isWinsLeft 6 = .ok (.bipush 80, 2) := by decide +kernel
theorem dX7_isWinsLeft_8 : decode cX7_isWinsLeft 8 = .ok (.if_icmp .gt 7, 3) := by decide +kernel
theorem dX7_isWinsLeft_11 : decode cX7_isWinsLeft 11 = .ok (.iconst 1, 1) := by decide +kernel
theorem dX7_isWinsLeft_12 : decode cX7_isWinsLeft 12 = .ok (.goto 4, 3) := by decide +kernel
theorem dX7_isWinsLeft_15 : decode cX7_isWinsLeft 15 = .ok (.iconst 0, 1) := by decide +kernel
theorem dX7_isWinsLeft_16 : decode cX7_isWinsLeft 16 = .ok (.ireturn, 1) := by decide +kernel
theorem dX7_isDarts_0 : decode cX7_isDarts 0 = .ok (.iload_n 0, 1) := by decide +kernel
theorem dX7_isDarts_1 : decode cX7_isDarts 1 = .ok (.iconst 1, 1) := by decide +kernel
theorem dX7_isDarts_2 : decode cX7_isDarts 2 = .ok (.if_icmp .lt 12, 3) := by decide +kernel
theorem dX7_isDarts_5 : decode cX7_isDarts 5 = .ok (.iload_n 0, 1) := by decide +kernel
theorem dX7_isDarts_6 : decode cX7_isDarts 6 = .ok (.iconst 3, 1) := by decide +kernel
theorem dX7_isDarts_7 : decode cX7_isDarts 7 = .ok (.if_icmp .gt 7, 3) := by decide +kernel
theorem dX7_isDarts_10 : decode cX7_isDarts 10 = .ok (.iconst 1, 1) := by decide +kernel
theorem dX7_isDarts_11 : decode cX7_isDarts 11 = .ok (.goto 4, 3) := by decide +kernel
theorem dX7_isDarts_14 : decode cX7_isDarts 14 = .ok (.iconst 0, 1) := by decide +kernel
theorem dX7_isDarts_15 : decode cX7_isDarts 15 = .ok (.ireturn, 1) := by decide +kernel
theorem dX7_isSameBed_0 : decode cX7_isSameBed 0 = .ok (.iload_n 0, 1) := by decide +kernel
theorem dX7_isSameBed_1 : decode cX7_isSameBed 1 = .ok (.bipush 20, 2) := by decide +kernel
theorem dX7_isSameBed_3 : decode cX7_isSameBed 3 = .ok (.idiv, 1) := by decide +kernel
theorem dX7_isSameBed_4 : decode cX7_isSameBed 4 = .ok (.istore_n 2, 1) := by decide +kernel
theorem dX7_isSameBed_5 : decode cX7_isSameBed 5 = .ok (.iload_n 2, 1) := by decide +kernel
theorem dX7_isSameBed_6 : decode cX7_isSameBed 6 = .ok (.iload_n 1, 1) := by decide +kernel
theorem dX7_isSameBed_7 : decode cX7_isSameBed 7 = .ok (.bipush 20, 2) := by decide +kernel
theorem dX7_isSameBed_9 : decode cX7_isSameBed 9 = .ok (.idiv, 1) := by decide +kernel
theorem dX7_isSameBed_10 : decode cX7_isSameBed 10 = .ok (.if_icmp .eq 5, 3) := by decide +kernel
theorem dX7_isSameBed_13 : decode cX7_isSameBed 13 = .ok (.iconst 0, 1) := by decide +kernel
theorem dX7_isSameBed_14 : decode cX7_isSameBed 14 = .ok (.ireturn, 1) := by decide +kernel
theorem dX7_isSameBed_15 : decode cX7_isSameBed 15 = .ok (.iload_n 2, 1) := by decide +kernel
theorem dX7_isSameBed_16 : decode cX7_isSameBed 16 = .ok (.ifCond .eq 14, 3) := by decide +kernel
theorem dX7_isSameBed_19 : decode cX7_isSameBed 19 = .ok (.iload_n 2, 1) := by decide +kernel
theorem dX7_isSameBed_20 : decode cX7_isSameBed 20 = .ok (.iconst 1, 1) := by decide +kernel
theorem dX7_isSameBed_21 : decode cX7_isSameBed 21 = .ok (.if_icmp .eq 9, 3) := by decide +kernel
theorem dX7_isSameBed_24 : decode cX7_isSameBed 24 = .ok (.iload_n 2, 1) := by decide +kernel
theorem dX7_isSameBed_25 : decode cX7_isSameBed 25 = .ok (.bipush 6, 2) := by decide +kernel
theorem dX7_isSameBed_27 : decode cX7_isSameBed 27 = .ok (.if_icmp .ne 7, 3) := by decide +kernel
theorem dX7_isSameBed_30 : decode cX7_isSameBed 30 = .ok (.iconst 1, 1) := by decide +kernel
theorem dX7_isSameBed_31 : decode cX7_isSameBed 31 = .ok (.goto 4, 3) := by decide +kernel
theorem dX7_isSameBed_34 : decode cX7_isSameBed 34 = .ok (.iconst 0, 1) := by decide +kernel
theorem dX7_isSameBed_35 : decode cX7_isSameBed 35 = .ok (.istore_n 3, 1) := by decide +kernel
theorem dX7_isSameBed_36 : decode cX7_isSameBed 36 = .ok (.iload_n 3, 1) := by decide +kernel
theorem dX7_isSameBed_37 : decode cX7_isSameBed 37 = .ok (.ifCond .ne 8, 3) := by decide +kernel
theorem dX7_isSameBed_40 : decode cX7_isSameBed 40 = .ok (.iload_n 0, 1) := by decide +kernel
theorem dX7_isSameBed_41 : decode cX7_isSameBed 41 = .ok (.iload_n 1, 1) := by decide +kernel
theorem dX7_isSameBed_42 : decode cX7_isSameBed 42 = .ok (.if_icmp .ne 7, 3) := by decide +kernel
theorem dX7_isSameBed_45 : decode cX7_isSameBed 45 = .ok (.iconst 1, 1) := by decide +kernel
theorem dX7_isSameBed_46 : decode cX7_isSameBed 46 = .ok (.goto 4, 3) := by decide +kernel
theorem dX7_isSameBed_49 : decode cX7_isSameBed 49 = .ok (.iconst 0, 1) := by decide +kernel
theorem dX7_isSameBed_50 : decode cX7_isSameBed 50 = .ok (.ireturn, 1) := by decide +kernel
set_option maxRecDepth 20000 in
theorem ggX7_bedFrom_J9_floorMod_7cf53 : GoodIn wsX7_bedFrom wsJ9_floorMod_7cf53 := goodIn_r _ [8] (by decide +kernel) (by decide +kernel)
set_option maxRecDepth 20000 in
theorem gX7_bedFrom_J9_floorMod_7cf53 : GoodIn wsX7_bedFrom (va_wsS RX7 242 yJ9_floorMod_7cf53 wsJ9_floorMod_7cf53) := goodIn_app (goodIn_of _ (by decide +kernel)) ggX7_bedFrom_J9_floorMod_7cf53
theorem dX7_bedFrom_0 : decode cX7_bedFrom 0 = .ok (.iload_n 0, 1) := by decide +kernel
theorem dX7_bedFrom_1 : decode cX7_bedFrom 1 = .ok (.bipush 20, 2) := by decide +kernel
theorem dX7_bedFrom_3 : decode cX7_bedFrom 3 = .ok (.idiv, 1) := by decide +kernel
theorem dX7_bedFrom_4 : decode cX7_bedFrom 4 = .ok (.iload_n 1, 1) := by decide +kernel
theorem dX7_bedFrom_5 : decode cX7_bedFrom 5 = .ok (.iconst 5, 1) := by decide +kernel
theorem dX7_bedFrom_6 : decode cX7_bedFrom 6 = .ok (.idiv, 1) := by decide +kernel
theorem dX7_bedFrom_7 : decode cX7_bedFrom 7 = .ok (.iadd, 1) := by decide +kernel
theorem dX7_bedFrom_8 : decode cX7_bedFrom 8 = .ok (.iconst 2, 1) := by decide +kernel
theorem dX7_bedFrom_9 : decode cX7_bedFrom 9 = .ok (.isub, 1) := by decide +kernel
theorem dX7_bedFrom_10 : decode cX7_bedFrom 10 = .ok (.istore_n 2, 1) := by decide +kernel
theorem dX7_bedFrom_11 : decode cX7_bedFrom 11 = .ok (.iload_n 0, 1) := by decide +kernel
theorem dX7_bedFrom_12 : decode cX7_bedFrom 12 = .ok (.bipush 20, 2) := by decide +kernel
theorem dX7_bedFrom_14 : decode cX7_bedFrom 14 = .ok (.irem, 1) := by decide +kernel
theorem dX7_bedFrom_15 : decode cX7_bedFrom 15 = .ok (.iload_n 1, 1) := by decide +kernel
theorem dX7_bedFrom_16 : decode cX7_bedFrom 16 = .ok (.iconst 5, 1) := by decide +kernel
theorem dX7_bedFrom_17 : decode cX7_bedFrom 17 = .ok (.irem, 1) := by decide +kernel
theorem dX7_bedFrom_18 : decode cX7_bedFrom 18 = .ok (.iadd, 1) := by decide +kernel
theorem dX7_bedFrom_19 : decode cX7_bedFrom 19 = .ok (.iconst 2, 1) := by decide +kernel
theorem dX7_bedFrom_20 : decode cX7_bedFrom 20 = .ok (.isub, 1) := by decide +kernel
theorem dX7_bedFrom_21 : decode cX7_bedFrom 21 = .ok (.istore_n 3, 1) := by decide +kernel
theorem dX7_bedFrom_22 : decode cX7_bedFrom 22 = .ok (.iload_n 2, 1) := by decide +kernel
theorem dX7_bedFrom_23 : decode cX7_bedFrom 23 = .ok (.ifCond .ge 9, 3) := by decide +kernel
theorem dX7_bedFrom_26 : decode cX7_bedFrom 26 = .ok (.iload_n 2, 1) := by decide +kernel
theorem dX7_bedFrom_27 : decode cX7_bedFrom 27 = .ok (.ineg, 1) := by decide +kernel
theorem dX7_bedFrom_28 : decode cX7_bedFrom 28 = .ok (.istore_n 2, 1) := by decide +kernel
theorem dX7_bedFrom_29 : decode cX7_bedFrom 29 = .ok (.iinc 3 10, 3) := by decide +kernel
theorem dX7_bedFrom_32 : decode cX7_bedFrom 32 = .ok (.bipush 20, 2) := by decide +kernel
theorem dX7_bedFrom_34 : decode cX7_bedFrom 34 = .ok (.iload_n 2, 1) := by decide +kernel
theorem dX7_bedFrom_35 : decode cX7_bedFrom 35 = .ok (.bipush 6, 2) := by decide +kernel
theorem dX7_bedFrom_37 : decode cX7_bedFrom 37 = .ok (.invokestatic 239, 3) := by decide +kernel
theorem dX7_bedFrom_40 : decode cX7_bedFrom 40 = .ok (.imul, 1) := by decide +kernel
theorem dX7_bedFrom_41 : decode cX7_bedFrom 41 = .ok (.iload_n 3, 1) := by decide +kernel
theorem dX7_bedFrom_42 : decode cX7_bedFrom 42 = .ok (.bipush 20, 2) := by decide +kernel
theorem dX7_bedFrom_44 : decode cX7_bedFrom 44 = .ok (.invokestatic 242, 3) := by decide +kernel
theorem dX7_bedFrom_47 : decode cX7_bedFrom 47 = .ok (.iadd, 1) := by decide +kernel
theorem dX7_bedFrom_48 : decode cX7_bedFrom 48 = .ok (.ireturn, 1) := by decide +kernel
theorem dX7_bitsOf_0 : decode cX7_bitsOf 0 = .ok (.dload_n 0, 1) := by decide +kernel
theorem dX7_bitsOf_1 : decode cX7_bitsOf 1 = .ok (.dconst 0, 1) := by decide +kernel
theorem dX7_bitsOf_2 : decode cX7_bitsOf 2 = .ok (.dcmp .l, 1) := by decide +kernel
theorem dX7_bitsOf_3 : decode cX7_bitsOf 3 = .ok (.ifCond .ne 5, 3) := by decide +kernel
theorem dX7_bitsOf_6 : decode cX7_bitsOf 6 = .ok (.lconst 0, 1) := by decide +kernel
theorem dX7_bitsOf_7 : decode cX7_bitsOf 7 = .ok (.lreturn, 1) := by decide +kernel
theorem dX7_bitsOf_8 : decode cX7_bitsOf 8 = .ok (.dload_n 0, 1) := by decide +kernel
theorem dX7_bitsOf_9 : decode cX7_bitsOf 9 = .ok (.dconst 0, 1) := by decide +kernel
theorem dX7_bitsOf_10 : decode cX7_bitsOf 10 = .ok (.dcmp .g, 1) := by decide +kernel
theorem dX7_bitsOf_11 : decode cX7_bitsOf 11 = .ok (.ifCond .ge 8, 3) := by decide +kernel
theorem dX7_bitsOf_14 : decode cX7_bitsOf 14 = .ok (.dload_n 0, 1) := by decide +kernel
theorem dX7_bitsOf_15 : decode cX7_bitsOf 15 = .ok (.dneg, 1) := by decide +kernel
theorem dX7_bitsOf_16 : decode cX7_bitsOf 16 = .ok (.goto 4, 3) := by decide +kernel
theorem dX7_bitsOf_19 : decode cX7_bitsOf 19 = .ok (.dload_n 0, 1) := by decide +kernel
theorem dX7_bitsOf_20 : decode cX7_bitsOf 20 = .ok (.dstore_n 2, 1) := by decide +kernel
theorem dX7_bitsOf_21 : decode cX7_bitsOf 21 = .ok (.sipush 1023, 3) := by decide +kernel
theorem dX7_bitsOf_24 : decode cX7_bitsOf 24 = .ok (.istore 4, 2) := by decide +kernel
theorem dX7_bitsOf_26 : decode cX7_bitsOf 26 = .ok (.dload_n 2, 1) := by decide +kernel
theorem dX7_bitsOf_27 : decode cX7_bitsOf 27 = .ok (.ldc2_w 245, 3) := by decide +kernel
theorem dX7_bitsOf_30 : decode cX7_bitsOf 30 = .ok (.dcmp .l, 1) := by decide +kernel
theorem dX7_bitsOf_31 : decode cX7_bitsOf 31 = .ok (.ifCond .lt 23, 3) := by decide +kernel
theorem dX7_bitsOf_34 : decode cX7_bitsOf 34 = .ok (.iload 4, 2) := by decide +kernel
theorem dX7_bitsOf_36 : decode cX7_bitsOf 36 = .ok (.sipush 2046, 3) := by decide +kernel
theorem dX7_bitsOf_39 : decode cX7_bitsOf 39 = .ok (.if_icmp .ge 15, 3) := by decide +kernel
theorem dX7_bitsOf_42 : decode cX7_bitsOf 42 = .ok (.dload_n 2, 1) := by decide +kernel
theorem dX7_bitsOf_43 : decode cX7_bitsOf 43 = .ok (.ldc2_w 247, 3) := by decide +kernel
theorem dX7_bitsOf_46 : decode cX7_bitsOf 46 = .ok (.dmul, 1) := by decide +kernel
theorem dX7_bitsOf_47 : decode cX7_bitsOf 47 = .ok (.dstore_n 2, 1) := by decide +kernel
theorem dX7_bitsOf_48 : decode cX7_bitsOf 48 = .ok (.iinc 4 1, 3) := by decide +kernel
theorem dX7_bitsOf_51 : decode cX7_bitsOf 51 = .ok (.goto (-25), 3) := by decide +kernel
theorem dX7_bitsOf_54 : decode cX7_bitsOf 54 = .ok (.dload_n 2, 1) := by decide +kernel
theorem dX7_bitsOf_55 : decode cX7_bitsOf 55 = .ok (.dconst 1, 1) := by decide +kernel
theorem dX7_bitsOf_56 : decode cX7_bitsOf 56 = .ok (.dcmp .g, 1) := by decide +kernel
theorem dX7_bitsOf_57 : decode cX7_bitsOf 57 = .ok (.ifCond .ge 21, 3) := by decide +kernel
theorem dX7_bitsOf_60 : decode cX7_bitsOf 60 = .ok (.iload 4, 2) := by decide +kernel
theorem dX7_bitsOf_62 : decode cX7_bitsOf 62 = .ok (.iconst 1, 1) := by decide +kernel
theorem dX7_bitsOf_63 : decode cX7_bitsOf 63 = .ok (.if_icmp .le 15, 3) := by decide +kernel
theorem dX7_bitsOf_66 : decode cX7_bitsOf 66 = .ok (.dload_n 2, 1) := by decide +kernel
theorem dX7_bitsOf_67 : decode cX7_bitsOf 67 = .ok (.ldc2_w 245, 3) := by decide +kernel
theorem dX7_bitsOf_70 : decode cX7_bitsOf 70 = .ok (.dmul, 1) := by decide +kernel
theorem dX7_bitsOf_71 : decode cX7_bitsOf 71 = .ok (.dstore_n 2, 1) := by decide +kernel
theorem dX7_bitsOf_72 : decode cX7_bitsOf 72 = .ok (.iinc 4 (-1), 3) := by decide +kernel
theorem dX7_bitsOf_75 : decode cX7_bitsOf 75 = .ok (.goto (-21), 3) := by decide +kernel
theorem dX7_bitsOf_78 : decode cX7_bitsOf 78 = .ok (.iload 4, 2) := by decide +kernel
theorem dX7_bitsOf_80 : decode cX7_bitsOf 80 = .ok (.iconst 1, 1) := by decide +kernel
theorem dX7_bitsOf_81 : decode cX7_bitsOf 81 = .ok (.isub, 1) := by decide +kernel
theorem dX7_bitsOf_82 : decode cX7_bitsOf 82 = .ok (.i2l, 1) := by decide +kernel
theorem dX7_bitsOf_83 : decode cX7_bitsOf 83 = .ok (.bipush 52, 2) := by decide +kernel
theorem dX7_bitsOf_85 : decode cX7_bitsOf 85 = .ok (.lshl, 1) := by decide +kernel
theorem dX7_bitsOf_86 : decode cX7_bitsOf 86 = .ok (.dload_n 2, 1) := by decide +kernel
theorem dX7_bitsOf_87 : decode cX7_bitsOf 87 = .ok (.ldc2_w 249, 3) := by decide +kernel
theorem dX7_bitsOf_90 : decode cX7_bitsOf 90 = .ok (.dmul, 1) := by decide +kernel
theorem dX7_bitsOf_91 : decode cX7_bitsOf 91 = .ok (.d2l, 1) := by decide +kernel
theorem dX7_bitsOf_92 : decode cX7_bitsOf 92 = .ok (.ladd, 1) := by decide +kernel
theorem dX7_bitsOf_93 : decode cX7_bitsOf 93 = .ok (.lstore 5, 2) := by decide +kernel
theorem dX7_bitsOf_95 : decode cX7_bitsOf 95 = .ok (.dload_n 0, 1) := by decide +kernel
theorem dX7_bitsOf_96 : decode cX7_bitsOf 96 = .ok (.dconst 0, 1) := by decide +kernel
theorem dX7_bitsOf_97 : decode cX7_bitsOf 97 = .ok (.dcmp .g, 1) := by decide +kernel
theorem dX7_bitsOf_98 : decode cX7_bitsOf 98 = .ok (.ifCond .ge 12, 3) := by decide +kernel
theorem dX7_bitsOf_101 : decode cX7_bitsOf 101 = .ok (.lload 5, 2) := by decide +kernel
theorem dX7_bitsOf_103 : decode cX7_bitsOf 103 = .ok (.ldc2_w 251, 3) := by decide +kernel
theorem dX7_bitsOf_106 : decode cX7_bitsOf 106 = .ok (.lor, 1) := by decide +kernel
theorem dX7_bitsOf_107 : decode cX7_bitsOf 107 = .ok (.goto 5, 3) := by decide +kernel
theorem dX7_bitsOf_110 : decode cX7_bitsOf 110 = .ok (.lload 5, 2) := by decide +kernel
theorem dX7_bitsOf_112 : decode cX7_bitsOf 112 = .ok (.lreturn, 1) := by decide +kernel
