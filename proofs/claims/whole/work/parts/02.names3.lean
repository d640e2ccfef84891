theorem dX4_init_0 : decode cX4_init 0 = .ok (.aload_n 0, 1) := by decide +kernel
theorem dX4_init_1 : decode cX4_init 1 = .ok (.invokespecial 3, 3) := by decide +kernel
theorem dX4_init_4 : decode cX4_init 4 = .ok (.aload_n 0, 1) := by decide +kernel
theorem dX4_init_5 : decode cX4_init 5 = .ok (.sipush 302, 3) := by decide +kernel
theorem dX4_init_8 : decode cX4_init 8 = .ok (.newarray .double, 2) := by decide +kernel
theorem dX4_init_10 : decode cX4_init 10 = .ok (.putfield 9, 3) := by decide +kernel
theorem dX4_init_13 : decode cX4_init 13 = .ok (.aload_n 0, 1) := by decide +kernel
theorem dX4_init_14 : decode cX4_init 14 = .ok (.sipush 302, 3) := by decide +kernel
theorem dX4_init_17 : decode cX4_init 17 = .ok (.newarray .int, 2) := by decide +kernel
theorem dX4_init_19 : decode cX4_init 19 = .ok (.putfield 15, 3) := by decide +kernel
theorem dX4_init_22 : decode cX4_init 22 = .ok (.aload_n 0, 1) := by decide +kernel
theorem dX4_init_23 : decode cX4_init 23 = .ok (.sipush 302, 3) := by decide +kernel
theorem dX4_init_26 : decode cX4_init 26 = .ok (.newarray .int, 2) := by decide +kernel
theorem dX4_init_28 : decode cX4_init 28 = .ok (.putfield 19, 3) := by decide +kernel
theorem dX4_init_31 : decode cX4_init 31 = .ok (.aload_n 0, 1) := by decide +kernel
theorem dX4_init_32 : decode cX4_init 32 = .ok (.aload_n 1, 1) := by decide +kernel
theorem dX4_init_33 : decode cX4_init 33 = .ok (.putfield 22, 3) := by decide +kernel
theorem dX4_init_36 : decode cX4_init 36 = .ok (.aload_n 0, 1) := by decide +kernel
theorem dX4_init_37 : decode cX4_init 37 = .ok (.iconst 0, 1) := by decide +kernel
theorem dX4_init_38 : decode cX4_init 38 = .ok (.putfield 26, 3) := by decide +kernel
theorem dX4_init_41 : decode cX4_init 41 = .ok (.aload_n 0, 1) := by decide +kernel
theorem dX4_init_42 : decode cX4_init 42 = .ok (.iconst 0, 1) := by decide +kernel
theorem dX4_init_43 : decode cX4_init 43 = .ok (.putfield 30, 3) := by decide +kernel
theorem dX4_init_46 : decode cX4_init 46 = .ok (.return_, 1) := by decide +kernel
theorem dX4_forget_0 : decode cX4_forget 0 = .ok (.aload_n 0, 1) := by decide +kernel
theorem dX4_forget_1 : decode cX4_forget 1 = .ok (.iconst 0, 1) := by decide +kernel
theorem dX4_forget_2 : decode cX4_forget 2 = .ok (.putfield 26, 3) := by decide +kernel
theorem dX4_forget_5 : decode cX4_forget 5 = .ok (.return_, 1) := by decide +kernel
theorem dX4_hasNone_0 : decode cX4_hasNone 0 = .ok (.aload_n 0, 1) := by decide +kernel
theorem dX4_hasNone_1 : decode cX4_hasNone 1 = .ok (.getfield 15, 3) := by decide +kernel
theorem dX4_hasNone_4 : decode cX4_hasNone 4 = .ok (.iload_n 1, 1) := by decide +kernel
theorem dX4_hasNone_5 : decode cX4_hasNone 5 = .ok (.iaload, 1) := by decide +kernel
theorem dX4_hasNone_6 : decode cX4_hasNone 6 = .ok (.iconst (-1), 1) := by decide +kernel
theorem dX4_hasNone_7 : decode cX4_hasNone 7 = .ok (.if_icmp .ne 7, 3) := by decide +kernel
theorem dX4_hasNone_10 : decode cX4_hasNone 10 = .ok (.iconst 1, 1) := by decide +kernel
theorem dX4_hasNone_11 : decode cX4_hasNone 11 = .ok (.goto 4, 3) := by decide +kernel
theorem dX4_hasNone_14 : decode cX4_hasNone 14 = .ok (.iconst 0, 1) := by decide +kernel
theorem dX4_hasNone_15 : decode cX4_hasNone 15 = .ok (.ireturn, 1) := by decide +kernel
set_option maxRecDepth 20000 in
theorem ggX4_settleUpTo_X4_settleOne : GoodIn wsX4_settleUpTo wsX4_settleOne := goodIn_r _ [6, 7, 8, 9, 10, 11, 12, 13, 5, 14, 15, 16, 17, 18, 19, 20, 21, 22, 23, 24, 25, 26, 27, 28, 29, 30, 31, 32, 33, 34, 35, 36, 37, 38, 39, 40, 41, 42] (by decide +kernel) (by decide +kernel)
set_option maxRecDepth 20000 in
theorem gX4_settleUpTo_X4_settleOne : GoodIn wsX4_settleUpTo (wsV RX4 33 RX4 yX4_settleOne wsX4_settleOne) := goodIn_app (goodIn_of _ (by decide +kernel)) ggX4_settleUpTo_X4_settleOne
theorem dX4_settleUpTo_0 : decode cX4_settleUpTo 0 = .ok (.aload_n 0, 1) := by decide +kernel
theorem dX4_settleUpTo_1 : decode cX4_settleUpTo 1 = .ok (.getfield 26, 3) := by decide +kernel
theorem dX4_settleUpTo_4 : decode cX4_settleUpTo 4 = .ok (.iconst 1, 1) := by decide +kernel
theorem dX4_settleUpTo_5 : decode cX4_settleUpTo 5 = .ok (.iadd, 1) := by decide +kernel
theorem dX4_settleUpTo_6 : decode cX4_settleUpTo 6 = .ok (.istore_n 2, 1) := by decide +kernel
theorem dX4_settleUpTo_7 : decode cX4_settleUpTo 7 = .ok (.iload_n 2, 1) := by decide +kernel
theorem dX4_settleUpTo_8 : decode cX4_settleUpTo 8 = .ok (.iload_n 1, 1) := by decide +kernel
theorem dX4_settleUpTo_9 : decode cX4_settleUpTo 9 = .ok (.if_icmp .gt 19, 3) := by decide +kernel
theorem dX4_settleUpTo_12 : decode cX4_settleUpTo 12 = .ok (.aload_n 0, 1) := by decide +kernel
theorem dX4_settleUpTo_13 : decode cX4_settleUpTo 13 = .ok (.iload_n 2, 1) := by decide +kernel
theorem dX4_settleUpTo_14 : decode cX4_settleUpTo 14 = .ok (.invokevirtual 33, 3) := by decide +kernel
theorem dX4_settleUpTo_17 : decode cX4_settleUpTo 17 = .ok (.aload_n 0, 1) := by decide +kernel
theorem dX4_settleUpTo_18 : decode cX4_settleUpTo 18 = .ok (.iload_n 2, 1) := by decide +kernel
theorem dX4_settleUpTo_19 : decode cX4_settleUpTo 19 = .ok (.putfield 26, 3) := by decide +kernel
theorem dX4_settleUpTo_22 : decode cX4_settleUpTo 22 = .ok (.iinc 2 1, 3) := by decide +kernel
theorem dX4_settleUpTo_25 : decode cX4_settleUpTo 25 = .ok (.goto (-18), 3) := by decide +kernel
theorem dX4_settleUpTo_28 : decode cX4_settleUpTo 28 = .ok (.return_, 1) := by decide +kernel
set_option maxRecDepth 20000 in
theorem ggX4_settleOne_X4_meanThrows : GoodIn wsX4_settleOne wsX4_meanThrows := goodIn_r _ [9, 10, 11, 12, 13, 2, 4, 14, 15, 16, 17, 18, 19, 20, 21, 22, 23, 8, 24, 1, 25, 26, 27, 28, 29, 30, 31, 32, 33, 34, 35, 36, 37] (by decide +kernel) (by decide +kernel)
set_option maxRecDepth 20000 in
theorem gX4_settleOne_X4_meanThrows : GoodIn wsX4_settleOne (wsV RX4 37 RX4 yX4_meanThrows wsX4_meanThrows) := goodIn_app (goodIn_of _ (by decide +kernel)) ggX4_settleOne_X4_meanThrows
theorem dX4_settleOne_0 : decode cX4_settleOne 0 = .ok (.aload_n 0, 1) := by decide +kernel
theorem dX4_settleOne_1 : decode cX4_settleOne 1 = .ok (.getfield 15, 3) := by decide +kernel
theorem dX4_settleOne_4 : decode cX4_settleOne 4 = .ok (.iload_n 1, 1) := by decide +kernel
theorem dX4_settleOne_5 : decode cX4_settleOne 5 = .ok (.iconst (-1), 1) := by decide +kernel
theorem dX4_settleOne_6 : decode cX4_settleOne 6 = .ok (.iastore, 1) := by decide +kernel
theorem dX4_settleOne_7 : decode cX4_settleOne 7 = .ok (.iconst 0, 1) := by decide +kernel
theorem dX4_settleOne_8 : decode cX4_settleOne 8 = .ok (.istore_n 2, 1) := by decide +kernel
theorem dX4_settleOne_9 : decode cX4_settleOne 9 = .ok (.iload_n 2, 1) := by decide +kernel
theorem dX4_settleOne_10 : decode cX4_settleOne 10 = .ok (.bipush 120, 2) := by decide +kernel
theorem dX4_settleOne_12 : decode cX4_settleOne 12 = .ok (.if_icmp .ge 67, 3) := by decide +kernel
theorem dX4_settleOne_15 : decode cX4_settleOne 15 = .ok (.aload_n 0, 1) := by decide +kernel
theorem dX4_settleOne_16 : decode cX4_settleOne 16 = .ok (.iload_n 2, 1) := by decide +kernel
theorem dX4_settleOne_17 : decode cX4_settleOne 17 = .ok (.iload_n 1, 1) := by decide +kernel
theorem dX4_settleOne_18 : decode cX4_settleOne 18 = .ok (.invokevirtual 37, 3) := by decide +kernel
theorem dX4_settleOne_21 : decode cX4_settleOne 21 = .ok (.dstore_n 3, 1) := by decide +kernel
theorem dX4_settleOne_22 : decode cX4_settleOne 22 = .ok (.dload_n 3, 1) := by decide +kernel
theorem dX4_settleOne_23 : decode cX4_settleOne 23 = .ok (.dconst 0, 1) := by decide +kernel
theorem dX4_settleOne_24 : decode cX4_settleOne 24 = .ok (.dcmp .l, 1) := by decide +kernel
theorem dX4_settleOne_25 : decode cX4_settleOne 25 = .ok (.ifCond .le 48, 3) := by decide +kernel
theorem dX4_settleOne_28 : decode cX4_settleOne 28 = .ok (.aload_n 0, 1) := by decide +kernel
theorem dX4_settleOne_29 : decode cX4_settleOne 29 = .ok (.getfield 15, 3) := by decide +kernel
theorem dX4_settleOne_32 : decode cX4_settleOne 32 = .ok (.iload_n 1, 1) := by decide +kernel
theorem dX4_settleOne_33 : decode cX4_settleOne 33 = .ok (.iaload, 1) := by decide +kernel
theorem dX4_settleOne_34 : decode cX4_settleOne 34 = .ok (.iconst (-1), 1) := by decide +kernel
theorem dX4_settleOne_35 : decode cX4_settleOne 35 = .ok (.if_icmp .eq 14, 3) := by decide +kernel
theorem dX4_settleOne_38 : decode cX4_settleOne 38 = .ok (.dload_n 3, 1) := by decide +kernel
theorem dX4_settleOne_39 : decode cX4_settleOne 39 = .ok (.aload_n 0, 1) := by decide +kernel
theorem dX4_settleOne_40 : decode cX4_settleOne 40 = .ok (.getfield 9, 3) := by decide +kernel
theorem dX4_settleOne_43 : decode cX4_settleOne 43 = .ok (.iload_n 1, 1) := by decide +kernel
theorem dX4_settleOne_44 : decode cX4_settleOne 44 = .ok (.daload, 1) := by decide +kernel
theorem dX4_settleOne_45 : decode cX4_settleOne 45 = .ok (.dcmp .g, 1) := by decide +kernel
theorem dX4_settleOne_46 : decode cX4_settleOne 46 = .ok (.ifCond .ge 27, 3) := by decide +kernel
theorem dX4_settleOne_49 : decode cX4_settleOne 49 = .ok (.aload_n 0, 1) := by decide +kernel
theorem dX4_settleOne_50 : decode cX4_settleOne 50 = .ok (.getfield 9, 3) := by decide +kernel
theorem dX4_settleOne_53 : decode cX4_settleOne 53 = .ok (.iload_n 1, 1) := by decide +kernel
theorem dX4_settleOne_54 : decode cX4_settleOne 54 = .ok (.dload_n 3, 1) := by decide +kernel
theorem dX4_settleOne_55 : decode cX4_settleOne 55 = .ok (.dastore, 1) := by decide +kernel
theorem dX4_settleOne_56 : decode cX4_settleOne 56 = .ok (.aload_n 0, 1) := by decide +kernel
theorem dX4_settleOne_57 : decode cX4_settleOne 57 = .ok (.getfield 15, 3) := by decide +kernel
theorem dX4_settleOne_60 : decode cX4_settleOne 60 = .ok (.iload_n 1, 1) := by decide +kernel
theorem dX4_settleOne_61 : decode cX4_settleOne 61 = .ok (.iload_n 2, 1) := by decide +kernel
theorem dX4_settleOne_62 : decode cX4_settleOne 62 = .ok (.iastore, 1) := by decide +kernel
theorem dX4_settleOne_63 : decode cX4_settleOne 63 = .ok (.aload_n 0, 1) := by decide +kernel
theorem dX4_settleOne_64 : decode cX4_settleOne 64 = .ok (.getfield 19, 3) := by decide +kernel
theorem dX4_settleOne_67 : decode cX4_settleOne 67 = .ok (.iload_n 1, 1) := by decide +kernel
theorem dX4_settleOne_68 : decode cX4_settleOne 68 = .ok (.aload_n 0, 1) := by decide +kernel
theorem dX4_settleOne_69 : decode cX4_settleOne 69 = .ok (.getfield 30, 3) := by decide +kernel
theorem dX4_settleOne_72 : decode cX4_settleOne 72 = .ok (.iastore, 1) := by decide +kernel
theorem dX4_settleOne_73 : decode cX4_settleOne 73 = .ok (.iinc 2 1, 3) := by decide +kernel
theorem dX4_settleOne_76 : decode cX4_settleOne 76 = .ok (.goto (-67), 3) := by decide +kernel
theorem dX4_settleOne_79 : decode cX4_settleOne 79 = .ok (.return_, 1) := by decide +kernel
set_option maxRecDepth 20000 in
theorem ggX4_meanThrows_X2_after : GoodIn wsX4_meanThrows wsX2_after := goodIn_r _ [12, 13, 26, 27, 28, 29, 30, 31, 32] (by decide +kernel) (by decide +kernel)
set_option maxRecDepth 20000 in
theorem gX4_meanThrows_X2_after : GoodIn wsX4_meanThrows (wsV RX4 52 RX2 yX2_after wsX2_after) := goodIn_app (goodIn_of _ (by decide +kernel)) ggX4_meanThrows_X2_after
set_option maxRecDepth 20000 in
theorem ggX4_meanThrows_X4_hasNone : GoodIn wsX4_meanThrows wsX4_hasNone := goodIn_r _ [18, 19, 20, 21, 22, 23, 24, 25] (by decide +kernel) (by decide +kernel)
set_option maxRecDepth 20000 in
theorem gX4_meanThrows_X4_hasNone : GoodIn wsX4_meanThrows (wsV RX4 56 RX4 yX4_hasNone wsX4_hasNone) := goodIn_app (goodIn_of _ (by decide +kernel)) ggX4_meanThrows_X4_hasNone
theorem dX4_meanThrows_0 : decode cX4_meanThrows 0 = .ok (.aload_n 0, 1) := by decide +kernel
theorem dX4_meanThrows_1 : decode cX4_meanThrows 1 = .ok (.getfield 22, 3) := by decide +kernel
theorem dX4_meanThrows_4 : decode cX4_meanThrows 4 = .ok (.getfield 41, 3) := by decide +kernel
theorem dX4_meanThrows_7 : decode cX4_meanThrows 7 = .ok (.astore_n 3, 1) := by decide +kernel
theorem dX4_meanThrows_8 : decode cX4_meanThrows 8 = .ok (.aload_n 0, 1) := by decide +kernel
theorem dX4_meanThrows_9 : decode cX4_meanThrows 9 = .ok (.getfield 22, 3) := by decide +kernel
theorem dX4_meanThrows_12 : decode cX4_meanThrows 12 = .ok (.getfield 46, 3) := by decide +kernel
theorem dX4_meanThrows_15 : decode cX4_meanThrows 15 = .ok (.astore 4, 2) := by decide +kernel
theorem dX4_meanThrows_17 : decode cX4_meanThrows 17 = .ok (.iload_n 1, 1) := by decide +kernel
theorem dX4_meanThrows_18 : decode cX4_meanThrows 18 = .ok (.bipush 25, 2) := by decide +kernel
theorem dX4_meanThrows_20 : decode cX4_meanThrows 20 = .ok (.imul, 1) := by decide +kernel
theorem dX4_meanThrows_21 : decode cX4_meanThrows 21 = .ok (.istore 5, 2) := by decide +kernel
theorem dX4_meanThrows_23 : decode cX4_meanThrows 23 = .ok (.dconst 0, 1) := by decide +kernel
theorem dX4_meanThrows_24 : decode cX4_meanThrows 24 = .ok (.dstore 6, 2) := by decide +kernel
theorem dX4_meanThrows_26 : decode cX4_meanThrows 26 = .ok (.iconst 0, 1) := by decide +kernel
theorem dX4_meanThrows_27 : decode cX4_meanThrows 27 = .ok (.istore 8, 2) := by decide +kernel
theorem dX4_meanThrows_29 : decode cX4_meanThrows 29 = .ok (.iconst 0, 1) := by decide +kernel
theorem dX4_meanThrows_30 : decode cX4_meanThrows 30 = .ok (.istore 9, 2) := by decide +kernel
theorem dX4_meanThrows_32 : decode cX4_meanThrows 32 = .ok (.iload 9, 2) := by decide +kernel
theorem dX4_meanThrows_34 : decode cX4_meanThrows 34 = .ok (.aload_n 0, 1) := by decide +kernel
theorem dX4_meanThrows_35 : decode cX4_meanThrows 35 = .ok (.getfield 22, 3) := by decide +kernel
theorem dX4_meanThrows_38 : decode cX4_meanThrows 38 = .ok (.getfield 49, 3) := by decide +kernel
theorem dX4_meanThrows_41 : decode cX4_meanThrows 41 = .ok (.if_icmp .ge 89, 3) := by decide +kernel
theorem dX4_meanThrows_44 : decode cX4_meanThrows 44 = .ok (.aload_n 3, 1) := by decide +kernel
theorem dX4_meanThrows_45 : decode cX4_meanThrows 45 = .ok (.iload 5, 2) := by decide +kernel
theorem dX4_meanThrows_47 : decode cX4_meanThrows 47 = .ok (.iload 9, 2) := by decide +kernel
theorem dX4_meanThrows_49 : decode cX4_meanThrows 49 = .ok (.iadd, 1) := by decide +kernel
theorem dX4_meanThrows_50 : decode cX4_meanThrows 50 = .ok (.iaload, 1) := by decide +kernel
theorem dX4_meanThrows_51 : decode cX4_meanThrows 51 = .ok (.istore 10, 2) := by decide +kernel
theorem dX4_meanThrows_53 : decode cX4_meanThrows 53 = .ok (.aload_n 0, 1) := by decide +kernel
theorem dX4_meanThrows_54 : decode cX4_meanThrows 54 = .ok (.getfield 22, 3) := by decide +kernel
theorem dX4_meanThrows_57 : decode cX4_meanThrows 57 = .ok (.iload_n 2, 1) := by decide +kernel
theorem dX4_meanThrows_58 : decode cX4_meanThrows 58 = .ok (.iload 10, 2) := by decide +kernel
theorem dX4_meanThrows_60 : decode cX4_meanThrows 60 = .ok (.invokevirtual 52, 3) := by decide +kernel
theorem dX4_meanThrows_63 : decode cX4_meanThrows 63 = .ok (.istore 11, 2) := by decide +kernel
theorem dX4_meanThrows_65 : decode cX4_meanThrows 65 = .ok (.iload 11, 2) := by decide +kernel
theorem dX4_meanThrows_67 : decode cX4_meanThrows 67 = .ok (.iconst (-1), 1) := by decide +kernel
theorem dX4_meanThrows_68 : decode cX4_meanThrows 68 = .ok (.if_icmp .eq 8, 3) := by decide +kernel
theorem dX4_meanThrows_71 : decode cX4_meanThrows 71 = .ok (.iload 10, 2) := by decide +kernel
theorem dX4_meanThrows_73 : decode cX4_meanThrows 73 = .ok (.ifCond .ne 16, 3) := by decide +kernel
theorem dX4_meanThrows_76 : decode cX4_meanThrows 76 = .ok (.iload 8, 2) := by decide +kernel
theorem dX4_meanThrows_78 : decode cX4_meanThrows 78 = .ok (.aload 4, 2) := by decide +kernel
theorem dX4_meanThrows_80 : decode cX4_meanThrows 80 = .ok (.iload 9, 2) := by decide +kernel
theorem dX4_meanThrows_82 : decode cX4_meanThrows 82 = .ok (.iaload, 1) := by decide +kernel
theorem dX4_meanThrows_83 : decode cX4_meanThrows 83 = .ok (.iadd, 1) := by decide +kernel
theorem dX4_meanThrows_84 : decode cX4_meanThrows 84 = .ok (.istore 8, 2) := by decide +kernel
theorem dX4_meanThrows_86 : decode cX4_meanThrows 86 = .ok (.goto 38, 3) := by decide +kernel
theorem dX4_meanThrows_89 : decode cX4_meanThrows 89 = .ok (.iload 11, 2) := by decide +kernel
theorem dX4_meanThrows_91 : decode cX4_meanThrows 91 = .ok (.ifCond .eq 33, 3) := by decide +kernel
theorem dX4_meanThrows_94 : decode cX4_meanThrows 94 = .ok (.aload_n 0, 1) := by decide +kernel
theorem dX4_meanThrows_95 : decode cX4_meanThrows 95 = .ok (.iload 11, 2) := by decide +kernel
theorem dX4_meanThrows_97 : decode cX4_meanThrows 97 = .ok (.invokevirtual 56, 3) := by decide +kernel
theorem dX4_meanThrows_100 : decode cX4_meanThrows 100 = .ok (.ifCond .eq 5, 3) := by decide +kernel
theorem dX4_meanThrows_103 : decode cX4_meanThrows 103 = .ok (.dconst 0, 1) := by decide +kernel
theorem dX4_meanThrows_104 : decode cX4_meanThrows 104 = .ok (.dreturn, 1) := by decide +kernel
theorem dX4_meanThrows_105 : decode cX4_meanThrows 105 = .ok (.dload 6, 2) := by decide +kernel
theorem dX4_meanThrows_107 : decode cX4_meanThrows 107 = .ok (.aload 4, 2) := by decide +kernel
theorem dX4_meanThrows_109 : decode cX4_meanThrows 109 = .ok (.iload 9, 2) := by decide +kernel
theorem dX4_meanThrows_111 : decode cX4_meanThrows 111 = .ok (.iaload, 1) := by decide +kernel
theorem dX4_meanThrows_112 : decode cX4_meanThrows 112 = .ok (.i2d, 1) := by decide +kernel
theorem dX4_meanThrows_113 : decode cX4_meanThrows 113 = .ok (.aload_n 0, 1) := by decide +kernel
theorem dX4_meanThrows_114 : decode cX4_meanThrows 114 = .ok (.getfield 9, 3) := by decide +kernel
theorem dX4_meanThrows_117 : decode cX4_meanThrows 117 = .ok (.iload 11, 2) := by decide +kernel
theorem dX4_meanThrows_119 : decode cX4_meanThrows 119 = .ok (.daload, 1) := by decide +kernel
theorem dX4_meanThrows_120 : decode cX4_meanThrows 120 = .ok (.dmul, 1) := by decide +kernel
theorem dX4_meanThrows_121 : decode cX4_meanThrows 121 = .ok (.dadd, 1) := by decide +kernel
theorem dX4_meanThrows_122 : decode cX4_meanThrows 122 = .ok (.dstore 6, 2) := by decide +kernel
theorem dX4_meanThrows_124 : decode cX4_meanThrows 124 = .ok (.iinc 9 1, 3) := by decide +kernel
theorem dX4_meanThrows_127 : decode cX4_meanThrows 127 = .ok (.goto (-95), 3) := by decide +kernel
theorem dX4_meanThrows_130 : decode cX4_meanThrows 130 = .ok (.aload_n 0, 1) := by decide +kernel
theorem dX4_meanThrows_131 : decode cX4_meanThrows 131 = .ok (.iload 8, 2) := by decide +kernel
theorem dX4_meanThrows_133 : decode cX4_meanThrows 133 = .ok (.putfield 30, 3) := by decide +kernel
theorem dX4_meanThrows_136 : decode cX4_meanThrows 136 = .ok (.aload_n 0, 1) := by decide +kernel
theorem dX4_meanThrows_137 : decode cX4_meanThrows 137 = .ok (.getfield 22, 3) := by decide +kernel
theorem dX4_meanThrows_140 : decode cX4_meanThrows 140 = .ok (.getfield 60, 3) := by decide +kernel
theorem dX4_meanThrows_143 : decode cX4_meanThrows 143 = .ok (.iload 8, 2) := by decide +kernel
theorem dX4_meanThrows_145 : decode cX4_meanThrows 145 = .ok (.isub, 1) := by decide +kernel
theorem dX4_meanThrows_146 : decode cX4_meanThrows 146 = .ok (.istore 9, 2) := by decide +kernel
theorem dX4_meanThrows_148 : decode cX4_meanThrows 148 = .ok (.iload 9, 2) := by decide +kernel
theorem dX4_meanThrows_150 : decode cX4_meanThrows 150 = .ok (.iconst 1, 1) := by decide +kernel
theorem dX4_meanThrows_151 : decode cX4_meanThrows 151 = .ok (.if_icmp .ge 7, 3) := by decide +kernel
theorem dX4_meanThrows_154 : decode cX4_meanThrows 154 = .ok (.dconst 0, 1) := by decide +kernel
theorem dX4_meanThrows_155 : decode cX4_meanThrows 155 = .ok (.goto 18, 3) := by decide +kernel
theorem dX4_meanThrows_158 : decode cX4_meanThrows 158 = .ok (.aload_n 0, 1) := by decide +kernel
theorem dX4_meanThrows_159 : decode cX4_meanThrows 159 = .ok (.getfield 22, 3) := by decide +kernel
theorem dX4_meanThrows_162 : decode cX4_meanThrows 162 = .ok (.getfield 60, 3) := by decide +kernel
theorem dX4_meanThrows_165 : decode cX4_meanThrows 165 = .ok (.i2d, 1) := by decide +kernel
theorem dX4_meanThrows_166 : decode cX4_meanThrows 166 = .ok (.dload 6, 2) := by decide +kernel
theorem dX4_meanThrows_168 : decode cX4_meanThrows 168 = .ok (.dadd, 1) := by decide +kernel
theorem dX4_meanThrows_169 : decode cX4_meanThrows 169 = .ok (.iload 9, 2) := by decide +kernel
theorem dX4_meanThrows_171 : decode cX4_meanThrows 171 = .ok (.i2d, 1) := by decide +kernel
theorem dX4_meanThrows_172 : decode cX4_meanThrows 172 = .ok (.ddiv, 1) := by decide +kernel
theorem dX4_meanThrows_173 : decode cX4_meanThrows 173 = .ok (.dreturn, 1) := by decide +kernel
theorem dX5_init_0 : decode cX5_init 0 = .ok (.aload_n 0, 1) := by decide +kernel
theorem dX5_init_1 : decode cX5_init 1 = .ok (.invokespecial 3, 3) := by decide +kernel
theorem dX5_init_4 : decode cX5_init 4 = .ok (.aload_n 0, 1) := by decide +kernel
theorem dX5_init_5 : decode cX5_init 5 = .ok (.sipush 906, 3) := by decide +kernel
theorem dX5_init_8 : decode cX5_init 8 = .ok (.newarray .long, 2) := by decide +kernel
theorem dX5_init_10 : decode cX5_init 10 = .ok (.putfield 11, 3) := by decide +kernel
theorem dX5_init_13 : decode cX5_init 13 = .ok (.aload_n 0, 1) := by decide +kernel
theorem dX5_init_14 : decode cX5_init 14 = .ok (.sipush 906, 3) := by decide +kernel
theorem dX5_init_17 : decode cX5_init 17 = .ok (.newarray .int, 2) := by decide +kernel
theorem dX5_init_19 : decode cX5_init 19 = .ok (.putfield 15, 3) := by decide +kernel
theorem dX5_init_22 : decode cX5_init 22 = .ok (.aload_n 0, 1) := by decide +kernel
theorem dX5_init_23 : decode cX5_init 23 = .ok (.aload_n 1, 1) := by decide +kernel
theorem dX5_init_24 : decode cX5_init 24 = .ok (.putfield 19, 3) := by decide +kernel
theorem dX5_init_27 : decode cX5_init 27 = .ok (.aload_n 0, 1) := by decide +kernel
theorem dX5_init_28 : decode cX5_init 28 = .ok (.iconst 1, 1) := by decide +kernel
theorem dX5_init_29 : decode cX5_init 29 = .ok (.putfield 23, 3) := by decide +kernel
theorem dX5_init_32 : decode cX5_init 32 = .ok (.return_, 1) := by decide +kernel
set_option maxRecDepth 20000 in
theorem ggX5_forget_J7_fill_d0a16 : GoodIn wsX5_forget wsJ7_fill_d0a16 := goodIn_r _ [7] (by decide +kernel) (by decide +kernel)
set_option maxRecDepth 20000 in
theorem gX5_forget_J7_fill_d0a16 : GoodIn wsX5_forget (va_wsS RX5 29 yJ7_fill_d0a16 wsJ7_fill_d0a16) := goodIn_app (goodIn_of _ (by decide +kernel)) ggX5_forget_J7_fill_d0a16
theorem dX5_forget_0 : decode cX5_forget 0 = .ok (.aload_n 0, 1) := by decide +kernel
theorem dX5_forget_1 : decode cX5_forget 1 = .ok (.getfield 23, 3) := by decide +kernel
theorem dX5_forget_4 : decode cX5_forget 4 = .ok (.ifCond .eq 18, 3) := by decide +kernel
theorem dX5_forget_7 : decode cX5_forget 7 = .ok (.aload_n 0, 1) := by decide +kernel
theorem dX5_forget_8 : decode cX5_forget 8 = .ok (.getfield 11, 3) := by decide +kernel
theorem dX5_forget_11 : decode cX5_forget 11 = .ok (.ldc2_w 27, 3) := by decide +kernel
theorem dX5_forget_14 : decode cX5_forget 14 = .ok (.invokestatic 29, 3) := by decide +kernel
theorem dX5_forget_17 : decode cX5_forget 17 = .ok (.aload_n 0, 1) := by decide +kernel
theorem dX5_forget_18 : decode cX5_forget 18 = .ok (.iconst 0, 1) := by decide +kernel
theorem dX5_forget_19 : decode cX5_forget 19 = .ok (.putfield 23, 3) := by decide +kernel
theorem dX5_forget_22 : decode cX5_forget 22 = .ok (.return_, 1) := by decide +kernel
set_option maxRecDepth 20000 in
theorem ggX5_mostRows_X5_settle : GoodIn wsX5_mostRows wsX5_settle := goodIn_r _ [6, 1, 7, 8, 9, 10, 11, 12, 13, 14, 15, 16, 5, 17, 18, 19, 20, 21, 22, 23, 24, 25, 26, 27, 28, 29, 30, 31, 32, 33, 34, 35, 36, 37, 38, 39, 40, 41, 42, 43, 44, 45, 46] (by decide +kernel) (by decide +kernel)
set_option maxRecDepth 20000 in
theorem gX5_mostRows_X5_settle : GoodIn wsX5_mostRows (wsV RX5 35 RX5 yX5_settle wsX5_settle) := goodIn_app (goodIn_of _ (by decide +kernel)) ggX5_mostRows_X5_settle
set_option maxRecDepth 20000 in
theorem ggX5_mostRows_X5_cell : GoodIn wsX5_mostRows wsX5_cell := goodIn_r _ [17] (by decide +kernel) (by decide +kernel)
set_option maxRecDepth 20000 in
theorem gX5_mostRows_X5_cell : GoodIn wsX5_mostRows (va_wsS RX5 39 yX5_cell wsX5_cell) := goodIn_app (goodIn_of _ (by decide +kernel)) ggX5_mostRows_X5_cell
theorem dX5_mostRows_0 : decode cX5_mostRows 0 = .ok (.aload_n 0, 1) := by decide +kernel
theorem dX5_mostRows_1 : decode cX5_mostRows 1 = .ok (.iload_n 1, 1) := by decide +kernel
theorem dX5_mostRows_2 : decode cX5_mostRows 2 = .ok (.iload_n 2, 1) := by decide +kernel
theorem dX5_mostRows_3 : decode cX5_mostRows 3 = .ok (.invokevirtual 35, 3) := by decide +kernel
theorem dX5_mostRows_6 : decode cX5_mostRows 6 = .ok (.aload_n 0, 1) := by decide +kernel
theorem dX5_mostRows_7 : decode cX5_mostRows 7 = .ok (.getfield 11, 3) := by decide +kernel
theorem dX5_mostRows_10 : decode cX5_mostRows 10 = .ok (.iload_n 1, 1) := by decide +kernel
theorem dX5_mostRows_11 : decode cX5_mostRows 11 = .ok (.iload_n 2, 1) := by decide +kernel
theorem dX5_mostRows_12 : decode cX5_mostRows 12 = .ok (.invokestatic 39, 3) := by decide +kernel
theorem dX5_mostRows_15 : decode cX5_mostRows 15 = .ok (.laload, 1) := by decide +kernel
theorem dX5_mostRows_16 : decode cX5_mostRows 16 = .ok (.lreturn, 1) := by decide +kernel
set_option maxRecDepth 20000 in
theorem ggX5_firstAim_X5_settle : GoodIn wsX5_firstAim wsX5_settle := goodIn_r _ [6, 7, 8, 9, 10, 11, 12, 13, 14, 15, 16, 17, 5, 18, 19, 20, 21, 22, 1, 23, 24, 25, 26, 27, 28, 29, 30, 31, 32, 33, 34, 35, 36, 37, 38, 39, 40, 41, 42, 43, 44, 45, 46] (by decide +kernel) (by decide +kernel)
set_option maxRecDepth 20000 in
theorem gX5_firstAim_X5_settle : GoodIn wsX5_firstAim (wsV RX5 35 RX5 yX5_settle wsX5_settle) := goodIn_app (goodIn_of _ (by decide +kernel)) ggX5_firstAim_X5_settle
set_option maxRecDepth 20000 in
theorem ggX5_firstAim_X5_cell : GoodIn wsX5_firstAim wsX5_cell := goodIn_r _ [18] (by decide +kernel) (by decide +kernel)
set_option maxRecDepth 20000 in
theorem gX5_firstAim_X5_cell : GoodIn wsX5_firstAim (va_wsS RX5 39 yX5_cell wsX5_cell) := goodIn_app (goodIn_of _ (by decide +kernel)) ggX5_firstAim_X5_cell
theorem dX5_firstAim_0 : decode cX5_firstAim 0 = .ok (.aload_n 0, 1) := by decide +kernel
theorem dX5_firstAim_1 : decode cX5_firstAim 1 = .ok (.iload_n 1, 1) := by decide +kernel
theorem dX5_firstAim_2 : decode cX5_firstAim 2 = .ok (.iload_n 2, 1) := by decide +kernel
theorem dX5_firstAim_3 : decode cX5_firstAim 3 = .ok (.invokevirtual 35, 3) := by decide +kernel
theorem dX5_firstAim_6 : decode cX5_firstAim 6 = .ok (.aload_n 0, 1) := by decide +kernel
theorem dX5_firstAim_7 : decode cX5_firstAim 7 = .ok (.getfield 15, 3) := by decide +kernel
theorem dX5_firstAim_10 : decode cX5_firstAim 10 = .ok (.iload_n 1, 1) := by decide +kernel
theorem dX5_firstAim_11 : decode cX5_firstAim 11 = .ok (.iload_n 2, 1) := by decide +kernel
theorem dX5_firstAim_12 : decode cX5_firstAim 12 = .ok (.invokestatic 39, 3) := by decide +kernel
theorem dX5_firstAim_15 : decode cX5_firstAim 15 = .ok (.iaload, 1) := by decide +kernel
theorem dX5_firstAim_16 : decode cX5_firstAim 16 = .ok (.ireturn, 1) := by decide +kernel
theorem dX5_cell_0 : decode cX5_cell 0 = .ok (.iload_n 1, 1) := by decide +kernel
theorem dX5_cell_1 : decode cX5_cell 1 = .ok (.iconst 1, 1) := by decide +kernel
theorem dX5_cell_2 : decode cX5_cell 2 = .ok (.isub, 1) := by decide +kernel
theorem dX5_cell_3 : decode cX5_cell 3 = .ok (.sipush 302, 3) := by decide +kernel
theorem dX5_cell_6 : decode cX5_cell 6 = .ok (.imul, 1) := by decide +kernel
theorem dX5_cell_7 : decode cX5_cell 7 = .ok (.iload_n 0, 1) := by decide +kernel
theorem dX5_cell_8 : decode cX5_cell 8 = .ok (.iadd, 1) := by decide +kernel
theorem dX5_cell_9 : decode cX5_cell 9 = .ok (.ireturn, 1) := by decide +kernel
set_option maxRecDepth 20000 in
theorem ggX5_settle_X5_cell : GoodIn wsX5_settle wsX5_cell := goodIn_r _ [13] (by decide +kernel) (by decide +kernel)
set_option maxRecDepth 20000 in
theorem gX5_settle_X5_cell : GoodIn wsX5_settle (va_wsS RX5 39 yX5_cell wsX5_cell) := goodIn_app (goodIn_of _ (by decide +kernel)) ggX5_settle_X5_cell
set_option maxRecDepth 20000 in
theorem ggX5_settle_X5_settleOne : GoodIn wsX5_settle wsX5_settleOne := goodIn_r _ [17, 1, 18, 19, 20, 21, 12, 22, 8, 23, 24, 25, 26, 27, 28, 29, 30, 31, 10, 11, 13, 32, 33, 34, 35, 36, 37, 38, 39, 40, 41, 42] (by decide +kernel) (by decide +kernel)
set_option maxRecDepth 20000 in
theorem gX5_settle_X5_settleOne : GoodIn wsX5_settle (wsV RX5 48 RX5 yX5_settleOne wsX5_settleOne) := goodIn_app (goodIn_of _ (by decide +kernel)) ggX5_settle_X5_settleOne
theorem dX5_settle_0 : decode cX5_settle 0 = .ok (.aload_n 0, 1) := by decide +kernel
theorem dX5_settle_1 : decode cX5_settle 1 = .ok (.getfield 11, 3) := by decide +kernel
theorem dX5_settle_4 : decode cX5_settle 4 = .ok (.iload_n 1, 1) := by decide +kernel
theorem dX5_settle_5 : decode cX5_settle 5 = .ok (.iload_n 2, 1) := by decide +kernel
theorem dX5_settle_6 : decode cX5_settle 6 = .ok (.invokestatic 39, 3) := by decide +kernel
theorem dX5_settle_9 : decode cX5_settle 9 = .ok (.laload, 1) := by decide +kernel
theorem dX5_settle_10 : decode cX5_settle 10 = .ok (.ldc2_w 27, 3) := by decide +kernel
theorem dX5_settle_13 : decode cX5_settle 13 = .ok (.lcmp, 1) := by decide +kernel
theorem dX5_settle_14 : decode cX5_settle 14 = .ok (.ifCond .eq 4, 3) := by decide +kernel
theorem dX5_settle_17 : decode cX5_settle 17 = .ok (.return_, 1) := by decide +kernel
theorem dX5_settle_18 : decode cX5_settle 18 = .ok (.aload_n 0, 1) := by decide +kernel
theorem dX5_settle_19 : decode cX5_settle 19 = .ok (.iconst 1, 1) := by decide +kernel
theorem dX5_settle_20 : decode cX5_settle 20 = .ok (.putfield 23, 3) := by decide +kernel
theorem dX5_settle_23 : decode cX5_settle 23 = .ok (.lconst 1, 1) := by decide +kernel
theorem dX5_settle_24 : decode cX5_settle 24 = .ok (.lstore_n 3, 1) := by decide +kernel
theorem dX5_settle_25 : decode cX5_settle 25 = .ok (.iconst 1, 1) := by decide +kernel
theorem dX5_settle_26 : decode cX5_settle 26 = .ok (.istore 5, 2) := by decide +kernel
theorem dX5_settle_28 : decode cX5_settle 28 = .ok (.iload 5, 2) := by decide +kernel
theorem dX5_settle_30 : decode cX5_settle 30 = .ok (.iload_n 2, 1) := by decide +kernel
theorem dX5_settle_31 : decode cX5_settle 31 = .ok (.if_icmp .gt 79, 3) := by decide +kernel
theorem dX5_settle_34 : decode cX5_settle 34 = .ok (.iconst 1, 1) := by decide +kernel
theorem dX5_settle_35 : decode cX5_settle 35 = .ok (.iload_n 1, 1) := by decide +kernel
theorem dX5_settle_36 : decode cX5_settle 36 = .ok (.bipush 60, 2) := by decide +kernel
theorem dX5_settle_38 : decode cX5_settle 38 = .ok (.iload_n 2, 1) := by decide +kernel
theorem dX5_settle_39 : decode cX5_settle 39 = .ok (.iload 5, 2) := by decide +kernel
theorem dX5_settle_41 : decode cX5_settle 41 = .ok (.isub, 1) := by decide +kernel
theorem dX5_settle_42 : decode cX5_settle 42 = .ok (.imul, 1) := by decide +kernel
theorem dX5_settle_43 : decode cX5_settle 43 = .ok (.isub, 1) := by decide +kernel
theorem dX5_settle_44 : decode cX5_settle 44 = .ok (.invokestatic 43, 3) := by decide +kernel
theorem dX5_settle_47 : decode cX5_settle 47 = .ok (.istore 6, 2) := by decide +kernel
theorem dX5_settle_49 : decode cX5_settle 49 = .ok (.iload 6, 2) := by decide +kernel
theorem dX5_settle_51 : decode cX5_settle 51 = .ok (.istore 7, 2) := by decide +kernel
theorem dX5_settle_53 : decode cX5_settle 53 = .ok (.iload 7, 2) := by decide +kernel
theorem dX5_settle_55 : decode cX5_settle 55 = .ok (.iload_n 1, 1) := by decide +kernel
theorem dX5_settle_56 : decode cX5_settle 56 = .ok (.if_icmp .gt 37, 3) := by decide +kernel
theorem dX5_settle_59 : decode cX5_settle 59 = .ok (.aload_n 0, 1) := by decide +kernel
theorem dX5_settle_60 : decode cX5_settle 60 = .ok (.getfield 11, 3) := by decide +kernel
theorem dX5_settle_63 : decode cX5_settle 63 = .ok (.iload 7, 2) := by decide +kernel
theorem dX5_settle_65 : decode cX5_settle 65 = .ok (.iload 5, 2) := by decide +kernel
theorem dX5_settle_67 : decode cX5_settle 67 = .ok (.invokestatic 39, 3) := by decide +kernel
theorem dX5_settle_70 : decode cX5_settle 70 = .ok (.laload, 1) := by decide +kernel
theorem dX5_settle_71 : decode cX5_settle 71 = .ok (.ldc2_w 27, 3) := by decide +kernel
theorem dX5_settle_74 : decode cX5_settle 74 = .ok (.lcmp, 1) := by decide +kernel
theorem dX5_settle_75 : decode cX5_settle 75 = .ok (.ifCond .ne 12, 3) := by decide +kernel
theorem dX5_settle_78 : decode cX5_settle 78 = .ok (.aload_n 0, 1) := by decide +kernel
theorem dX5_settle_79 : decode cX5_settle 79 = .ok (.iload 7, 2) := by decide +kernel
theorem dX5_settle_81 : decode cX5_settle 81 = .ok (.iload 5, 2) := by decide +kernel
theorem dX5_settle_83 : decode cX5_settle 83 = .ok (.lload_n 3, 1) := by decide +kernel
theorem dX5_settle_84 : decode cX5_settle 84 = .ok (.invokevirtual 48, 3) := by decide +kernel
theorem dX5_settle_87 : decode cX5_settle 87 = .ok (.iinc 7 1, 3) := by decide +kernel
theorem dX5_settle_90 : decode cX5_settle 90 = .ok (.goto (-37), 3) := by decide +kernel
theorem dX5_settle_93 : decode cX5_settle 93 = .ok (.lload_n 3, 1) := by decide +kernel
theorem dX5_settle_94 : decode cX5_settle 94 = .ok (.aload_n 0, 1) := by decide +kernel
theorem dX5_settle_95 : decode cX5_settle 95 = .ok (.getfield 19, 3) := by decide +kernel
theorem dX5_settle_98 : decode cX5_settle 98 = .ok (.getfield 52, 3) := by decide +kernel
theorem dX5_settle_101 : decode cX5_settle 101 = .ok (.i2l, 1) := by decide +kernel
theorem dX5_settle_102 : decode cX5_settle 102 = .ok (.lmul, 1) := by decide +kernel
theorem dX5_settle_103 : decode cX5_settle 103 = .ok (.lstore_n 3, 1) := by decide +kernel
theorem dX5_settle_104 : decode cX5_settle 104 = .ok (.iinc 5 1, 3) := by decide +kernel
theorem dX5_settle_107 : decode cX5_settle 107 = .ok (.goto (-79), 3) := by decide +kernel
theorem dX5_settle_110 : decode cX5_settle 110 = .ok (.return_, 1) := by decide +kernel
set_option maxRecDepth 20000 in
theorem ggX5_settleOne_X5_rowsOf : GoodIn wsX5_settleOne wsX5_rowsOf := goodIn_r _ [7, 8, 9, 10, 11, 1, 12, 13, 14, 15, 16, 17, 18, 19, 6, 20, 21, 22, 23, 24, 25, 26, 27, 28, 29, 30, 31] (by decide +kernel) (by decide +kernel)
set_option maxRecDepth 20000 in
theorem gX5_settleOne_X5_rowsOf : GoodIn wsX5_settleOne (wsV RX5 58 RX5 yX5_rowsOf wsX5_rowsOf) := goodIn_app (goodIn_of _ (by decide +kernel)) ggX5_settleOne_X5_rowsOf
set_option maxRecDepth 20000 in
theorem ggX5_settleOne_X5_cell : GoodIn wsX5_settleOne wsX5_cell := goodIn_r _ [20] (by decide +kernel) (by decide +kernel)
set_option maxRecDepth 20000 in
theorem gX5_settleOne_X5_cell : GoodIn wsX5_settleOne (va_wsS RX5 39 yX5_cell wsX5_cell) := goodIn_app (goodIn_of _ (by decide +kernel)) ggX5_settleOne_X5_cell
theorem dX5_settleOne_0 : decode cX5_settleOne 0 = .ok (.lconst 0, 1) := by decide +kernel
theorem dX5_settleOne_1 : decode cX5_settleOne 1 = .ok (.lstore 5, 2) := by decide +kernel
theorem dX5_settleOne_3 : decode cX5_settleOne 3 = .ok (.iconst (-1), 1) := by decide +kernel
theorem dX5_settleOne_4 : decode cX5_settleOne 4 = .ok (.istore 7, 2) := by decide +kernel
theorem dX5_settleOne_6 : decode cX5_settleOne 6 = .ok (.iload_n 1, 1) := by decide +kernel
theorem dX5_settleOne_7 : decode cX5_settleOne 7 = .ok (.bipush 60, 2) := by decide +kernel
theorem dX5_settleOne_9 : decode cX5_settleOne 9 = .ok (.iload_n 2, 1) := by decide +kernel
theorem dX5_settleOne_10 : decode cX5_settleOne 10 = .ok (.imul, 1) := by decide +kernel
theorem dX5_settleOne_11 : decode cX5_settleOne 11 = .ok (.if_icmp .le 7, 3) := by decide +kernel
theorem dX5_settleOne_14 : decode cX5_settleOne 14 = .ok (.iconst 0, 1) := by decide +kernel
theorem dX5_settleOne_15 : decode cX5_settleOne 15 = .ok (.goto 5, 3) := by decide +kernel
theorem dX5_settleOne_18 : decode cX5_settleOne 18 = .ok (.bipush 120, 2) := by decide +kernel
theorem dX5_settleOne_20 : decode cX5_settleOne 20 = .ok (.istore 8, 2) := by decide +kernel
theorem dX5_settleOne_22 : decode cX5_settleOne 22 = .ok (.iconst 0, 1) := by decide +kernel
theorem dX5_settleOne_23 : decode cX5_settleOne 23 = .ok (.istore 9, 2) := by decide +kernel
theorem dX5_settleOne_25 : decode cX5_settleOne 25 = .ok (.iload 9, 2) := by decide +kernel
theorem dX5_settleOne_27 : decode cX5_settleOne 27 = .ok (.iload 8, 2) := by decide +kernel
theorem dX5_settleOne_29 : decode cX5_settleOne 29 = .ok (.if_icmp .ge 36, 3) := by decide +kernel
theorem dX5_settleOne_32 : decode cX5_settleOne 32 = .ok (.aload_n 0, 1) := by decide +kernel
theorem dX5_settleOne_33 : decode cX5_settleOne 33 = .ok (.iload 9, 2) := by decide +kernel
theorem dX5_settleOne_35 : decode cX5_settleOne 35 = .ok (.iload_n 1, 1) := by decide +kernel
theorem dX5_settleOne_36 : decode cX5_settleOne 36 = .ok (.iload_n 2, 1) := by decide +kernel
theorem dX5_settleOne_37 : decode cX5_settleOne 37 = .ok (.lload_n 3, 1) := by decide +kernel
theorem dX5_settleOne_38 : decode cX5_settleOne 38 = .ok (.invokevirtual 58, 3) := by decide +kernel
theorem dX5_settleOne_41 : decode cX5_settleOne 41 = .ok (.lstore 10, 2) := by decide +kernel
theorem dX5_settleOne_43 : decode cX5_settleOne 43 = .ok (.lload 10, 2) := by decide +kernel
theorem dX5_settleOne_45 : decode cX5_settleOne 45 = .ok (.lload 5, 2) := by decide +kernel
theorem dX5_settleOne_47 : decode cX5_settleOne 47 = .ok (.lcmp, 1) := by decide +kernel
theorem dX5_settleOne_48 : decode cX5_settleOne 48 = .ok (.ifCond .le 11, 3) := by decide +kernel
theorem dX5_settleOne_51 : decode cX5_settleOne 51 = .ok (.lload 10, 2) := by decide +kernel
theorem dX5_settleOne_53 : decode cX5_settleOne 53 = .ok (.lstore 5, 2) := by decide +kernel
theorem dX5_settleOne_55 : decode cX5_settleOne 55 = .ok (.iload 9, 2) := by decide +kernel
theorem dX5_settleOne_57 : decode cX5_settleOne 57 = .ok (.istore 7, 2) := by decide +kernel
theorem dX5_settleOne_59 : decode cX5_settleOne 59 = .ok (.iinc 9 1, 3) := by decide +kernel
theorem dX5_settleOne_62 : decode cX5_settleOne 62 = .ok (.goto (-37), 3) := by decide +kernel
theorem dX5_settleOne_65 : decode cX5_settleOne 65 = .ok (.aload_n 0, 1) := by decide +kernel
theorem dX5_settleOne_66 : decode cX5_settleOne 66 = .ok (.getfield 11, 3) := by decide +kernel
theorem dX5_settleOne_69 : decode cX5_settleOne 69 = .ok (.iload_n 1, 1) := by decide +kernel
theorem dX5_settleOne_70 : decode cX5_settleOne 70 = .ok (.iload_n 2, 1) := by decide +kernel
theorem dX5_settleOne_71 : decode cX5_settleOne 71 = .ok (.invokestatic 39, 3) := by decide +kernel
theorem dX5_settleOne_74 : decode cX5_settleOne 74 = .ok (.lload 5, 2) := by decide +kernel
theorem dX5_settleOne_76 : decode cX5_settleOne 76 = .ok (.lastore, 1) := by decide +kernel
theorem dX5_settleOne_77 : decode cX5_settleOne 77 = .ok (.aload_n 0, 1) := by decide +kernel
theorem dX5_settleOne_78 : decode cX5_settleOne 78 = .ok (.getfield 15, 3) := by decide +kernel
theorem dX5_settleOne_81 : decode cX5_settleOne 81 = .ok (.iload_n 1, 1) := by decide +kernel
theorem dX5_settleOne_82 : decode cX5_settleOne 82 = .ok (.iload_n 2, 1) := by decide +kernel
theorem dX5_settleOne_83 : decode cX5_settleOne 83 = .ok (.invokestatic 39, 3) := by decide +kernel
theorem dX5_settleOne_86 : decode cX5_settleOne 86 = .ok (.iload 7, 2) := by decide +kernel
theorem dX5_settleOne_88 : decode cX5_settleOne 88 = .ok (.iastore, 1) := by decide +kernel
theorem dX5_settleOne_89 : decode cX5_settleOne 89 = .ok (.return_, 1) := by decide +kernel
set_option maxRecDepth 20000 in
theorem ggX5_rowsOf_X2_after : GoodIn wsX5_rowsOf wsX2_after := goodIn_r _ [10, 11, 20, 21, 22, 23, 24, 25, 26] (by decide +kernel) (by decide +kernel)
set_option maxRecDepth 20000 in
theorem gX5_rowsOf_X2_after : GoodIn wsX5_rowsOf (wsV RX5 71 RX2 yX2_after wsX2_after) := goodIn_app (goodIn_of _ (by decide +kernel)) ggX5_rowsOf_X2_after
set_option maxRecDepth 20000 in
theorem ggX5_rowsOf_X5_cell : GoodIn wsX5_rowsOf wsX5_cell := goodIn_r _ [15] (by decide +kernel) (by decide +kernel)
set_option maxRecDepth 20000 in
theorem gX5_rowsOf_X5_cell : GoodIn wsX5_rowsOf (va_wsS RX5 39 yX5_cell wsX5_cell) := goodIn_app (goodIn_of _ (by decide +kernel)) ggX5_rowsOf_X5_cell
theorem dX5_rowsOf_0 : decode cX5_rowsOf 0 = .ok (.aload_n 0, 1) := by decide +kernel
theorem dX5_rowsOf_1 : decode cX5_rowsOf 1 = .ok (.getfield 19, 3) := by decide +kernel
theorem dX5_rowsOf_4 : decode cX5_rowsOf 4 = .ok (.getfield 62, 3) := by decide +kernel
theorem dX5_rowsOf_7 : decode cX5_rowsOf 7 = .ok (.astore 6, 2) := by decide +kernel
theorem dX5_rowsOf_9 : decode cX5_rowsOf 9 = .ok (.aload_n 0, 1) := by decide +kernel
theorem dX5_rowsOf_10 : decode cX5_rowsOf 10 = .ok (.getfield 19, 3) := by decide +kernel
theorem dX5_rowsOf_13 : decode cX5_rowsOf 13 = .ok (.getfield 65, 3) := by decide +kernel
theorem dX5_rowsOf_16 : decode cX5_rowsOf 16 = .ok (.astore 7, 2) := by decide +kernel
theorem dX5_rowsOf_18 : decode cX5_rowsOf 18 = .ok (.iload_n 1, 1) := by decide +kernel
theorem dX5_rowsOf_19 : decode cX5_rowsOf 19 = .ok (.bipush 25, 2) := by decide +kernel
theorem dX5_rowsOf_21 : decode cX5_rowsOf 21 = .ok (.imul, 1) := by decide +kernel
theorem dX5_rowsOf_22 : decode cX5_rowsOf 22 = .ok (.istore 8, 2) := by decide +kernel
theorem dX5_rowsOf_24 : decode cX5_rowsOf 24 = .ok (.lconst 0, 1) := by decide +kernel
theorem dX5_rowsOf_25 : decode cX5_rowsOf 25 = .ok (.lstore 9, 2) := by decide +kernel
theorem dX5_rowsOf_27 : decode cX5_rowsOf 27 = .ok (.iconst 0, 1) := by decide +kernel
theorem dX5_rowsOf_28 : decode cX5_rowsOf 28 = .ok (.istore 11, 2) := by decide +kernel
theorem dX5_rowsOf_30 : decode cX5_rowsOf 30 = .ok (.iload 11, 2) := by decide +kernel
theorem dX5_rowsOf_32 : decode cX5_rowsOf 32 = .ok (.aload_n 0, 1) := by decide +kernel
theorem dX5_rowsOf_33 : decode cX5_rowsOf 33 = .ok (.getfield 19, 3) := by decide +kernel
theorem dX5_rowsOf_36 : decode cX5_rowsOf 36 = .ok (.getfield 68, 3) := by decide +kernel
theorem dX5_rowsOf_39 : decode cX5_rowsOf 39 = .ok (.if_icmp .ge 85, 3) := by decide +kernel
theorem dX5_rowsOf_42 : decode cX5_rowsOf 42 = .ok (.aload_n 0, 1) := by decide +kernel
theorem dX5_rowsOf_43 : decode cX5_rowsOf 43 = .ok (.getfield 19, 3) := by decide +kernel
theorem dX5_rowsOf_46 : decode cX5_rowsOf 46 = .ok (.iload_n 2, 1) := by decide +kernel
theorem dX5_rowsOf_47 : decode cX5_rowsOf 47 = .ok (.aload 6, 2) := by decide +kernel
theorem dX5_rowsOf_49 : decode cX5_rowsOf 49 = .ok (.iload 8, 2) := by decide +kernel
theorem dX5_rowsOf_51 : decode cX5_rowsOf 51 = .ok (.iload 11, 2) := by decide +kernel
theorem dX5_rowsOf_53 : decode cX5_rowsOf 53 = .ok (.iadd, 1) := by decide +kernel
theorem dX5_rowsOf_54 : decode cX5_rowsOf 54 = .ok (.iaload, 1) := by decide +kernel
theorem dX5_rowsOf_55 : decode cX5_rowsOf 55 = .ok (.invokevirtual 71, 3) := by decide +kernel
theorem dX5_rowsOf_58 : decode cX5_rowsOf 58 = .ok (.istore 12, 2) := by decide +kernel
theorem dX5_rowsOf_60 : decode cX5_rowsOf 60 = .ok (.iload 12, 2) := by decide +kernel
theorem dX5_rowsOf_62 : decode cX5_rowsOf 62 = .ok (.ifCond .ne 20, 3) := by decide +kernel
theorem dX5_rowsOf_65 : decode cX5_rowsOf 65 = .ok (.lload 9, 2) := by decide +kernel
theorem dX5_rowsOf_67 : decode cX5_rowsOf 67 = .ok (.aload 7, 2) := by decide +kernel
theorem dX5_rowsOf_69 : decode cX5_rowsOf 69 = .ok (.iload 11, 2) := by decide +kernel
theorem dX5_rowsOf_71 : decode cX5_rowsOf 71 = .ok (.iaload, 1) := by decide +kernel
theorem dX5_rowsOf_72 : decode cX5_rowsOf 72 = .ok (.i2l, 1) := by decide +kernel
theorem dX5_rowsOf_73 : decode cX5_rowsOf 73 = .ok (.lload 4, 2) := by decide +kernel
theorem dX5_rowsOf_75 : decode cX5_rowsOf 75 = .ok (.lmul, 1) := by decide +kernel
theorem dX5_rowsOf_76 : decode cX5_rowsOf 76 = .ok (.ladd, 1) := by decide +kernel
theorem dX5_rowsOf_77 : decode cX5_rowsOf 77 = .ok (.lstore 9, 2) := by decide +kernel
theorem dX5_rowsOf_79 : decode cX5_rowsOf 79 = .ok (.goto 39, 3) := by decide +kernel
theorem dX5_rowsOf_82 : decode cX5_rowsOf 82 = .ok (.iload 12, 2) := by decide +kernel
theorem dX5_rowsOf_84 : decode cX5_rowsOf 84 = .ok (.iconst (-1), 1) := by decide +kernel
theorem dX5_rowsOf_85 : decode cX5_rowsOf 85 = .ok (.if_icmp .eq 33, 3) := by decide +kernel
theorem dX5_rowsOf_88 : decode cX5_rowsOf 88 = .ok (.iload_n 3, 1) := by decide +kernel
theorem dX5_rowsOf_89 : decode cX5_rowsOf 89 = .ok (.iconst 1, 1) := by decide +kernel
theorem dX5_rowsOf_90 : decode cX5_rowsOf 90 = .ok (.if_icmp .le 28, 3) := by decide +kernel
theorem dX5_rowsOf_93 : decode cX5_rowsOf 93 = .ok (.lload 9, 2) := by decide +kernel
theorem dX5_rowsOf_95 : decode cX5_rowsOf 95 = .ok (.aload 7, 2) := by decide +kernel
theorem dX5_rowsOf_97 : decode cX5_rowsOf 97 = .ok (.iload 11, 2) := by decide +kernel
theorem dX5_rowsOf_99 : decode cX5_rowsOf 99 = .ok (.iaload, 1) := by decide +kernel
theorem dX5_rowsOf_100 : decode cX5_rowsOf 100 = .ok (.i2l, 1) := by decide +kernel
theorem dX5_rowsOf_101 : decode cX5_rowsOf 101 = .ok (.aload_n 0, 1) := by decide +kernel
theorem dX5_rowsOf_102 : decode cX5_rowsOf 102 = .ok (.getfield 11, 3) := by decide +kernel
theorem dX5_rowsOf_105 : decode cX5_rowsOf 105 = .ok (.iload 12, 2) := by decide +kernel
theorem dX5_rowsOf_107 : decode cX5_rowsOf 107 = .ok (.iload_n 3, 1) := by decide +kernel
theorem dX5_rowsOf_108 : decode cX5_rowsOf 108 = .ok (.iconst 1, 1) := by decide +kernel
theorem dX5_rowsOf_109 : decode cX5_rowsOf 109 = .ok (.isub, 1) := by decide +kernel
theorem dX5_rowsOf_110 : decode cX5_rowsOf 110 = .ok (.invokestatic 39, 3) := by decide +kernel
theorem dX5_rowsOf_113 : decode cX5_rowsOf 113 = .ok (.laload, 1) := by decide +kernel
theorem dX5_rowsOf_114 : decode cX5_rowsOf 114 = .ok (.lmul, 1) := by decide +kernel
theorem dX5_rowsOf_115 : decode cX5_rowsOf 115 = .ok (.ladd, 1) := by decide +kernel
theorem dX5_rowsOf_116 : decode cX5_rowsOf 116 = .ok (.lstore 9, 2) := by decide +kernel
theorem dX5_rowsOf_118 : decode cX5_rowsOf 118 = .ok (.iinc 11 1, 3) := by decide +kernel
theorem dX5_rowsOf_121 : decode cX5_rowsOf 121 = .ok (.goto (-91), 3) := by decide +kernel
theorem dX5_rowsOf_124 : decode cX5_rowsOf 124 = .ok (.lload 9, 2) := by decide +kernel
theorem dX5_rowsOf_126 : decode cX5_rowsOf 126 = .ok (.lreturn, 1) := by decide +kernel
theorem dX6_init_0 : decode cX6_init 0 = .ok (.aload_n 0, 1) := by decide +kernel
theorem dX6_init_1 : decode cX6_init 1 = .ok (.invokespecial 3, 3) := by decide +kernel
theorem dX6_init_4 : decode cX6_init 4 = .ok (.aload_n 0, 1) := by decide +kernel
theorem dX6_init_5 : decode cX6_init 5 = .ok (.aload_n 1, 1) := by decide +kernel
theorem dX6_init_6 : decode cX6_init 6 = .ok (.putfield 9, 3) := by decide +kernel
theorem dX6_init_9 : decode cX6_init 9 = .ok (.aload_n 0, 1) := by decide +kernel
theorem dX6_init_10 : decode cX6_init 10 = .ok (.aload_n 2, 1) := by decide +kernel
theorem dX6_init_11 : decode cX6_init 11 = .ok (.putfield 15, 3) := by decide +kernel
theorem dX6_init_14 : decode cX6_init 14 = .ok (.aload_n 0, 1) := by decide +kernel
theorem dX6_init_15 : decode cX6_init 15 = .ok (.aconst_null, 1) := by decide +kernel
theorem dX6_init_16 : decode cX6_init 16 = .ok (.putfield 19, 3) := by decide +kernel
theorem dX6_init_19 : decode cX6_init 19 = .ok (.aload_n 0, 1) := by decide +kernel
theorem dX6_init_20 : decode cX6_init 20 = .ok (.iconst 0, 1) := by decide +kernel
theorem dX6_init_21 : decode cX6_init 21 = .ok (.putfield 23, 3) := by decide +kernel
theorem dX6_init_24 : decode cX6_init 24 = .ok (.return_, 1) := by decide +kernel
set_option maxRecDepth 20000 in
theorem ggX6_forget_X6_blank : GoodIn wsX6_forget wsX6_blank := goodIn_r _ [6, 7, 8, 9, 10, 11] (by decide +kernel) (by decide +kernel)
set_option maxRecDepth 20000 in
theorem gX6_forget_X6_blank : GoodIn wsX6_forget (va_wsS RX6 27 yX6_blank wsX6_blank) := goodIn_app (goodIn_of _ (by decide +kernel)) ggX6_forget_X6_blank
theorem dX6_forget_0 : decode cX6_forget 0 = .ok (.aload_n 0, 1) := by decide +kernel
theorem dX6_forget_1 : decode cX6_forget 1 = .ok (.getfield 23, 3) := by decide +kernel
theorem dX6_forget_4 : decode cX6_forget 4 = .ok (.ifCond .eq 22, 3) := by decide +kernel
theorem dX6_forget_7 : decode cX6_forget 7 = .ok (.aload_n 0, 1) := by decide +kernel
theorem dX6_forget_8 : decode cX6_forget 8 = .ok (.getfield 19, 3) := by decide +kernel
theorem dX6_forget_11 : decode cX6_forget 11 = .ok (.ifnull 15, 3) := by decide +kernel
theorem dX6_forget_14 : decode cX6_forget 14 = .ok (.aload_n 0, 1) := by decide +kernel
theorem dX6_forget_15 : decode cX6_forget 15 = .ok (.getfield 19, 3) := by decide +kernel
theorem dX6_forget_18 : decode cX6_forget 18 = .ok (.invokestatic 27, 3) := by decide +kernel
theorem dX6_forget_21 : decode cX6_forget 21 = .ok (.aload_n 0, 1) := by decide +kernel
theorem dX6_forget_22 : decode cX6_forget 22 = .ok (.iconst 0, 1) := by decide +kernel
theorem dX6_forget_23 : decode cX6_forget 23 = .ok (.putfield 23, 3) := by decide +kernel
theorem dX6_forget_26 : decode cX6_forget 26 = .ok (.return_, 1) := by decide +kernel
set_option maxRecDepth 20000 in
theorem ggX6_blank_J7_fill_7f8df : GoodIn wsX6_blank wsJ7_fill_7f8df := goodIn_r _ [5] (by decide +kernel) (by decide +kernel)
set_option maxRecDepth 20000 in
theorem gX6_blank_J7_fill_7f8df : GoodIn wsX6_blank (va_wsS RX6 33 yJ7_fill_7f8df wsJ7_fill_7f8df) := goodIn_app (goodIn_of _ (by decide +kernel)) ggX6_blank_J7_fill_7f8df
theorem dX6_blank_0 : decode cX6_blank 0 = .ok (.aload_n 0, 1) := by decide +kernel
theorem dX6_blank_1 : decode cX6_blank 1 = .ok (.ldc2_w 31, 3) := by decide +kernel
theorem dX6_blank_4 : decode cX6_blank 4 = .ok (.invokestatic 33, 3) := by decide +kernel
theorem dX6_blank_7 : decode cX6_blank 7 = .ok (.return_, 1) := by decide +kernel
theorem dX6_isKnown_0 : decode cX6_isKnown 0 = .ok (.dload_n 0, 1) := by decide +kernel
theorem dX6_isKnown_1 : decode cX6_isKnown 1 = .ok (.ldc2_w 39, 3) := by decide +kernel
theorem dX6_isKnown_4 : decode cX6_isKnown 4 = .ok (.dcmp .l, 1) := by decide +kernel
theorem dX6_isKnown_5 : decode cX6_isKnown 5 = .ok (.ifCond .le 7, 3) := by decide +kernel
theorem dX6_isKnown_8 : decode cX6_isKnown 8 = .ok (.iconst 1, 1) := by decide +kernel
theorem dX6_isKnown_9 : decode cX6_isKnown 9 = .ok (.goto 4, 3) := by decide +kernel
theorem dX6_isKnown_12 : decode cX6_isKnown 12 = .ok (.iconst 0, 1) := by decide +kernel
theorem dX6_isKnown_13 : decode cX6_isKnown 13 = .ok (.ireturn, 1) := by decide +kernel
set_option maxRecDepth 20000 in
theorem ggX6_chance_X6_blank : GoodIn wsX6_chance wsX6_blank := goodIn_r _ [7, 8, 9, 10, 11, 12] (by decide +kernel) (by decide +kernel)
set_option maxRecDepth 20000 in
theorem gX6_chance_X6_blank : GoodIn wsX6_chance (va_wsS RX6 27 yX6_blank wsX6_blank) := goodIn_app (goodIn_of _ (by decide +kernel)) ggX6_chance_X6_blank
set_option maxRecDepth 20000 in
theorem ggX6_chance_X6_isKnown : GoodIn wsX6_chance wsX6_isKnown := goodIn_r _ [15, 16] (by decide +kernel) (by decide +kernel)
set_option maxRecDepth 20000 in
theorem gX6_chance_X6_isKnown : GoodIn wsX6_chance (va_wsS RX6 41 yX6_isKnown wsX6_isKnown) := goodIn_app (goodIn_of _ (by decide +kernel)) ggX6_chance_X6_isKnown
set_option maxRecDepth 20000 in
theorem ggX6_chance_X6_settleUpTo : GoodIn wsX6_chance wsX6_settleUpTo := goodIn_r _ [20, 21, 13, 14, 6, 15, 16, 22, 23, 24, 25, 26, 27, 28, 29, 30, 31, 32, 33, 34, 35, 36, 37, 38, 39, 40, 41, 42, 43, 44, 45, 46, 47, 48, 49, 50, 51, 52, 53, 54, 55, 56, 57, 58, 59, 60, 61, 62, 63, 64, 65, 66, 67, 68] (by decide +kernel) (by decide +kernel)
set_option maxRecDepth 20000 in
theorem gX6_chance_X6_settleUpTo : GoodIn wsX6_chance (wsV RX6 45 RX6 yX6_settleUpTo wsX6_settleUpTo) := goodIn_app (goodIn_of _ (by decide +kernel)) ggX6_chance_X6_settleUpTo
theorem dX6_chance_0 : decode cX6_chance 0 = .ok (.aload_n 0, 1) := by decide +kernel
theorem dX6_chance_1 : decode cX6_chance 1 = .ok (.getfield 19, 3) := by decide +kernel
theorem dX6_chance_4 : decode cX6_chance 4 = .ok (.astore_n 3, 1) := by decide +kernel
theorem dX6_chance_5 : decode cX6_chance 5 = .ok (.aload_n 3, 1) := by decide +kernel
theorem dX6_chance_6 : decode cX6_chance 6 = .ok (.ifnonnull 18, 3) := by decide +kernel
theorem dX6_chance_9 : decode cX6_chance 9 = .ok (.sipush 6561, 3) := by decide +kernel
theorem dX6_chance_12 : decode cX6_chance 12 = .ok (.newarray .double, 2) := by decide +kernel
theorem dX6_chance_14 : decode cX6_chance 14 = .ok (.astore_n 3, 1) := by decide +kernel
theorem dX6_chance_15 : decode cX6_chance 15 = .ok (.aload_n 3, 1) := by decide +kernel
theorem dX6_chance_16 : decode cX6_chance 16 = .ok (.invokestatic 27, 3) := by decide +kernel
theorem dX6_chance_19 : decode cX6_chance 19 = .ok (.aload_n 0, 1) := by decide +kernel
theorem dX6_chance_20 : decode cX6_chance 20 = .ok (.aload_n 3, 1) := by decide +kernel
theorem dX6_chance_21 : decode cX6_chance 21 = .ok (.putfield 19, 3) := by decide +kernel
theorem dX6_chance_24 : decode cX6_chance 24 = .ok (.aload_n 3, 1) := by decide +kernel
theorem dX6_chance_25 : decode cX6_chance 25 = .ok (.iload_n 1, 1) := by decide +kernel
theorem dX6_chance_26 : decode cX6_chance 26 = .ok (.bipush 81, 2) := by decide +kernel
theorem dX6_chance_28 : decode cX6_chance 28 = .ok (.imul, 1) := by decide +kernel
theorem dX6_chance_29 : decode cX6_chance 29 = .ok (.iload_n 2, 1) := by decide +kernel
theorem dX6_chance_30 : decode cX6_chance 30 = .ok (.iadd, 1) := by decide +kernel
theorem dX6_chance_31 : decode cX6_chance 31 = .ok (.daload, 1) := by decide +kernel
theorem dX6_chance_32 : decode cX6_chance 32 = .ok (.invokestatic 41, 3) := by decide +kernel
theorem dX6_chance_35 : decode cX6_chance 35 = .ok (.ifCond .ne 15, 3) := by decide +kernel
theorem dX6_chance_38 : decode cX6_chance 38 = .ok (.aload_n 0, 1) := by decide +kernel
theorem dX6_chance_39 : decode cX6_chance 39 = .ok (.iconst 1, 1) := by decide +kernel
theorem dX6_chance_40 : decode cX6_chance 40 = .ok (.putfield 23, 3) := by decide +kernel
theorem dX6_chance_43 : decode cX6_chance 43 = .ok (.aload_n 0, 1) := by decide +kernel
theorem dX6_chance_44 : decode cX6_chance 44 = .ok (.iload_n 1, 1) := by decide +kernel
theorem dX6_chance_45 : decode cX6_chance 45 = .ok (.iload_n 2, 1) := by decide +kernel
theorem dX6_chance_46 : decode cX6_chance 46 = .ok (.aload_n 3, 1) := by decide +kernel
theorem dX6_chance_47 : decode cX6_chance 47 = .ok (.invokevirtual 45, 3) := by decide +kernel
theorem dX6_chance_50 : decode cX6_chance 50 = .ok (.aload_n 3, 1) := by decide +kernel
theorem dX6_chance_51 : decode cX6_chance 51 = .ok (.iload_n 1, 1) := by decide +kernel
theorem dX6_chance_52 : decode cX6_chance 52 = .ok (.bipush 81, 2) := by decide +kernel
theorem dX6_chance_54 : decode cX6_chance 54 = .ok (.imul, 1) := by decide +kernel
theorem dX6_chance_55 : decode cX6_chance 55 = .ok (.iload_n 2, 1) := by decide +kernel
theorem dX6_chance_56 : decode cX6_chance 56 = .ok (.iadd, 1) := by decide +kernel
theorem dX6_chance_57 : decode cX6_chance 57 = .ok (.daload, 1) := by decide +kernel
theorem dX6_chance_58 : decode cX6_chance 58 = .ok (.dreturn, 1) := by decide +kernel
set_option maxRecDepth 20000 in
theorem ggX6_settleUpTo_X6_isKnown : GoodIn wsX6_settleUpTo wsX6_isKnown := goodIn_r _ [5, 6] (by decide +kernel) (by decide +kernel)
set_option maxRecDepth 20000 in
theorem gX6_settleUpTo_X6_isKnown : GoodIn wsX6_settleUpTo (va_wsS RX6 41 yX6_isKnown wsX6_isKnown) := goodIn_app (goodIn_of _ (by decide +kernel)) ggX6_settleUpTo_X6_isKnown
set_option maxRecDepth 20000 in
theorem ggX6_settleUpTo_X4_hasNone : GoodIn wsX6_settleUpTo wsX4_hasNone := goodIn_r _ [11, 12, 41, 42, 43, 44, 45, 46] (by decide +kernel) (by decide +kernel)
set_option maxRecDepth 20000 in
theorem gX6_settleUpTo_X4_hasNone : GoodIn wsX6_settleUpTo (wsV RX6 49 RX4 yX4_hasNone wsX4_hasNone) := goodIn_app (goodIn_of _ (by decide +kernel)) ggX6_settleUpTo_X4_hasNone
set_option maxRecDepth 20000 in
theorem ggX6_settleUpTo_X6_settlePair : GoodIn wsX6_settleUpTo wsX6_settlePair := goodIn_r _ [16, 1, 17, 18, 19, 20, 21, 22, 4, 23, 24, 25, 26, 27, 28, 29, 30, 31, 32, 33, 34, 35, 36, 37, 38, 39, 40, 41, 42, 43, 44, 45, 46, 47, 48, 49, 50, 51, 52, 53] (by decide +kernel) (by decide +kernel)
set_option maxRecDepth 20000 in
theorem gX6_settleUpTo_X6_settlePair : GoodIn wsX6_settleUpTo (wsV RX6 55 RX6 yX6_settlePair wsX6_settlePair) := goodIn_app (goodIn_of _ (by decide +kernel)) ggX6_settleUpTo_X6_settlePair
theorem dX6_settleUpTo_0 : decode cX6_settleUpTo 0 = .ok (.iconst 1, 1) := by decide +kernel
theorem dX6_settleUpTo_1 : decode cX6_settleUpTo 1 = .ok (.istore 4, 2) := by decide +kernel
theorem dX6_settleUpTo_3 : decode cX6_settleUpTo 3 = .ok (.iload 4, 2) := by decide +kernel
theorem dX6_settleUpTo_5 : decode cX6_settleUpTo 5 = .ok (.iload_n 1, 1) := by decide +kernel
theorem dX6_settleUpTo_6 : decode cX6_settleUpTo 6 = .ok (.if_icmp .gt 77, 3) := by decide +kernel
theorem dX6_settleUpTo_9 : decode cX6_settleUpTo 9 = .ok (.iconst 1, 1) := by decide +kernel
theorem dX6_settleUpTo_10 : decode cX6_settleUpTo 10 = .ok (.istore 5, 2) := by decide +kernel
theorem dX6_settleUpTo_12 : decode cX6_settleUpTo 12 = .ok (.iload 5, 2) := by decide +kernel
theorem dX6_settleUpTo_14 : decode cX6_settleUpTo 14 = .ok (.iload_n 2, 1) := by decide +kernel
theorem dX6_settleUpTo_15 : decode cX6_settleUpTo 15 = .ok (.if_icmp .gt 62, 3) := by decide +kernel
theorem dX6_settleUpTo_18 : decode cX6_settleUpTo 18 = .ok (.aload_n 3, 1) := by decide +kernel
theorem dX6_settleUpTo_19 : decode cX6_settleUpTo 19 = .ok (.iload 4, 2) := by decide +kernel
theorem dX6_settleUpTo_21 : decode cX6_settleUpTo 21 = .ok (.bipush 81, 2) := by decide +kernel
theorem dX6_settleUpTo_23 : decode cX6_settleUpTo 23 = .ok (.imul, 1) := by decide +kernel
theorem dX6_settleUpTo_24 : decode cX6_settleUpTo 24 = .ok (.iload 5, 2) := by decide +kernel
theorem dX6_settleUpTo_26 : decode cX6_settleUpTo 26 = .ok (.iadd, 1) := by decide +kernel
theorem dX6_settleUpTo_27 : decode cX6_settleUpTo 27 = .ok (.daload, 1) := by decide +kernel
theorem dX6_settleUpTo_28 : decode cX6_settleUpTo 28 = .ok (.invokestatic 41, 3) := by decide +kernel
theorem dX6_settleUpTo_31 : decode cX6_settleUpTo 31 = .ok (.istore 6, 2) := by decide +kernel
theorem dX6_settleUpTo_33 : decode cX6_settleUpTo 33 = .ok (.iload 6, 2) := by decide +kernel
theorem dX6_settleUpTo_35 : decode cX6_settleUpTo 35 = .ok (.ifCond .ne 36, 3) := by decide +kernel
theorem dX6_settleUpTo_38 : decode cX6_settleUpTo 38 = .ok (.aload_n 0, 1) := by decide +kernel
theorem dX6_settleUpTo_39 : decode cX6_settleUpTo 39 = .ok (.getfield 15, 3) := by decide +kernel
theorem dX6_settleUpTo_42 : decode cX6_settleUpTo 42 = .ok (.iload 4, 2) := by decide +kernel
theorem dX6_settleUpTo_44 : decode cX6_settleUpTo 44 = .ok (.invokevirtual 49, 3) := by decide +kernel
theorem dX6_settleUpTo_47 : decode cX6_settleUpTo 47 = .ok (.ifCond .ne 24, 3) := by decide +kernel
theorem dX6_settleUpTo_50 : decode cX6_settleUpTo 50 = .ok (.aload_n 0, 1) := by decide +kernel
theorem dX6_settleUpTo_51 : decode cX6_settleUpTo 51 = .ok (.getfield 15, 3) := by decide +kernel
theorem dX6_settleUpTo_54 : decode cX6_settleUpTo 54 = .ok (.iload 5, 2) := by decide +kernel
theorem dX6_settleUpTo_56 : decode cX6_settleUpTo 56 = .ok (.invokevirtual 49, 3) := by decide +kernel
theorem dX6_settleUpTo_59 : decode cX6_settleUpTo 59 = .ok (.ifCond .ne 12, 3) := by decide +kernel
theorem dX6_settleUpTo_62 : decode cX6_settleUpTo 62 = .ok (.aload_n 0, 1) := by decide +kernel
theorem dX6_settleUpTo_63 : decode cX6_settleUpTo 63 = .ok (.iload 4, 2) := by decide +kernel
theorem dX6_settleUpTo_65 : decode cX6_settleUpTo 65 = .ok (.iload 5, 2) := by decide +kernel
theorem dX6_settleUpTo_67 : decode cX6_settleUpTo 67 = .ok (.aload_n 3, 1) := by decide +kernel
theorem dX6_settleUpTo_68 : decode cX6_settleUpTo 68 = .ok (.invokevirtual 55, 3) := by decide +kernel
theorem dX6_settleUpTo_71 : decode cX6_settleUpTo 71 = .ok (.iinc 5 1, 3) := by decide +kernel
theorem dX6_settleUpTo_74 : decode cX6_settleUpTo 74 = .ok (.goto (-62), 3) := by decide +kernel
theorem dX6_settleUpTo_77 : decode cX6_settleUpTo 77 = .ok (.iinc 4 1, 3) := by decide +kernel
theorem dX6_settleUpTo_80 : decode cX6_settleUpTo 80 = .ok (.goto (-77), 3) := by decide +kernel
theorem dX6_settleUpTo_83 : decode cX6_settleUpTo 83 = .ok (.return_, 1) := by decide +kernel
set_option maxRecDepth 20000 in
theorem ggX6_settlePair_X6_gain : GoodIn wsX6_settlePair wsX6_gain := goodIn_r _ [9, 1, 10, 3, 11, 12, 13, 4, 14, 15, 16, 17, 18, 19, 23, 24, 25, 26, 27, 28, 29, 30, 31, 32, 33, 34, 35, 36, 37, 38, 39] (by decide +kernel) (by decide +kernel)
set_option maxRecDepth 20000 in
theorem gX6_settlePair_X6_gain : GoodIn wsX6_settlePair (wsV RX6 58 RX6 yX6_gain wsX6_gain) := goodIn_app (goodIn_of _ (by decide +kernel)) ggX6_settlePair_X6_gain
set_option maxRecDepth 20000 in
theorem ggX6_settlePair_X6_solve : GoodIn wsX6_settlePair wsX6_solve := goodIn_r _ [22] (by decide +kernel) (by decide +kernel)
set_option maxRecDepth 20000 in
theorem gX6_settlePair_X6_solve : GoodIn wsX6_settlePair (va_wsS RX6 72 yX6_solve wsX6_solve) := goodIn_app (goodIn_of _ (by decide +kernel)) ggX6_settlePair_X6_solve
theorem dX6_settlePair_0 : decode cX6_settlePair 0 = .ok (.aload_n 0, 1) := by decide +kernel
theorem dX6_settlePair_1 : decode cX6_settlePair 1 = .ok (.iload_n 1, 1) := by decide +kernel
theorem dX6_settlePair_2 : decode cX6_settlePair 2 = .ok (.iload_n 2, 1) := by decide +kernel
theorem dX6_settlePair_3 : decode cX6_settlePair 3 = .ok (.aload_n 3, 1) := by decide +kernel
theorem dX6_settlePair_4 : decode cX6_settlePair 4 = .ok (.invokevirtual 58, 3) := by decide +kernel
theorem dX6_settlePair_7 : decode cX6_settlePair 7 = .ok (.dstore 4, 2) := by decide +kernel
theorem dX6_settlePair_9 : decode cX6_settlePair 9 = .ok (.aload_n 0, 1) := by decide +kernel
theorem dX6_settlePair_10 : decode cX6_settlePair 10 = .ok (.iload_n 2, 1) := by decide +kernel
theorem dX6_settlePair_11 : decode cX6_settlePair 11 = .ok (.iload_n 1, 1) := by decide +kernel
theorem dX6_settlePair_12 : decode cX6_settlePair 12 = .ok (.aload_n 3, 1) := by decide +kernel
theorem dX6_settlePair_13 : decode cX6_settlePair 13 = .ok (.invokevirtual 58, 3) := by decide +kernel
theorem dX6_settlePair_16 : decode cX6_settlePair 16 = .ok (.dstore 6, 2) := by decide +kernel
theorem dX6_settlePair_18 : decode cX6_settlePair 18 = .ok (.aload_n 0, 1) := by decide +kernel
theorem dX6_settlePair_19 : decode cX6_settlePair 19 = .ok (.getfield 15, 3) := by decide +kernel
theorem dX6_settlePair_22 : decode cX6_settlePair 22 = .ok (.getfield 62, 3) := by decide +kernel
theorem dX6_settlePair_25 : decode cX6_settlePair 25 = .ok (.iload_n 1, 1) := by decide +kernel
theorem dX6_settlePair_26 : decode cX6_settlePair 26 = .ok (.iaload, 1) := by decide +kernel
theorem dX6_settlePair_27 : decode cX6_settlePair 27 = .ok (.i2d, 1) := by decide +kernel
theorem dX6_settlePair_28 : decode cX6_settlePair 28 = .ok (.aload_n 0, 1) := by decide +kernel
theorem dX6_settlePair_29 : decode cX6_settlePair 29 = .ok (.getfield 9, 3) := by decide +kernel
theorem dX6_settlePair_32 : decode cX6_settlePair 32 = .ok (.getfield 66, 3) := by decide +kernel
theorem dX6_settlePair_35 : decode cX6_settlePair 35 = .ok (.i2d, 1) := by decide +kernel
theorem dX6_settlePair_36 : decode cX6_settlePair 36 = .ok (.ddiv, 1) := by decide +kernel
theorem dX6_settlePair_37 : decode cX6_settlePair 37 = .ok (.dstore 8, 2) := by decide +kernel
theorem dX6_settlePair_39 : decode cX6_settlePair 39 = .ok (.aload_n 0, 1) := by decide +kernel
theorem dX6_settlePair_40 : decode cX6_settlePair 40 = .ok (.getfield 15, 3) := by decide +kernel
theorem dX6_settlePair_43 : decode cX6_settlePair 43 = .ok (.getfield 62, 3) := by decide +kernel
theorem dX6_settlePair_46 : decode cX6_settlePair 46 = .ok (.iload_n 2, 1) := by decide +kernel
theorem dX6_settlePair_47 : decode cX6_settlePair 47 = .ok (.iaload, 1) := by decide +kernel
theorem dX6_settlePair_48 : decode cX6_settlePair 48 = .ok (.i2d, 1) := by decide +kernel
theorem dX6_settlePair_49 : decode cX6_settlePair 49 = .ok (.aload_n 0, 1) := by decide +kernel
theorem dX6_settlePair_50 : decode cX6_settlePair 50 = .ok (.getfield 9, 3) := by decide +kernel
theorem dX6_settlePair_53 : decode cX6_settlePair 53 = .ok (.getfield 66, 3) := by decide +kernel
theorem dX6_settlePair_56 : decode cX6_settlePair 56 = .ok (.i2d, 1) := by decide +kernel
theorem dX6_settlePair_57 : decode cX6_settlePair 57 = .ok (.ddiv, 1) := by decide +kernel
theorem dX6_settlePair_58 : decode cX6_settlePair 58 = .ok (.dstore 10, 2) := by decide +kernel
theorem dX6_settlePair_60 : decode cX6_settlePair 60 = .ok (.aload_n 3, 1) := by decide +kernel
theorem dX6_settlePair_61 : decode cX6_settlePair 61 = .ok (.iload_n 1, 1) := by decide +kernel
theorem dX6_settlePair_62 : decode cX6_settlePair 62 = .ok (.bipush 81, 2) := by decide +kernel
theorem dX6_settlePair_64 : decode cX6_settlePair 64 = .ok (.imul, 1) := by decide +kernel
theorem dX6_settlePair_65 : decode cX6_settlePair 65 = .ok (.iload_n 2, 1) := by decide +kernel
theorem dX6_settlePair_66 : decode cX6_settlePair 66 = .ok (.iadd, 1) := by decide +kernel
theorem dX6_settlePair_67 : decode cX6_settlePair 67 = .ok (.dload 4, 2) := by decide +kernel
theorem dX6_settlePair_69 : decode cX6_settlePair 69 = .ok (.dload 8, 2) := by decide +kernel
theorem dX6_settlePair_71 : decode cX6_settlePair 71 = .ok (.dload 6, 2) := by decide +kernel
theorem dX6_settlePair_73 : decode cX6_settlePair 73 = .ok (.dload 10, 2) := by decide +kernel
theorem dX6_settlePair_75 : decode cX6_settlePair 75 = .ok (.invokestatic 72, 3) := by decide +kernel
theorem dX6_settlePair_78 : decode cX6_settlePair 78 = .ok (.dastore, 1) := by decide +kernel
theorem dX6_settlePair_79 : decode cX6_settlePair 79 = .ok (.aload_n 3, 1) := by decide +kernel
theorem dX6_settlePair_80 : decode cX6_settlePair 80 = .ok (.iload_n 2, 1) := by decide +kernel
theorem dX6_settlePair_81 : decode cX6_settlePair 81 = .ok (.bipush 81, 2) := by decide +kernel
theorem dX6_settlePair_83 : decode cX6_settlePair 83 = .ok (.imul, 1) := by decide +kernel
theorem dX6_settlePair_84 : decode cX6_settlePair 84 = .ok (.iload_n 1, 1) := by decide +kernel
theorem dX6_settlePair_85 : decode cX6_settlePair 85 = .ok (.iadd, 1) := by decide +kernel
theorem dX6_settlePair_86 : decode cX6_settlePair 86 = .ok (.dload 6, 2) := by decide +kernel
theorem dX6_settlePair_88 : decode cX6_settlePair 88 = .ok (.dload 10, 2) := by decide +kernel
theorem dX6_settlePair_90 : decode cX6_settlePair 90 = .ok (.dload 4, 2) := by decide +kernel
theorem dX6_settlePair_92 : decode cX6_settlePair 92 = .ok (.dload 8, 2) := by decide +kernel
theorem dX6_settlePair_94 : decode cX6_settlePair 94 = .ok (.invokestatic 72, 3) := by decide +kernel
theorem dX6_settlePair_97 : decode cX6_settlePair 97 = .ok (.dastore, 1) := by decide +kernel
theorem dX6_settlePair_98 : decode cX6_settlePair 98 = .ok (.return_, 1) := by decide +kernel
theorem dX6_solve_0 : decode cX6_solve 0 = .ok (.dload_n 0, 1) := by decide +kernel
theorem dX6_solve_1 : decode cX6_solve 1 = .ok (.dload_n 2, 1) := by decide +kernel
theorem dX6_solve_2 : decode cX6_solve 2 = .ok (.dconst 1, 1) := by decide +kernel
theorem dX6_solve_3 : decode cX6_solve 3 = .ok (.dload 4, 2) := by decide +kernel
theorem dX6_solve_5 : decode cX6_solve 5 = .ok (.dsub, 1) := by decide +kernel
theorem dX6_solve_6 : decode cX6_solve 6 = .ok (.dload 6, 2) := by decide +kernel
theorem dX6_solve_8 : decode cX6_solve 8 = .ok (.dsub, 1) := by decide +kernel
theorem dX6_solve_9 : decode cX6_solve 9 = .ok (.dmul, 1) := by decide +kernel
theorem dX6_solve_10 : decode cX6_solve 10 = .ok (.dadd, 1) := by decide +kernel
theorem dX6_solve_11 : decode cX6_solve 11 = .ok (.dconst 1, 1) := by decide +kernel
theorem dX6_solve_12 : decode cX6_solve 12 = .ok (.dload_n 2, 1) := by decide +kernel
theorem dX6_solve_13 : decode cX6_solve 13 = .ok (.dload 6, 2) := by decide +kernel
theorem dX6_solve_15 : decode cX6_solve 15 = .ok (.dmul, 1) := by decide +kernel
theorem dX6_solve_16 : decode cX6_solve 16 = .ok (.dsub, 1) := by decide +kernel
theorem dX6_solve_17 : decode cX6_solve 17 = .ok (.ddiv, 1) := by decide +kernel
theorem dX6_solve_18 : decode cX6_solve 18 = .ok (.dreturn, 1) := by decide +kernel
set_option maxRecDepth 20000 in
theorem ggX6_gain_X2_after : GoodIn wsX6_gain wsX2_after := goodIn_r _ [12, 13, 24, 25, 26, 27, 28, 29, 30] (by decide +kernel) (by decide +kernel)
set_option maxRecDepth 20000 in
theorem gX6_gain_X2_after : GoodIn wsX6_gain (wsV RX6 85 RX2 yX2_after wsX2_after) := goodIn_app (goodIn_of _ (by decide +kernel)) ggX6_gain_X2_after
theorem dX6_gain_0 : decode cX6_gain 0 = .ok (.dconst 0, 1) := by decide +kernel
theorem dX6_gain_1 : decode cX6_gain 1 = .ok (.dstore 4, 2) := by decide +kernel
theorem dX6_gain_3 : decode cX6_gain 3 = .ok (.aload_n 0, 1) := by decide +kernel
theorem dX6_gain_4 : decode cX6_gain 4 = .ok (.getfield 15, 3) := by decide +kernel
theorem dX6_gain_7 : decode cX6_gain 7 = .ok (.getfield 76, 3) := by decide +kernel
theorem dX6_gain_10 : decode cX6_gain 10 = .ok (.iload_n 1, 1) := by decide +kernel
theorem dX6_gain_11 : decode cX6_gain 11 = .ok (.iaload, 1) := by decide +kernel
theorem dX6_gain_12 : decode cX6_gain 12 = .ok (.bipush 25, 2) := by decide +kernel
theorem dX6_gain_14 : decode cX6_gain 14 = .ok (.imul, 1) := by decide +kernel
theorem dX6_gain_15 : decode cX6_gain 15 = .ok (.istore 6, 2) := by decide +kernel
theorem dX6_gain_17 : decode cX6_gain 17 = .ok (.iconst 0, 1) := by decide +kernel
theorem dX6_gain_18 : decode cX6_gain 18 = .ok (.istore 7, 2) := by decide +kernel
theorem dX6_gain_20 : decode cX6_gain 20 = .ok (.iload 7, 2) := by decide +kernel
theorem dX6_gain_22 : decode cX6_gain 22 = .ok (.aload_n 0, 1) := by decide +kernel
theorem dX6_gain_23 : decode cX6_gain 23 = .ok (.getfield 9, 3) := by decide +kernel
theorem dX6_gain_26 : decode cX6_gain 26 = .ok (.getfield 79, 3) := by decide +kernel
theorem dX6_gain_29 : decode cX6_gain 29 = .ok (.if_icmp .ge 99, 3) := by decide +kernel
theorem dX6_gain_32 : decode cX6_gain 32 = .ok (.aload_n 0, 1) := by decide +kernel
theorem dX6_gain_33 : decode cX6_gain 33 = .ok (.getfield 9, 3) := by decide +kernel
theorem dX6_gain_36 : decode cX6_gain 36 = .ok (.getfield 82, 3) := by decide +kernel
theorem dX6_gain_39 : decode cX6_gain 39 = .ok (.iload 6, 2) := by decide +kernel
theorem dX6_gain_41 : decode cX6_gain 41 = .ok (.iload 7, 2) := by decide +kernel
theorem dX6_gain_43 : decode cX6_gain 43 = .ok (.iadd, 1) := by decide +kernel
theorem dX6_gain_44 : decode cX6_gain 44 = .ok (.iaload, 1) := by decide +kernel
theorem dX6_gain_45 : decode cX6_gain 45 = .ok (.istore 8, 2) := by decide +kernel
theorem dX6_gain_47 : decode cX6_gain 47 = .ok (.aload_n 0, 1) := by decide +kernel
theorem dX6_gain_48 : decode cX6_gain 48 = .ok (.getfield 9, 3) := by decide +kernel
theorem dX6_gain_51 : decode cX6_gain 51 = .ok (.iload_n 1, 1) := by decide +kernel
theorem dX6_gain_52 : decode cX6_gain 52 = .ok (.iload 8, 2) := by decide +kernel
theorem dX6_gain_54 : decode cX6_gain 54 = .ok (.invokevirtual 85, 3) := by decide +kernel
theorem dX6_gain_57 : decode cX6_gain 57 = .ok (.istore 9, 2) := by decide +kernel
theorem dX6_gain_59 : decode cX6_gain 59 = .ok (.iload 9, 2) := by decide +kernel
theorem dX6_gain_61 : decode cX6_gain 61 = .ok (.ifCond .ne 22, 3) := by decide +kernel
theorem dX6_gain_64 : decode cX6_gain 64 = .ok (.dload 4, 2) := by decide +kernel
theorem dX6_gain_66 : decode cX6_gain 66 = .ok (.aload_n 0, 1) := by decide +kernel
theorem dX6_gain_67 : decode cX6_gain 67 = .ok (.getfield 9, 3) := by decide +kernel
theorem dX6_gain_70 : decode cX6_gain 70 = .ok (.getfield 89, 3) := by decide +kernel
theorem dX6_gain_73 : decode cX6_gain 73 = .ok (.iload 7, 2) := by decide +kernel
theorem dX6_gain_75 : decode cX6_gain 75 = .ok (.iaload, 1) := by decide +kernel
theorem dX6_gain_76 : decode cX6_gain 76 = .ok (.i2d, 1) := by decide +kernel
theorem dX6_gain_77 : decode cX6_gain 77 = .ok (.dadd, 1) := by decide +kernel
theorem dX6_gain_78 : decode cX6_gain 78 = .ok (.dstore 4, 2) := by decide +kernel
theorem dX6_gain_80 : decode cX6_gain 80 = .ok (.goto 42, 3) := by decide +kernel
theorem dX6_gain_83 : decode cX6_gain 83 = .ok (.iload 9, 2) := by decide +kernel
theorem dX6_gain_85 : decode cX6_gain 85 = .ok (.iconst (-1), 1) := by decide +kernel
theorem dX6_gain_86 : decode cX6_gain 86 = .ok (.if_icmp .eq 36, 3) := by decide +kernel
theorem dX6_gain_89 : decode cX6_gain 89 = .ok (.iload 8, 2) := by decide +kernel
theorem dX6_gain_91 : decode cX6_gain 91 = .ok (.ifCond .eq 31, 3) := by decide +kernel
theorem dX6_gain_94 : decode cX6_gain 94 = .ok (.dload 4, 2) := by decide +kernel
theorem dX6_gain_96 : decode cX6_gain 96 = .ok (.aload_n 0, 1) := by decide +kernel
theorem dX6_gain_97 : decode cX6_gain 97 = .ok (.getfield 9, 3) := by decide +kernel
theorem dX6_gain_100 : decode cX6_gain 100 = .ok (.getfield 89, 3) := by decide +kernel
theorem dX6_gain_103 : decode cX6_gain 103 = .ok (.iload 7, 2) := by decide +kernel
theorem dX6_gain_105 : decode cX6_gain 105 = .ok (.iaload, 1) := by decide +kernel
theorem dX6_gain_106 : decode cX6_gain 106 = .ok (.i2d, 1) := by decide +kernel
theorem dX6_gain_107 : decode cX6_gain 107 = .ok (.dconst 1, 1) := by decide +kernel
theorem dX6_gain_108 : decode cX6_gain 108 = .ok (.aload_n 3, 1) := by decide +kernel
theorem dX6_gain_109 : decode cX6_gain 109 = .ok (.iload_n 2, 1) := by decide +kernel
theorem dX6_gain_110 : decode cX6_gain 110 = .ok (.bipush 81, 2) := by decide +kernel
theorem dX6_gain_112 : decode cX6_gain 112 = .ok (.imul, 1) := by decide +kernel
theorem dX6_gain_113 : decode cX6_gain 113 = .ok (.iload 9, 2) := by decide +kernel
theorem dX6_gain_115 : decode cX6_gain 115 = .ok (.iadd, 1) := by decide +kernel
theorem dX6_gain_116 : decode cX6_gain 116 = .ok (.daload, 1) := by decide +kernel
theorem dX6_gain_117 : decode cX6_gain 117 = .ok (.dsub, 1) := by decide +kernel
theorem dX6_gain_118 : decode cX6_gain 118 = .ok (.dmul, 1) := by decide +kernel
theorem dX6_gain_119 : decode cX6_gain 119 = .ok (.dadd, 1) := by decide +kernel
theorem dX6_gain_120 : decode cX6_gain 120 = .ok (.dstore 4, 2) := by decide +kernel
theorem dX6_gain_122 : decode cX6_gain 122 = .ok (.iinc 7 1, 3) := by decide +kernel
theorem dX6_gain_125 : decode cX6_gain 125 = .ok (.goto (-105), 3) := by decide +kernel
theorem dX6_gain_128 : decode cX6_gain 128 = .ok (.dload 4, 2) := by decide +kernel
theorem dX6_gain_130 : decode cX6_gain 130 = .ok (.aload_n 0, 1) := by decide +kernel
theorem dX6_gain_131 : decode cX6_gain 131 = .ok (.getfield 9, 3) := by decide +kernel
theorem dX6_gain_134 : decode cX6_gain 134 = .ok (.getfield 66, 3) := by decide +kernel
theorem dX6_gain_137 : decode cX6_gain 137 = .ok (.i2d, 1) := by decide +kernel
theorem dX6_gain_138 : decode cX6_gain 138 = .ok (.ddiv, 1) := by decide +kernel
theorem dX6_gain_139 : decode cX6_gain 139 = .ok (.dreturn, 1) := by decide +kernel
