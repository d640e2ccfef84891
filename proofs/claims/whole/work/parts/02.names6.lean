theorem dX8_in_0 : decode cX8_in 0 = .ok (.iload_n 0, 1) := by decide +kernel
theorem dX8_in_1 : decode cX8_in 1 = .ok (.iload_n 1, 1) := by decide +kernel
theorem dX8_in_2 : decode cX8_in 2 = .ok (.if_icmp .lt 12, 3) := by decide +kernel
theorem dX8_in_5 : decode cX8_in 5 = .ok (.iload_n 0, 1) := by decide +kernel
theorem dX8_in_6 : decode cX8_in 6 = .ok (.iload_n 2, 1) := by decide +kernel
theorem dX8_in_7 : decode cX8_in 7 = .ok (.if_icmp .gt 7, 3) := by decide +kernel
theorem dX8_in_10 : decode cX8_in 10 = .ok (.iconst 1, 1) := by decide +kernel
theorem dX8_in_11 : decode cX8_in 11 = .ok (.goto 4, 3) := by decide +kernel
theorem dX8_in_14 : decode cX8_in 14 = .ok (.iconst 0, 1) := by decide +kernel
theorem dX8_in_15 : decode cX8_in 15 = .ok (.ireturn, 1) := by decide +kernel
theorem dX8_init_0 : decode cX8_init 0 = .ok (.aload_n 0, 1) := by decide +kernel
theorem dX8_init_1 : decode cX8_init 1 = .ok (.invokespecial 1, 3) := by decide +kernel
theorem dX8_init_4 : decode cX8_init 4 = .ok (.aload_n 0, 1) := by decide +kernel
theorem dX8_init_5 : decode cX8_init 5 = .ok (.bipush 20, 2) := by decide +kernel
theorem dX8_init_7 : decode cX8_init 7 = .ok (.newarray .int, 2) := by decide +kernel
theorem dX8_init_9 : decode cX8_init 9 = .ok (.dup, 1) := by decide +kernel
theorem dX8_init_10 : decode cX8_init 10 = .ok (.iconst 0, 1) := by decide +kernel
theorem dX8_init_11 : decode cX8_init 11 = .ok (.bipush 20, 2) := by decide +kernel
theorem dX8_init_13 : decode cX8_init 13 = .ok (.iastore, 1) := by decide +kernel
theorem dX8_init_14 : decode cX8_init 14 = .ok (.dup, 1) := by decide +kernel
theorem dX8_init_15 : decode cX8_init 15 = .ok (.iconst 1, 1) := by decide +kernel
theorem dX8_init_16 : decode cX8_init 16 = .ok (.iconst 1, 1) := by decide +kernel
theorem dX8_init_17 : decode cX8_init 17 = .ok (.iastore, 1) := by decide +kernel
theorem dX8_init_18 : decode cX8_init 18 = .ok (.dup, 1) := by decide +kernel
theorem dX8_init_19 : decode cX8_init 19 = .ok (.iconst 2, 1) := by decide +kernel
theorem dX8_init_20 : decode cX8_init 20 = .ok (.bipush 18, 2) := by decide +kernel
theorem dX8_init_22 : decode cX8_init 22 = .ok (.iastore, 1) := by decide +kernel
theorem dX8_init_23 : decode cX8_init 23 = .ok (.dup, 1) := by decide +kernel
theorem dX8_init_24 : decode cX8_init 24 = .ok (.iconst 3, 1) := by decide +kernel
theorem dX8_init_25 : decode cX8_init 25 = .ok (.iconst 4, 1) := by decide +kernel
theorem dX8_init_26 : decode cX8_init 26 = .ok (.iastore, 1) := by decide +kernel
theorem dX8_init_27 : decode cX8_init 27 = .ok (.dup, 1) := by decide +kernel
theorem dX8_init_28 : decode cX8_init 28 = .ok (.iconst 4, 1) := by decide +kernel
theorem dX8_init_29 : decode cX8_init 29 = .ok (.bipush 13, 2) := by decide +kernel
theorem dX8_init_31 : decode cX8_init 31 = .ok (.iastore, 1) := by decide +kernel
theorem dX8_init_32 : decode cX8_init 32 = .ok (.dup, 1) := by decide +kernel
theorem dX8_init_33 : decode cX8_init 33 = .ok (.iconst 5, 1) := by decide +kernel
theorem dX8_init_34 : decode cX8_init 34 = .ok (.bipush 6, 2) := by decide +kernel
theorem dX8_init_36 : decode cX8_init 36 = .ok (.iastore, 1) := by decide +kernel
theorem dX8_init_37 : decode cX8_init 37 = .ok (.dup, 1) := by decide +kernel
theorem dX8_init_38 : decode cX8_init 38 = .ok (.bipush 6, 2) := by decide +kernel
theorem dX8_init_40 : decode cX8_init 40 = .ok (.bipush 10, 2) := by decide +kernel
theorem dX8_init_42 : decode cX8_init 42 = .ok (.iastore, 1) := by decide +kernel
theorem dX8_init_43 : decode cX8_init 43 = .ok (.dup, 1) := by decide +kernel
theorem dX8_init_44 : decode cX8_init 44 = .ok (.bipush 7, 2) := by decide +kernel
theorem dX8_init_46 : decode cX8_init 46 = .ok (.bipush 15, 2) := by decide +kernel
theorem dX8_init_48 : decode cX8_init 48 = .ok (.iastore, 1) := by decide +kernel
theorem dX8_init_49 : decode cX8_init 49 = .ok (.dup, 1) := by decide +kernel
theorem dX8_init_50 : decode cX8_init 50 = .ok (.bipush 8, 2) := by decide +kernel
theorem dX8_init_52 : decode cX8_init 52 = .ok (.iconst 2, 1) := by decide +kernel
theorem dX8_init_53 : decode cX8_init 53 = .ok (.iastore, 1) := by decide +kernel
theorem dX8_init_54 : decode cX8_init 54 = .ok (.dup, 1) := by decide +kernel
theorem dX8_init_55 : decode cX8_init 55 = .ok (.bipush 9, 2) := by decide +kernel
theorem dX8_init_57 : decode cX8_init 57 = .ok (.bipush 17, 2) := by decide +kernel
theorem dX8_init_59 : decode cX8_init 59 = .ok (.iastore, 1) := by decide +kernel
theorem dX8_init_60 : decode cX8_init 60 = .ok (.dup, 1) := by decide +kernel
theorem dX8_init_61 : decode cX8_init 61 = .ok (.bipush 10, 2) := by decide +kernel
theorem dX8_init_63 : decode cX8_init 63 = .ok (.iconst 3, 1) := by decide +kernel
theorem dX8_init_64 : decode cX8_init 64 = .ok (.iastore, 1) := by decide +kernel
theorem dX8_init_65 : decode cX8_init 65 = .ok (.dup, 1) := by decide +kernel
theorem dX8_init_66 : decode cX8_init 66 = .ok (.bipush 11, 2) := by decide +kernel
theorem dX8_init_68 : decode cX8_init 68 = .ok (.bipush 19, 2) := by decide +kernel
theorem dX8_init_70 : decode cX8_init 70 = .ok (.iastore, 1) := by decide +kernel
theorem dX8_init_71 : decode cX8_init 71 = .ok (.dup, 1) := by decide +kernel
theorem dX8_init_72 : decode cX8_init 72 = .ok (.bipush 12, 2) := by decide +kernel
theorem dX8_init_74 : decode cX8_init 74 = .ok (.bipush 7, 2) := by decide +kernel
theorem dX8_init_76 : decode cX8_init 76 = .ok (.iastore, 1) := by decide +kernel
theorem dX8_init_77 : decode cX8_init 77 = .ok (.dup, 1) := by decide +kernel
theorem dX8_init_78 : decode cX8_init 78 = .ok (.bipush 13, 2) := by decide +kernel
theorem dX8_init_80 : decode cX8_init 80 = .ok (.bipush 16, 2) := by decide +kernel
theorem dX8_init_82 : decode cX8_init 82 = .ok (.iastore, 1) := by decide +kernel
theorem dX8_init_83 : decode cX8_init 83 = .ok (.dup, 1) := by decide +kernel
theorem dX8_init_84 : decode cX8_init 84 = .ok (.bipush 14, 2) := by decide +kernel
theorem dX8_init_86 : decode cX8_init 86 = .ok (.bipush 8, 2) := by decide +kernel
theorem dX8_init_88 : decode cX8_init 88 = .ok (.iastore, 1) := by decide +kernel
theorem dX8_init_89 : decode cX8_init 89 = .ok (.dup, 1) := by decide +kernel
theorem dX8_init_90 : decode cX8_init 90 = .ok (.bipush 15, 2) := by decide +kernel
theorem dX8_init_92 : decode cX8_init 92 = .ok (.bipush 11, 2) := by decide +kernel
theorem dX8_init_94 : decode cX8_init 94 = .ok (.iastore, 1) := by decide +kernel
theorem dX8_init_95 : decode cX8_init 95 = .ok (.dup, 1) := by decide +kernel
theorem dX8_init_96 : decode cX8_init 96 = .ok (.bipush 16, 2) := by decide +kernel
theorem dX8_init_98 : decode cX8_init 98 = .ok (.bipush 14, 2) := by decide +kernel
theorem dX8_init_100 : decode cX8_init 100 = .ok (.iastore, 1) := by decide +kernel
theorem dX8_init_101 : decode cX8_init 101 = .ok (.dup, 1) := by decide +kernel
theorem dX8_init_102 : decode cX8_init 102 = .ok (.bipush 17, 2) := by decide +kernel
theorem dX8_init_104 : decode cX8_init 104 = .ok (.bipush 9, 2) := by decide +kernel
theorem dX8_init_106 : decode cX8_init 106 = .ok (.iastore, 1) := by decide +kernel
theorem dX8_init_107 : decode cX8_init 107 = .ok (.dup, 1) := by decide +kernel
theorem dX8_init_108 : decode cX8_init 108 = .ok (.bipush 18, 2) := by decide +kernel
theorem dX8_init_110 : decode cX8_init 110 = .ok (.bipush 12, 2) := by decide +kernel
theorem dX8_init_112 : decode cX8_init 112 = .ok (.iastore, 1) := by decide +kernel
theorem dX8_init_113 : decode cX8_init 113 = .ok (.dup, 1) := by decide +kernel
theorem dX8_init_114 : decode cX8_init 114 = .ok (.bipush 19, 2) := by decide +kernel
theorem dX8_init_116 : decode cX8_init 116 = .ok (.iconst 5, 1) := by decide +kernel
theorem dX8_init_117 : decode cX8_init 117 = .ok (.iastore, 1) := by decide +kernel
theorem dX8_init_118 : decode cX8_init 118 = .ok (.putfield 7, 3) := by decide +kernel
theorem dX8_init_121 : decode cX8_init 121 = .ok (.aload_n 0, 1) := by decide +kernel
theorem dX8_init_122 : decode cX8_init 122 = .ok (.bipush 25, 2) := by decide +kernel
theorem dX8_init_124 : decode cX8_init 124 = .ok (.newarray .int, 2) := by decide +kernel
theorem dX8_init_126 : decode cX8_init 126 = .ok (.putfield 13, 3) := by decide +kernel
theorem dX8_init_129 : decode cX8_init 129 = .ok (.aload_n 0, 1) := by decide +kernel
theorem dX8_init_130 : decode cX8_init 130 = .ok (.iconst 1, 1) := by decide +kernel
theorem dX8_init_131 : decode cX8_init 131 = .ok (.putfield 16, 3) := by decide +kernel
theorem dX8_init_134 : decode cX8_init 134 = .ok (.aload_n 0, 1) := by decide +kernel
theorem dX8_init_135 : decode cX8_init 135 = .ok (.iconst 1, 1) := by decide +kernel
theorem dX8_init_136 : decode cX8_init 136 = .ok (.putfield 20, 3) := by decide +kernel
theorem dX8_init_139 : decode cX8_init 139 = .ok (.aload_n 0, 1) := by decide +kernel
theorem dX8_init_140 : decode cX8_init 140 = .ok (.sipush 1208, 3) := by decide +kernel
theorem dX8_init_143 : decode cX8_init 143 = .ok (.newarray .long, 2) := by decide +kernel
theorem dX8_init_145 : decode cX8_init 145 = .ok (.putfield 24, 3) := by decide +kernel
theorem dX8_init_148 : decode cX8_init 148 = .ok (.aload_n 0, 1) := by decide +kernel
theorem dX8_init_149 : decode cX8_init 149 = .ok (.sipush 1208, 3) := by decide +kernel
theorem dX8_init_152 : decode cX8_init 152 = .ok (.newarray .int, 2) := by decide +kernel
theorem dX8_init_154 : decode cX8_init 154 = .ok (.putfield 28, 3) := by decide +kernel
theorem dX8_init_157 : decode cX8_init 157 = .ok (.aload_n 0, 1) := by decide +kernel
theorem dX8_init_158 : decode cX8_init 158 = .ok (.sipush 302, 3) := by decide +kernel
theorem dX8_init_161 : decode cX8_init 161 = .ok (.newarray .double, 2) := by decide +kernel
theorem dX8_init_163 : decode cX8_init 163 = .ok (.putfield 31, 3) := by decide +kernel
theorem dX8_init_166 : decode cX8_init 166 = .ok (.aload_n 0, 1) := by decide +kernel
theorem dX8_init_167 : decode cX8_init 167 = .ok (.sipush 302, 3) := by decide +kernel
theorem dX8_init_170 : decode cX8_init 170 = .ok (.newarray .int, 2) := by decide +kernel
theorem dX8_init_172 : decode cX8_init 172 = .ok (.putfield 35, 3) := by decide +kernel
theorem dX8_init_175 : decode cX8_init 175 = .ok (.aload_n 0, 1) := by decide +kernel
theorem dX8_init_176 : decode cX8_init 176 = .ok (.sipush 6561, 3) := by decide +kernel
theorem dX8_init_179 : decode cX8_init 179 = .ok (.newarray .double, 2) := by decide +kernel
theorem dX8_init_181 : decode cX8_init 181 = .ok (.putfield 38, 3) := by decide +kernel
theorem dX8_init_184 : decode cX8_init 184 = .ok (.aload_n 0, 1) := by decide +kernel
theorem dX8_init_185 : decode cX8_init 185 = .ok (.iconst 2, 1) := by decide +kernel
theorem dX8_init_186 : decode cX8_init 186 = .ok (.newarray .int, 2) := by decide +kernel
theorem dX8_init_188 : decode cX8_init 188 = .ok (.putfield 41, 3) := by decide +kernel
theorem dX8_init_191 : decode cX8_init 191 = .ok (.aload_n 0, 1) := by decide +kernel
theorem dX8_init_192 : decode cX8_init 192 = .ok (.sipush 20000, 3) := by decide +kernel
theorem dX8_init_195 : decode cX8_init 195 = .ok (.newarray .int, 2) := by decide +kernel
theorem dX8_init_197 : decode cX8_init 197 = .ok (.putfield 44, 3) := by decide +kernel
theorem dX8_init_200 : decode cX8_init 200 = .ok (.aload_n 0, 1) := by decide +kernel
theorem dX8_init_201 : decode cX8_init 201 = .ok (.sipush 20000, 3) := by decide +kernel
theorem dX8_init_204 : decode cX8_init 204 = .ok (.newarray .int, 2) := by decide +kernel
theorem dX8_init_206 : decode cX8_init 206 = .ok (.putfield 47, 3) := by decide +kernel
theorem dX8_init_209 : decode cX8_init 209 = .ok (.aload_n 0, 1) := by decide +kernel
theorem dX8_init_210 : decode cX8_init 210 = .ok (.sipush 20000, 3) := by decide +kernel
theorem dX8_init_213 : decode cX8_init 213 = .ok (.newarray .int, 2) := by decide +kernel
theorem dX8_init_215 : decode cX8_init 215 = .ok (.putfield 50, 3) := by decide +kernel
theorem dX8_init_218 : decode cX8_init 218 = .ok (.aload_n 0, 1) := by decide +kernel
theorem dX8_init_219 : decode cX8_init 219 = .ok (.sipush 20000, 3) := by decide +kernel
theorem dX8_init_222 : decode cX8_init 222 = .ok (.newarray .int, 2) := by decide +kernel
theorem dX8_init_224 : decode cX8_init 224 = .ok (.putfield 53, 3) := by decide +kernel
theorem dX8_init_227 : decode cX8_init 227 = .ok (.aload_n 0, 1) := by decide +kernel
theorem dX8_init_228 : decode cX8_init 228 = .ok (.ldc 56, 2) := by decide +kernel
theorem dX8_init_230 : decode cX8_init 230 = .ok (.newarray .int, 2) := by decide +kernel
theorem dX8_init_232 : decode cX8_init 232 = .ok (.putfield 57, 3) := by decide +kernel
theorem dX8_init_235 : decode cX8_init 235 = .ok (.aload_n 0, 1) := by decide +kernel
theorem dX8_init_236 : decode cX8_init 236 = .ok (.sipush 20000, 3) := by decide +kernel
theorem dX8_init_239 : decode cX8_init 239 = .ok (.newarray .int, 2) := by decide +kernel
theorem dX8_init_241 : decode cX8_init 241 = .ok (.putfield 60, 3) := by decide +kernel
theorem dX8_init_244 : decode cX8_init 244 = .ok (.aload_n 0, 1) := by decide +kernel
theorem dX8_init_245 : decode cX8_init 245 = .ok (.getfield 13, 3) := by decide +kernel
theorem dX8_init_248 : decode cX8_init 248 = .ok (.bipush 12, 2) := by decide +kernel
theorem dX8_init_250 : decode cX8_init 250 = .ok (.iconst 1, 1) := by decide +kernel
theorem dX8_init_251 : decode cX8_init 251 = .ok (.iastore, 1) := by decide +kernel
theorem dX8_init_252 : decode cX8_init 252 = .ok (.return_, 1) := by decide +kernel
theorem dX8_changes_0 : decode cX8_changes 0 = .ok (.aload_n 0, 1) := by decide +kernel
theorem dX8_changes_1 : decode cX8_changes 1 = .ok (.iconst 0, 1) := by decide +kernel
theorem dX8_changes_2 : decode cX8_changes 2 = .ok (.putfield 63, 3) := by decide +kernel
theorem dX8_changes_5 : decode cX8_changes 5 = .ok (.aload_n 0, 1) := by decide +kernel
theorem dX8_changes_6 : decode cX8_changes 6 = .ok (.iconst 0, 1) := by decide +kernel
theorem dX8_changes_7 : decode cX8_changes 7 = .ok (.putfield 66, 3) := by decide +kernel
theorem dX8_changes_10 : decode cX8_changes 10 = .ok (.return_, 1) := by decide +kernel
set_option maxRecDepth 20000 in
theorem ggX8_cloud_X8_in : GoodIn wsX8_cloud wsX8_in := goodIn_r _ [6] (by decide +kernel) (by decide +kernel)
set_option maxRecDepth 20000 in
theorem gX8_cloud_X8_in : GoodIn wsX8_cloud (va_wsS RX8 69 yX8_in wsX8_in) := goodIn_app (goodIn_of _ (by decide +kernel)) ggX8_cloud_X8_in
set_option maxRecDepth 20000 in
theorem ggX8_cloud_X8_changes : GoodIn wsX8_cloud wsX8_changes := goodIn_r _ [10, 11, 12, 13, 14, 15, 16, 17, 18, 19, 20, 21, 22, 23, 24, 25, 26, 27, 28, 29, 30, 31, 32, 33, 34, 35, 36, 37, 38, 39, 40, 41] (by decide +kernel) (by decide +kernel)
set_option maxRecDepth 20000 in
theorem gX8_cloud_X8_changes : GoodIn wsX8_cloud (wsV RX8 73 RX8 yX8_changes wsX8_changes) := goodIn_app (goodIn_of _ (by decide +kernel)) ggX8_cloud_X8_changes
theorem dX8_cloud_0 : decode cX8_cloud 0 = .ok (.iload_n 1, 1) := by decide +kernel
theorem dX8_cloud_1 : decode cX8_cloud 1 = .ok (.bipush (-2), 2) := by decide +kernel
theorem dX8_cloud_3 : decode cX8_cloud 3 = .ok (.iconst 2, 1) := by decide +kernel
theorem dX8_cloud_4 : decode cX8_cloud 4 = .ok (.invokestatic 69, 3) := by decide +kernel
theorem dX8_cloud_7 : decode cX8_cloud 7 = .ok (.ifCond .eq 24, 3) := by decide +kernel
theorem dX8_cloud_10 : decode cX8_cloud 10 = .ok (.iload_n 2, 1) := by decide +kernel
theorem dX8_cloud_11 : decode cX8_cloud 11 = .ok (.bipush (-2), 2) := by decide +kernel
theorem dX8_cloud_13 : decode cX8_cloud 13 = .ok (.iconst 2, 1) := by decide +kernel
theorem dX8_cloud_14 : decode cX8_cloud 14 = .ok (.invokestatic 69, 3) := by decide +kernel
theorem dX8_cloud_17 : decode cX8_cloud 17 = .ok (.ifCond .eq 14, 3) := by decide +kernel
theorem dX8_cloud_20 : decode cX8_cloud 20 = .ok (.iload_n 3, 1) := by decide +kernel
theorem dX8_cloud_21 : decode cX8_cloud 21 = .ok (.iconst 0, 1) := by decide +kernel
theorem dX8_cloud_22 : decode cX8_cloud 22 = .ok (.sipush 200, 3) := by decide +kernel
theorem dX8_cloud_25 : decode cX8_cloud 25 = .ok (.invokestatic 69, 3) := by decide +kernel
theorem dX8_cloud_28 : decode cX8_cloud 28 = .ok (.ifCond .ne 6, 3) := by decide +kernel
theorem dX8_cloud_31 : decode cX8_cloud 31 = .ok (.bipush (-2), 2) := by decide +kernel
theorem dX8_cloud_33 : decode cX8_cloud 33 = .ok (.ireturn, 1) := by decide +kernel
theorem dX8_cloud_34 : decode cX8_cloud 34 = .ok (.iconst 5, 1) := by decide +kernel
theorem dX8_cloud_35 : decode cX8_cloud 35 = .ok (.iload_n 1, 1) := by decide +kernel
theorem dX8_cloud_36 : decode cX8_cloud 36 = .ok (.iconst 2, 1) := by decide +kernel
theorem dX8_cloud_37 : decode cX8_cloud 37 = .ok (.iadd, 1) := by decide +kernel
theorem dX8_cloud_38 : decode cX8_cloud 38 = .ok (.imul, 1) := by decide +kernel
theorem dX8_cloud_39 : decode cX8_cloud 39 = .ok (.iload_n 2, 1) := by decide +kernel
theorem dX8_cloud_40 : decode cX8_cloud 40 = .ok (.iadd, 1) := by decide +kernel
theorem dX8_cloud_41 : decode cX8_cloud 41 = .ok (.iconst 2, 1) := by decide +kernel
theorem dX8_cloud_42 : decode cX8_cloud 42 = .ok (.iadd, 1) := by decide +kernel
theorem dX8_cloud_43 : decode cX8_cloud 43 = .ok (.istore 4, 2) := by decide +kernel
theorem dX8_cloud_45 : decode cX8_cloud 45 = .ok (.aload_n 0, 1) := by decide +kernel
theorem dX8_cloud_46 : decode cX8_cloud 46 = .ok (.getfield 13, 3) := by decide +kernel
theorem dX8_cloud_49 : decode cX8_cloud 49 = .ok (.iload 4, 2) := by decide +kernel
theorem dX8_cloud_51 : decode cX8_cloud 51 = .ok (.iaload, 1) := by decide +kernel
theorem dX8_cloud_52 : decode cX8_cloud 52 = .ok (.istore 5, 2) := by decide +kernel
theorem dX8_cloud_54 : decode cX8_cloud 54 = .ok (.aload_n 0, 1) := by decide +kernel
theorem dX8_cloud_55 : decode cX8_cloud 55 = .ok (.getfield 16, 3) := by decide +kernel
theorem dX8_cloud_58 : decode cX8_cloud 58 = .ok (.iload 5, 2) := by decide +kernel
theorem dX8_cloud_60 : decode cX8_cloud 60 = .ok (.isub, 1) := by decide +kernel
theorem dX8_cloud_61 : decode cX8_cloud 61 = .ok (.iload_n 3, 1) := by decide +kernel
theorem dX8_cloud_62 : decode cX8_cloud 62 = .ok (.iadd, 1) := by decide +kernel
theorem dX8_cloud_63 : decode cX8_cloud 63 = .ok (.ifCond .ne 6, 3) := by decide +kernel
theorem dX8_cloud_66 : decode cX8_cloud 66 = .ok (.bipush (-3), 2) := by decide +kernel
theorem dX8_cloud_68 : decode cX8_cloud 68 = .ok (.ireturn, 1) := by decide +kernel
theorem dX8_cloud_69 : decode cX8_cloud 69 = .ok (.aload_n 0, 1) := by decide +kernel
theorem dX8_cloud_70 : decode cX8_cloud 70 = .ok (.getfield 13, 3) := by decide +kernel
theorem dX8_cloud_73 : decode cX8_cloud 73 = .ok (.iload 4, 2) := by decide +kernel
theorem dX8_cloud_75 : decode cX8_cloud 75 = .ok (.iload_n 3, 1) := by decide +kernel
theorem dX8_cloud_76 : decode cX8_cloud 76 = .ok (.iastore, 1) := by decide +kernel
theorem dX8_cloud_77 : decode cX8_cloud 77 = .ok (.aload_n 0, 1) := by decide +kernel
theorem dX8_cloud_78 : decode cX8_cloud 78 = .ok (.dup, 1) := by decide +kernel
theorem dX8_cloud_79 : decode cX8_cloud 79 = .ok (.getfield 16, 3) := by decide +kernel
theorem dX8_cloud_82 : decode cX8_cloud 82 = .ok (.iload_n 3, 1) := by decide +kernel
theorem dX8_cloud_83 : decode cX8_cloud 83 = .ok (.iload 5, 2) := by decide +kernel
theorem dX8_cloud_85 : decode cX8_cloud 85 = .ok (.isub, 1) := by decide +kernel
theorem dX8_cloud_86 : decode cX8_cloud 86 = .ok (.iadd, 1) := by decide +kernel
theorem dX8_cloud_87 : decode cX8_cloud 87 = .ok (.putfield 16, 3) := by decide +kernel
theorem dX8_cloud_90 : decode cX8_cloud 90 = .ok (.aload_n 0, 1) := by decide +kernel
theorem dX8_cloud_91 : decode cX8_cloud 91 = .ok (.invokevirtual 73, 3) := by decide +kernel
theorem dX8_cloud_94 : decode cX8_cloud 94 = .ok (.iload 5, 2) := by decide +kernel
theorem dX8_cloud_96 : decode cX8_cloud 96 = .ok (.ireturn, 1) := by decide +kernel
set_option maxRecDepth 20000 in
theorem ggX8_rules_X8_in : GoodIn wsX8_rules wsX8_in := goodIn_r _ [5] (by decide +kernel) (by decide +kernel)
set_option maxRecDepth 20000 in
theorem gX8_rules_X8_in : GoodIn wsX8_rules (va_wsS RX8 69 yX8_in wsX8_in) := goodIn_app (goodIn_of _ (by decide +kernel)) ggX8_rules_X8_in
set_option maxRecDepth 20000 in
theorem ggX8_rules_X8_changes : GoodIn wsX8_rules wsX8_changes := goodIn_r _ [9, 10, 11, 12, 13, 14, 15, 16, 17, 18, 19, 20, 21, 22, 23, 24, 25, 26, 27, 28, 29, 30, 31, 32, 33, 34, 35, 36, 37, 38, 39, 40] (by decide +kernel) (by decide +kernel)
set_option maxRecDepth 20000 in
theorem gX8_rules_X8_changes : GoodIn wsX8_rules (wsV RX8 73 RX8 yX8_changes wsX8_changes) := goodIn_app (goodIn_of _ (by decide +kernel)) ggX8_rules_X8_changes
theorem dX8_rules_0 : decode cX8_rules 0 = .ok (.iload_n 1, 1) := by decide +kernel
theorem dX8_rules_1 : decode cX8_rules 1 = .ok (.iconst 0, 1) := by decide +kernel
theorem dX8_rules_2 : decode cX8_rules 2 = .ok (.iconst 1, 1) := by decide +kernel
theorem dX8_rules_3 : decode cX8_rules 3 = .ok (.invokestatic 69, 3) := by decide +kernel
theorem dX8_rules_6 : decode cX8_rules 6 = .ok (.ifCond .ne 6, 3) := by decide +kernel
theorem dX8_rules_9 : decode cX8_rules 9 = .ok (.bipush (-2), 2) := by decide +kernel
theorem dX8_rules_11 : decode cX8_rules 11 = .ok (.ireturn, 1) := by decide +kernel
theorem dX8_rules_12 : decode cX8_rules 12 = .ok (.aload_n 0, 1) := by decide +kernel
theorem dX8_rules_13 : decode cX8_rules 13 = .ok (.getfield 20, 3) := by decide +kernel
theorem dX8_rules_16 : decode cX8_rules 16 = .ok (.ifCond .eq 7, 3) := by decide +kernel
theorem dX8_rules_19 : decode cX8_rules 19 = .ok (.iconst 1, 1) := by decide +kernel
theorem dX8_rules_20 : decode cX8_rules 20 = .ok (.goto 4, 3) := by decide +kernel
theorem dX8_rules_23 : decode cX8_rules 23 = .ok (.iconst 0, 1) := by decide +kernel
theorem dX8_rules_24 : decode cX8_rules 24 = .ok (.istore_n 2, 1) := by decide +kernel
theorem dX8_rules_25 : decode cX8_rules 25 = .ok (.aload_n 0, 1) := by decide +kernel
theorem dX8_rules_26 : decode cX8_rules 26 = .ok (.iload_n 1, 1) := by decide +kernel
theorem dX8_rules_27 : decode cX8_rules 27 = .ok (.iconst 1, 1) := by decide +kernel
theorem dX8_rules_28 : decode cX8_rules 28 = .ok (.if_icmp .ne 7, 3) := by decide +kernel
theorem dX8_rules_31 : decode cX8_rules 31 = .ok (.iconst 1, 1) := by decide +kernel
theorem dX8_rules_32 : decode cX8_rules 32 = .ok (.goto 4, 3) := by decide +kernel
theorem dX8_rules_35 : decode cX8_rules 35 = .ok (.iconst 0, 1) := by decide +kernel
theorem dX8_rules_36 : decode cX8_rules 36 = .ok (.putfield 20, 3) := by decide +kernel
theorem dX8_rules_39 : decode cX8_rules 39 = .ok (.aload_n 0, 1) := by decide +kernel
theorem dX8_rules_40 : decode cX8_rules 40 = .ok (.invokevirtual 73, 3) := by decide +kernel
theorem dX8_rules_43 : decode cX8_rules 43 = .ok (.iload_n 2, 1) := by decide +kernel
theorem dX8_rules_44 : decode cX8_rules 44 = .ok (.ireturn, 1) := by decide +kernel
set_option maxRecDepth 20000 in
theorem ggX8_isSector_X8_in : GoodIn wsX8_isSector wsX8_in := goodIn_r _ [4] (by decide +kernel) (by decide +kernel)
set_option maxRecDepth 20000 in
theorem gX8_isSector_X8_in : GoodIn wsX8_isSector (va_wsS RX8 69 yX8_in wsX8_in) := goodIn_app (goodIn_of _ (by decide +kernel)) ggX8_isSector_X8_in
theorem dX8_isSector_0 : decode cX8_isSector 0 = .ok (.iload_n 0, 1) := by decide +kernel
theorem dX8_isSector_1 : decode cX8_isSector 1 = .ok (.iconst 0, 1) := by decide +kernel
theorem dX8_isSector_2 : decode cX8_isSector 2 = .ok (.bipush 19, 2) := by decide +kernel
theorem dX8_isSector_4 : decode cX8_isSector 4 = .ok (.invokestatic 69, 3) := by decide +kernel
theorem dX8_isSector_7 : decode cX8_isSector 7 = .ok (.ireturn, 1) := by decide +kernel
set_option maxRecDepth 20000 in
theorem ggX8_swap_X8_isSector : GoodIn wsX8_swap wsX8_isSector := goodIn_r _ [4, 5, 6, 3, 7] (by decide +kernel) (by decide +kernel)
set_option maxRecDepth 20000 in
theorem gX8_swap_X8_isSector : GoodIn wsX8_swap (va_wsS RX8 76 yX8_isSector wsX8_isSector) := goodIn_app (goodIn_of _ (by decide +kernel)) ggX8_swap_X8_isSector
set_option maxRecDepth 20000 in
theorem ggX8_swap_X8_exchange : GoodIn wsX8_swap wsX8_exchange := goodIn_r _ [11, 12, 19, 20, 21, 22, 23, 24, 25, 26, 27, 28, 29, 30, 31, 32, 33, 34, 35, 36, 37, 38, 39, 40, 41, 42, 43, 44, 45, 46, 47] (by decide +kernel) (by decide +kernel)
set_option maxRecDepth 20000 in
theorem gX8_swap_X8_exchange : GoodIn wsX8_swap (wsV RX8 80 RX8 yX8_exchange wsX8_exchange) := goodIn_app (goodIn_of _ (by decide +kernel)) ggX8_swap_X8_exchange
set_option maxRecDepth 20000 in
theorem ggX8_swap_X8_changes : GoodIn wsX8_swap wsX8_changes := goodIn_r _ [16, 17, 18, 19, 20, 21, 22, 23, 24, 25, 26, 27, 28, 29, 30, 31, 32, 33, 34, 35, 36, 37, 38, 39, 40, 41, 42, 43, 44, 45, 46, 47] (by decide +kernel) (by decide +kernel)
set_option maxRecDepth 20000 in
theorem gX8_swap_X8_changes : GoodIn wsX8_swap (wsV RX8 73 RX8 yX8_changes wsX8_changes) := goodIn_app (goodIn_of _ (by decide +kernel)) ggX8_swap_X8_changes
theorem dX8_swap_0 : decode cX8_swap 0 = .ok (.iload_n 1, 1) := by decide +kernel
theorem dX8_swap_1 : decode cX8_swap 1 = .ok (.invokestatic 76, 3) := by decide +kernel
theorem dX8_swap_4 : decode cX8_swap 4 = .ok (.ifCond .eq 10, 3) := by decide +kernel
theorem dX8_swap_7 : decode cX8_swap 7 = .ok (.iload_n 2, 1) := by decide +kernel
theorem dX8_swap_8 : decode cX8_swap 8 = .ok (.invokestatic 76, 3) := by decide +kernel
theorem dX8_swap_11 : decode cX8_swap 11 = .ok (.ifCond .ne 6, 3) := by decide +kernel
theorem dX8_swap_14 : decode cX8_swap 14 = .ok (.bipush (-2), 2) := by decide +kernel
theorem dX8_swap_16 : decode cX8_swap 16 = .ok (.ireturn, 1) := by decide +kernel
theorem dX8_swap_17 : decode cX8_swap 17 = .ok (.aload_n 0, 1) := by decide +kernel
theorem dX8_swap_18 : decode cX8_swap 18 = .ok (.iload_n 1, 1) := by decide +kernel
theorem dX8_swap_19 : decode cX8_swap 19 = .ok (.iload_n 2, 1) := by decide +kernel
theorem dX8_swap_20 : decode cX8_swap 20 = .ok (.invokevirtual 80, 3) := by decide +kernel
theorem dX8_swap_23 : decode cX8_swap 23 = .ok (.aload_n 0, 1) := by decide +kernel
theorem dX8_swap_24 : decode cX8_swap 24 = .ok (.invokevirtual 73, 3) := by decide +kernel
theorem dX8_swap_27 : decode cX8_swap 27 = .ok (.iconst 1, 1) := by decide +kernel
theorem dX8_swap_28 : decode cX8_swap 28 = .ok (.ireturn, 1) := by decide +kernel
theorem dX8_exchange_0 : decode cX8_exchange 0 = .ok (.aload_n 0, 1) := by decide +kernel
theorem dX8_exchange_1 : decode cX8_exchange 1 = .ok (.getfield 7, 3) := by decide +kernel
theorem dX8_exchange_4 : decode cX8_exchange 4 = .ok (.iload_n 1, 1) := by decide +kernel
theorem dX8_exchange_5 : decode cX8_exchange 5 = .ok (.iaload, 1) := by decide +kernel
theorem dX8_exchange_6 : decode cX8_exchange 6 = .ok (.istore_n 3, 1) := by decide +kernel
theorem dX8_exchange_7 : decode cX8_exchange 7 = .ok (.aload_n 0, 1) := by decide +kernel
theorem dX8_exchange_8 : decode cX8_exchange 8 = .ok (.getfield 7, 3) := by decide +kernel
theorem dX8_exchange_11 : decode cX8_exchange 11 = .ok (.iload_n 1, 1) := by decide +kernel
theorem dX8_exchange_12 : decode cX8_exchange 12 = .ok (.aload_n 0, 1) := by decide +kernel
theorem dX8_exchange_13 : decode cX8_exchange 13 = .ok (.getfield 7, 3) := by decide +kernel
theorem dX8_exchange_16 : decode cX8_exchange 16 = .ok (.iload_n 2, 1) := by decide +kernel
theorem dX8_exchange_17 : decode cX8_exchange 17 = .ok (.iaload, 1) := by decide +kernel
theorem dX8_exchange_18 : decode cX8_exchange 18 = .ok (.iastore, 1) := by decide +kernel
theorem dX8_exchange_19 : decode cX8_exchange 19 = .ok (.aload_n 0, 1) := by decide +kernel
theorem dX8_exchange_20 : decode cX8_exchange 20 = .ok (.getfield 7, 3) := by decide +kernel
theorem dX8_exchange_23 : decode cX8_exchange 23 = .ok (.iload_n 2, 1) := by decide +kernel
theorem dX8_exchange_24 : decode cX8_exchange 24 = .ok (.iload_n 3, 1) := by decide +kernel
theorem dX8_exchange_25 : decode cX8_exchange 25 = .ok (.iastore, 1) := by decide +kernel
theorem dX8_exchange_26 : decode cX8_exchange 26 = .ok (.return_, 1) := by decide +kernel
set_option maxRecDepth 20000 in
theorem ggX8_value_X8_isSector : GoodIn wsX8_value wsX8_isSector := goodIn_r _ [5, 6, 7, 4, 8] (by decide +kernel) (by decide +kernel)
set_option maxRecDepth 20000 in
theorem gX8_value_X8_isSector : GoodIn wsX8_value (va_wsS RX8 76 yX8_isSector wsX8_isSector) := goodIn_app (goodIn_of _ (by decide +kernel)) ggX8_value_X8_isSector
theorem dX8_value_0 : decode cX8_value 0 = .ok (.iload_n 1, 1) := by decide +kernel
theorem dX8_value_1 : decode cX8_value 1 = .ok (.invokestatic 76, 3) := by decide +kernel
theorem dX8_value_4 : decode cX8_value 4 = .ok (.ifCond .eq 12, 3) := by decide +kernel
theorem dX8_value_7 : decode cX8_value 7 = .ok (.aload_n 0, 1) := by decide +kernel
theorem dX8_value_8 : decode cX8_value 8 = .ok (.getfield 7, 3) := by decide +kernel
theorem dX8_value_11 : decode cX8_value 11 = .ok (.iload_n 1, 1) := by decide +kernel
theorem dX8_value_12 : decode cX8_value 12 = .ok (.iaload, 1) := by decide +kernel
theorem dX8_value_13 : decode cX8_value 13 = .ok (.goto 5, 3) := by decide +kernel
theorem dX8_value_16 : decode cX8_value 16 = .ok (.bipush (-2), 2) := by decide +kernel
theorem dX8_value_18 : decode cX8_value 18 = .ok (.ireturn, 1) := by decide +kernel
theorem dX8_counts_0 : decode cX8_counts 0 = .ok (.iload_n 1, 1) := by decide +kernel
theorem dX8_counts_1 : decode cX8_counts 1 = .ok (.tableswitch 69 0 6 #[43, 46, 69, 49, 69, 58, 67], 43) := by decide +kernel
theorem dX8_counts_44 : decode cX8_counts 44 = .ok (.bipush 50, 2) := by decide +kernel
theorem dX8_counts_46 : decode cX8_counts 46 = .ok (.ireturn, 1) := by decide +kernel
theorem dX8_counts_47 : decode cX8_counts 47 = .ok (.bipush 25, 2) := by decide +kernel
theorem dX8_counts_49 : decode cX8_counts 49 = .ok (.ireturn, 1) := by decide +kernel
theorem dX8_counts_50 : decode cX8_counts 50 = .ok (.iconst 3, 1) := by decide +kernel
theorem dX8_counts_51 : decode cX8_counts 51 = .ok (.aload_n 0, 1) := by decide +kernel
theorem dX8_counts_52 : decode cX8_counts 52 = .ok (.getfield 7, 3) := by decide +kernel
theorem dX8_counts_55 : decode cX8_counts 55 = .ok (.iload_n 2, 1) := by decide +kernel
theorem dX8_counts_56 : decode cX8_counts 56 = .ok (.iaload, 1) := by decide +kernel
theorem dX8_counts_57 : decode cX8_counts 57 = .ok (.imul, 1) := by decide +kernel
theorem dX8_counts_58 : decode cX8_counts 58 = .ok (.ireturn, 1) := by decide +kernel
theorem dX8_counts_59 : decode cX8_counts 59 = .ok (.iconst 2, 1) := by decide +kernel
theorem dX8_counts_60 : decode cX8_counts 60 = .ok (.aload_n 0, 1) := by decide +kernel
theorem dX8_counts_61 : decode cX8_counts 61 = .ok (.getfield 7, 3) := by decide +kernel
theorem dX8_counts_64 : decode cX8_counts 64 = .ok (.iload_n 2, 1) := by decide +kernel
theorem dX8_counts_65 : decode cX8_counts 65 = .ok (.iaload, 1) := by decide +kernel
theorem dX8_counts_66 : decode cX8_counts 66 = .ok (.imul, 1) := by decide +kernel
theorem dX8_counts_67 : decode cX8_counts 67 = .ok (.ireturn, 1) := by decide +kernel
theorem dX8_counts_68 : decode cX8_counts 68 = .ok (.iconst 0, 1) := by decide +kernel
theorem dX8_counts_69 : decode cX8_counts 69 = .ok (.ireturn, 1) := by decide +kernel
theorem dX8_counts_70 : decode cX8_counts 70 = .ok (.aload_n 0, 1) := by decide +kernel
theorem dX8_counts_71 : decode cX8_counts 71 = .ok (.getfield 7, 3) := by decide +kernel
theorem dX8_counts_74 : decode cX8_counts 74 = .ok (.iload_n 2, 1) := by decide +kernel
theorem dX8_counts_75 : decode cX8_counts 75 = .ok (.iaload, 1) := by decide +kernel
theorem dX8_counts_76 : decode cX8_counts 76 = .ok (.ireturn, 1) := by decide +kernel
set_option maxRecDepth 20000 in
theorem ggX8_bed_X8_in : GoodIn wsX8_bed wsX8_in := goodIn_r _ [4] (by decide +kernel) (by decide +kernel)
set_option maxRecDepth 20000 in
theorem gX8_bed_X8_in : GoodIn wsX8_bed (va_wsS RX8 69 yX8_in wsX8_in) := goodIn_app (goodIn_of _ (by decide +kernel)) ggX8_bed_X8_in
set_option maxRecDepth 20000 in
theorem ggX8_bed_X8_isSector : GoodIn wsX8_bed wsX8_isSector := goodIn_r _ [7, 1, 2, 3, 4] (by decide +kernel) (by decide +kernel)
set_option maxRecDepth 20000 in
theorem gX8_bed_X8_isSector : GoodIn wsX8_bed (va_wsS RX8 76 yX8_isSector wsX8_isSector) := goodIn_app (goodIn_of _ (by decide +kernel)) ggX8_bed_X8_isSector
set_option maxRecDepth 20000 in
theorem ggX8_bed_X8_counts : GoodIn wsX8_bed wsX8_counts := goodIn_r _ [11, 12, 13, 14, 15, 16, 17, 18, 19, 20, 21, 22, 23, 24, 25, 26, 27, 28, 29, 30, 31, 32, 33, 34, 35, 36, 37, 38, 39, 40, 41] (by decide +kernel) (by decide +kernel)
set_option maxRecDepth 20000 in
theorem gX8_bed_X8_counts : GoodIn wsX8_bed (wsV RX8 84 RX8 yX8_counts wsX8_counts) := goodIn_app (goodIn_of _ (by decide +kernel)) ggX8_bed_X8_counts
theorem dX8_bed_0 : decode cX8_bed 0 = .ok (.iload_n 1, 1) := by decide +kernel
theorem dX8_bed_1 : decode cX8_bed 1 = .ok (.iconst 0, 1) := by decide +kernel
theorem dX8_bed_2 : decode cX8_bed 2 = .ok (.bipush 6, 2) := by decide +kernel
theorem dX8_bed_4 : decode cX8_bed 4 = .ok (.invokestatic 69, 3) := by decide +kernel
theorem dX8_bed_7 : decode cX8_bed 7 = .ok (.ifCond .eq 19, 3) := by decide +kernel
theorem dX8_bed_10 : decode cX8_bed 10 = .ok (.iload_n 2, 1) := by decide +kernel
theorem dX8_bed_11 : decode cX8_bed 11 = .ok (.invokestatic 76, 3) := by decide +kernel
theorem dX8_bed_14 : decode cX8_bed 14 = .ok (.ifCond .eq 12, 3) := by decide +kernel
theorem dX8_bed_17 : decode cX8_bed 17 = .ok (.aload_n 0, 1) := by decide +kernel
theorem dX8_bed_18 : decode cX8_bed 18 = .ok (.iload_n 1, 1) := by decide +kernel
theorem dX8_bed_19 : decode cX8_bed 19 = .ok (.iload_n 2, 1) := by decide +kernel
theorem dX8_bed_20 : decode cX8_bed 20 = .ok (.invokevirtual 84, 3) := by decide +kernel
theorem dX8_bed_23 : decode cX8_bed 23 = .ok (.goto 5, 3) := by decide +kernel
theorem dX8_bed_26 : decode cX8_bed 26 = .ok (.bipush (-2), 2) := by decide +kernel
theorem dX8_bed_28 : decode cX8_bed 28 = .ok (.ireturn, 1) := by decide +kernel
theorem dX8_landsBy_0 : decode cX8_landsBy 0 = .ok (.iload_n 1, 1) := by decide +kernel
theorem dX8_landsBy_1 : decode cX8_landsBy 1 = .ok (.bipush 20, 2) := by decide +kernel
theorem dX8_landsBy_3 : decode cX8_landsBy 3 = .ok (.idiv, 1) := by decide +kernel
theorem dX8_landsBy_4 : decode cX8_landsBy 4 = .ok (.iload_n 2, 1) := by decide +kernel
theorem dX8_landsBy_5 : decode cX8_landsBy 5 = .ok (.iconst 5, 1) := by decide +kernel
theorem dX8_landsBy_6 : decode cX8_landsBy 6 = .ok (.idiv, 1) := by decide +kernel
theorem dX8_landsBy_7 : decode cX8_landsBy 7 = .ok (.iadd, 1) := by decide +kernel
theorem dX8_landsBy_8 : decode cX8_landsBy 8 = .ok (.iconst 2, 1) := by decide +kernel
theorem dX8_landsBy_9 : decode cX8_landsBy 9 = .ok (.isub, 1) := by decide +kernel
theorem dX8_landsBy_10 : decode cX8_landsBy 10 = .ok (.istore_n 3, 1) := by decide +kernel
theorem dX8_landsBy_11 : decode cX8_landsBy 11 = .ok (.iload_n 1, 1) := by decide +kernel
theorem dX8_landsBy_12 : decode cX8_landsBy 12 = .ok (.bipush 20, 2) := by decide +kernel
theorem dX8_landsBy_14 : decode cX8_landsBy 14 = .ok (.irem, 1) := by decide +kernel
theorem dX8_landsBy_15 : decode cX8_landsBy 15 = .ok (.iload_n 2, 1) := by decide +kernel
theorem dX8_landsBy_16 : decode cX8_landsBy 16 = .ok (.iconst 5, 1) := by decide +kernel
theorem dX8_landsBy_17 : decode cX8_landsBy 17 = .ok (.irem, 1) := by decide +kernel
theorem dX8_landsBy_18 : decode cX8_landsBy 18 = .ok (.iadd, 1) := by decide +kernel
theorem dX8_landsBy_19 : decode cX8_landsBy 19 = .ok (.iconst 2, 1) := by decide +kernel
theorem dX8_landsBy_20 : decode cX8_landsBy 20 = .ok (.isub, 1) := by decide +kernel
theorem dX8_landsBy_21 : decode cX8_landsBy 21 = .ok (.istore 4, 2) := by decide +kernel
theorem dX8_landsBy_23 : decode cX8_landsBy 23 = .ok (.iload 4, 2) := by decide +kernel
theorem dX8_landsBy_25 : decode cX8_landsBy 25 = .ok (.iload_n 3, 1) := by decide +kernel
theorem dX8_landsBy_26 : decode cX8_landsBy 26 = .ok (.ifCond .ge 8, 3) := by decide +kernel
theorem dX8_landsBy_29 : decode cX8_landsBy 29 = .ok (.bipush 10, 2) := by decide +kernel
theorem dX8_landsBy_31 : decode cX8_landsBy 31 = .ok (.goto 4, 3) := by decide +kernel
theorem dX8_landsBy_34 : decode cX8_landsBy 34 = .ok (.iconst 0, 1) := by decide +kernel
theorem dX8_landsBy_35 : decode cX8_landsBy 35 = .ok (.iadd, 1) := by decide +kernel
theorem dX8_landsBy_36 : decode cX8_landsBy 36 = .ok (.istore 4, 2) := by decide +kernel
theorem dX8_landsBy_38 : decode cX8_landsBy 38 = .ok (.aload_n 0, 1) := by decide +kernel
theorem dX8_landsBy_39 : decode cX8_landsBy 39 = .ok (.iload_n 3, 1) := by decide +kernel
theorem dX8_landsBy_40 : decode cX8_landsBy 40 = .ok (.ifCond .ge 8, 3) := by decide +kernel
theorem dX8_landsBy_43 : decode cX8_landsBy 43 = .ok (.iload_n 3, 1) := by decide +kernel
theorem dX8_landsBy_44 : decode cX8_landsBy 44 = .ok (.ineg, 1) := by decide +kernel
theorem dX8_landsBy_45 : decode cX8_landsBy 45 = .ok (.goto 15, 3) := by decide +kernel
theorem dX8_landsBy_48 : decode cX8_landsBy 48 = .ok (.iload_n 3, 1) := by decide +kernel
theorem dX8_landsBy_49 : decode cX8_landsBy 49 = .ok (.bipush 6, 2) := by decide +kernel
theorem dX8_landsBy_51 : decode cX8_landsBy 51 = .ok (.if_icmp .le 8, 3) := by decide +kernel
theorem dX8_landsBy_54 : decode cX8_landsBy 54 = .ok (.bipush 6, 2) := by decide +kernel
theorem dX8_landsBy_56 : decode cX8_landsBy 56 = .ok (.goto 4, 3) := by decide +kernel
theorem dX8_landsBy_59 : decode cX8_landsBy 59 = .ok (.iload_n 3, 1) := by decide +kernel
theorem dX8_landsBy_60 : decode cX8_landsBy 60 = .ok (.putfield 88, 3) := by decide +kernel
theorem dX8_landsBy_63 : decode cX8_landsBy 63 = .ok (.aload_n 0, 1) := by decide +kernel
theorem dX8_landsBy_64 : decode cX8_landsBy 64 = .ok (.iload 4, 2) := by decide +kernel
theorem dX8_landsBy_66 : decode cX8_landsBy 66 = .ok (.bipush 20, 2) := by decide +kernel
theorem dX8_landsBy_68 : decode cX8_landsBy 68 = .ok (.iadd, 1) := by decide +kernel
theorem dX8_landsBy_69 : decode cX8_landsBy 69 = .ok (.bipush 20, 2) := by decide +kernel
theorem dX8_landsBy_71 : decode cX8_landsBy 71 = .ok (.irem, 1) := by decide +kernel
theorem dX8_landsBy_72 : decode cX8_landsBy 72 = .ok (.putfield 91, 3) := by decide +kernel
theorem dX8_landsBy_75 : decode cX8_landsBy 75 = .ok (.return_, 1) := by decide +kernel
set_option maxRecDepth 20000 in
theorem ggX8_isAim_X8_in : GoodIn wsX8_isAim wsX8_in := goodIn_r _ [4] (by decide +kernel) (by decide +kernel)
set_option maxRecDepth 20000 in
theorem gX8_isAim_X8_in : GoodIn wsX8_isAim (va_wsS RX8 69 yX8_in wsX8_in) := goodIn_app (goodIn_of _ (by decide +kernel)) ggX8_isAim_X8_in
theorem dX8_isAim_0 : decode cX8_isAim 0 = .ok (.iload_n 0, 1) := by decide +kernel
theorem dX8_isAim_1 : decode cX8_isAim 1 = .ok (.iconst 0, 1) := by decide +kernel
theorem dX8_isAim_2 : decode cX8_isAim 2 = .ok (.bipush 119, 2) := by decide +kernel
theorem dX8_isAim_4 : decode cX8_isAim 4 = .ok (.invokestatic 69, 3) := by decide +kernel
theorem dX8_isAim_7 : decode cX8_isAim 7 = .ok (.ireturn, 1) := by decide +kernel
set_option maxRecDepth 20000 in
theorem ggX8_lands_X8_isAim : GoodIn wsX8_lands wsX8_isAim := goodIn_r _ [7, 8, 9, 6, 10] (by decide +kernel) (by decide +kernel)
set_option maxRecDepth 20000 in
theorem gX8_lands_X8_isAim : GoodIn wsX8_lands (va_wsS RX8 94 yX8_isAim wsX8_isAim) := goodIn_app (goodIn_of _ (by decide +kernel)) ggX8_lands_X8_isAim
set_option maxRecDepth 20000 in
theorem ggX8_lands_X8_in : GoodIn wsX8_lands wsX8_in := goodIn_r _ [10] (by decide +kernel) (by decide +kernel)
set_option maxRecDepth 20000 in
theorem gX8_lands_X8_in : GoodIn wsX8_lands (va_wsS RX8 69 yX8_in wsX8_in) := goodIn_app (goodIn_of _ (by decide +kernel)) ggX8_lands_X8_in
set_option maxRecDepth 20000 in
theorem ggX8_lands_X8_isSector : GoodIn wsX8_lands wsX8_isSector := goodIn_r _ [13, 8, 9, 6, 10] (by decide +kernel) (by decide +kernel)
set_option maxRecDepth 20000 in
theorem gX8_lands_X8_isSector : GoodIn wsX8_lands (va_wsS RX8 76 yX8_isSector wsX8_isSector) := goodIn_app (goodIn_of _ (by decide +kernel)) ggX8_lands_X8_isSector
set_option maxRecDepth 20000 in
theorem ggX8_lands_X8_landsBy : GoodIn wsX8_lands wsX8_landsBy := goodIn_r _ [17, 1, 2, 18, 19, 20, 21, 22, 23, 24, 25, 26, 27, 28, 29, 30, 31, 32, 33, 34, 35, 36, 37, 38, 39, 40, 41, 42, 43, 44, 45, 46] (by decide +kernel) (by decide +kernel)
set_option maxRecDepth 20000 in
theorem gX8_lands_X8_landsBy : GoodIn wsX8_lands (wsV RX8 97 RX8 yX8_landsBy wsX8_landsBy) := goodIn_app (goodIn_of _ (by decide +kernel)) ggX8_lands_X8_landsBy
theorem dX8_lands_0 : decode cX8_lands 0 = .ok (.iload_n 1, 1) := by decide +kernel
theorem dX8_lands_1 : decode cX8_lands 1 = .ok (.invokestatic 94, 3) := by decide +kernel
theorem dX8_lands_4 : decode cX8_lands 4 = .ok (.ifCond .eq 20, 3) := by decide +kernel
theorem dX8_lands_7 : decode cX8_lands 7 = .ok (.iload_n 2, 1) := by decide +kernel
theorem dX8_lands_8 : decode cX8_lands 8 = .ok (.iconst 0, 1) := by decide +kernel
theorem dX8_lands_9 : decode cX8_lands 9 = .ok (.bipush 6, 2) := by decide +kernel
theorem dX8_lands_11 : decode cX8_lands 11 = .ok (.invokestatic 69, 3) := by decide +kernel
theorem dX8_lands_14 : decode cX8_lands 14 = .ok (.ifCond .eq 10, 3) := by decide +kernel
theorem dX8_lands_17 : decode cX8_lands 17 = .ok (.iload_n 3, 1) := by decide +kernel
theorem dX8_lands_18 : decode cX8_lands 18 = .ok (.invokestatic 76, 3) := by decide +kernel
theorem dX8_lands_21 : decode cX8_lands 21 = .ok (.ifCond .ne 6, 3) := by decide +kernel
theorem dX8_lands_24 : decode cX8_lands 24 = .ok (.bipush (-2), 2) := by decide +kernel
theorem dX8_lands_26 : decode cX8_lands 26 = .ok (.ireturn, 1) := by decide +kernel
theorem dX8_lands_27 : decode cX8_lands 27 = .ok (.iconst 0, 1) := by decide +kernel
theorem dX8_lands_28 : decode cX8_lands 28 = .ok (.istore 4, 2) := by decide +kernel
theorem dX8_lands_30 : decode cX8_lands 30 = .ok (.iconst 0, 1) := by decide +kernel
theorem dX8_lands_31 : decode cX8_lands 31 = .ok (.istore 5, 2) := by decide +kernel
theorem dX8_lands_33 : decode cX8_lands 33 = .ok (.iload 5, 2) := by decide +kernel
theorem dX8_lands_35 : decode cX8_lands 35 = .ok (.bipush 25, 2) := by decide +kernel
theorem dX8_lands_37 : decode cX8_lands 37 = .ok (.if_icmp .ge 59, 3) := by decide +kernel
theorem dX8_lands_40 : decode cX8_lands 40 = .ok (.aload_n 0, 1) := by decide +kernel
theorem dX8_lands_41 : decode cX8_lands 41 = .ok (.iload_n 1, 1) := by decide +kernel
theorem dX8_lands_42 : decode cX8_lands 42 = .ok (.iload 5, 2) := by decide +kernel
theorem dX8_lands_44 : decode cX8_lands 44 = .ok (.invokevirtual 97, 3) := by decide +kernel
theorem dX8_lands_47 : decode cX8_lands 47 = .ok (.iload 4, 2) := by decide +kernel
theorem dX8_lands_49 : decode cX8_lands 49 = .ok (.aload_n 0, 1) := by decide +kernel
theorem dX8_lands_50 : decode cX8_lands 50 = .ok (.getfield 88, 3) := by decide +kernel
theorem dX8_lands_53 : decode cX8_lands 53 = .ok (.iload_n 2, 1) := by decide +kernel
theorem dX8_lands_54 : decode cX8_lands 54 = .ok (.if_icmp .ne 32, 3) := by decide +kernel
theorem dX8_lands_57 : decode cX8_lands 57 = .ok (.iload_n 2, 1) := by decide +kernel
theorem dX8_lands_58 : decode cX8_lands 58 = .ok (.iconst 2, 1) := by decide +kernel
theorem dX8_lands_59 : decode cX8_lands 59 = .ok (.if_icmp .lt 17, 3) := by decide +kernel
theorem dX8_lands_62 : decode cX8_lands 62 = .ok (.iload_n 2, 1) := by decide +kernel
theorem dX8_lands_63 : decode cX8_lands 63 = .ok (.bipush 6, 2) := by decide +kernel
theorem dX8_lands_65 : decode cX8_lands 65 = .ok (.if_icmp .eq 11, 3) := by decide +kernel
theorem dX8_lands_68 : decode cX8_lands 68 = .ok (.aload_n 0, 1) := by decide +kernel
theorem dX8_lands_69 : decode cX8_lands 69 = .ok (.getfield 91, 3) := by decide +kernel
theorem dX8_lands_72 : decode cX8_lands 72 = .ok (.iload_n 3, 1) := by decide +kernel
theorem dX8_lands_73 : decode cX8_lands 73 = .ok (.if_icmp .ne 13, 3) := by decide +kernel
theorem dX8_lands_76 : decode cX8_lands 76 = .ok (.aload_n 0, 1) := by decide +kernel
theorem dX8_lands_77 : decode cX8_lands 77 = .ok (.getfield 13, 3) := by decide +kernel
theorem dX8_lands_80 : decode cX8_lands 80 = .ok (.iload 5, 2) := by decide +kernel
theorem dX8_lands_82 : decode cX8_lands 82 = .ok (.iaload, 1) := by decide +kernel
theorem dX8_lands_83 : decode cX8_lands 83 = .ok (.goto 4, 3) := by decide +kernel
theorem dX8_lands_86 : decode cX8_lands 86 = .ok (.iconst 0, 1) := by decide +kernel
theorem dX8_lands_87 : decode cX8_lands 87 = .ok (.iadd, 1) := by decide +kernel
theorem dX8_lands_88 : decode cX8_lands 88 = .ok (.istore 4, 2) := by decide +kernel
theorem dX8_lands_90 : decode cX8_lands 90 = .ok (.iinc 5 1, 3) := by decide +kernel
theorem dX8_lands_93 : decode cX8_lands 93 = .ok (.goto (-60), 3) := by decide +kernel
theorem dX8_lands_96 : decode cX8_lands 96 = .ok (.iload 4, 2) := by decide +kernel
theorem dX8_lands_98 : decode cX8_lands 98 = .ok (.ireturn, 1) := by decide +kernel
set_option maxRecDepth 20000 in
theorem ggX8_meanOf_X8_landsBy : GoodIn wsX8_meanOf wsX8_landsBy := goodIn_r _ [8, 2, 3, 14, 15, 16, 17, 18, 19, 20, 21, 22, 23, 24, 25, 26, 27, 28, 29, 30, 31, 32, 33, 34, 35, 36, 37, 38, 39, 40, 41, 42] (by decide +kernel) (by decide +kernel)
set_option maxRecDepth 20000 in
theorem gX8_meanOf_X8_landsBy : GoodIn wsX8_meanOf (wsV RX8 97 RX8 yX8_landsBy wsX8_landsBy) := goodIn_app (goodIn_of _ (by decide +kernel)) ggX8_meanOf_X8_landsBy
set_option maxRecDepth 20000 in
theorem ggX8_meanOf_X8_counts : GoodIn wsX8_meanOf wsX8_counts := goodIn_r _ [12, 13, 14, 15, 16, 17, 18, 19, 20, 21, 22, 23, 24, 25, 26, 27, 28, 29, 30, 31, 32, 33, 34, 35, 36, 37, 38, 39, 40, 41, 42] (by decide +kernel) (by decide +kernel)
set_option maxRecDepth 20000 in
theorem gX8_meanOf_X8_counts : GoodIn wsX8_meanOf (wsV RX8 84 RX8 yX8_counts wsX8_counts) := goodIn_app (goodIn_of _ (by decide +kernel)) ggX8_meanOf_X8_counts
theorem dX8_meanOf_0 : decode cX8_meanOf 0 = .ok (.iconst 0, 1) := by decide +kernel
theorem dX8_meanOf_1 : decode cX8_meanOf 1 = .ok (.istore_n 2, 1) := by decide +kernel
theorem dX8_meanOf_2 : decode cX8_meanOf 2 = .ok (.iconst 0, 1) := by decide +kernel
theorem dX8_meanOf_3 : decode cX8_meanOf 3 = .ok (.istore_n 3, 1) := by decide +kernel
theorem dX8_meanOf_4 : decode cX8_meanOf 4 = .ok (.iload_n 3, 1) := by decide +kernel
theorem dX8_meanOf_5 : decode cX8_meanOf 5 = .ok (.bipush 25, 2) := by decide +kernel
theorem dX8_meanOf_7 : decode cX8_meanOf 7 = .ok (.if_icmp .ge 37, 3) := by decide +kernel
theorem dX8_meanOf_10 : decode cX8_meanOf 10 = .ok (.aload_n 0, 1) := by decide +kernel
theorem dX8_meanOf_11 : decode cX8_meanOf 11 = .ok (.iload_n 1, 1) := by decide +kernel
theorem dX8_meanOf_12 : decode cX8_meanOf 12 = .ok (.iload_n 3, 1) := by decide +kernel
theorem dX8_meanOf_13 : decode cX8_meanOf 13 = .ok (.invokevirtual 97, 3) := by decide +kernel
theorem dX8_meanOf_16 : decode cX8_meanOf 16 = .ok (.iload_n 2, 1) := by decide +kernel
theorem dX8_meanOf_17 : decode cX8_meanOf 17 = .ok (.aload_n 0, 1) := by decide +kernel
theorem dX8_meanOf_18 : decode cX8_meanOf 18 = .ok (.getfield 13, 3) := by decide +kernel
theorem dX8_meanOf_21 : decode cX8_meanOf 21 = .ok (.iload_n 3, 1) := by decide +kernel
theorem dX8_meanOf_22 : decode cX8_meanOf 22 = .ok (.iaload, 1) := by decide +kernel
theorem dX8_meanOf_23 : decode cX8_meanOf 23 = .ok (.aload_n 0, 1) := by decide +kernel
theorem dX8_meanOf_24 : decode cX8_meanOf 24 = .ok (.aload_n 0, 1) := by decide +kernel
theorem dX8_meanOf_25 : decode cX8_meanOf 25 = .ok (.getfield 88, 3) := by decide +kernel
theorem dX8_meanOf_28 : decode cX8_meanOf 28 = .ok (.aload_n 0, 1) := by decide +kernel
theorem dX8_meanOf_29 : decode cX8_meanOf 29 = .ok (.getfield 91, 3) := by decide +kernel
theorem dX8_meanOf_32 : decode cX8_meanOf 32 = .ok (.invokevirtual 84, 3) := by decide +kernel
theorem dX8_meanOf_35 : decode cX8_meanOf 35 = .ok (.imul, 1) := by decide +kernel
theorem dX8_meanOf_36 : decode cX8_meanOf 36 = .ok (.iadd, 1) := by decide +kernel
theorem dX8_meanOf_37 : decode cX8_meanOf 37 = .ok (.istore_n 2, 1) := by decide +kernel
theorem dX8_meanOf_38 : decode cX8_meanOf 38 = .ok (.iinc 3 1, 3) := by decide +kernel
theorem dX8_meanOf_41 : decode cX8_meanOf 41 = .ok (.goto (-37), 3) := by decide +kernel
theorem dX8_meanOf_44 : decode cX8_meanOf 44 = .ok (.iload_n 2, 1) := by decide +kernel
theorem dX8_meanOf_45 : decode cX8_meanOf 45 = .ok (.ireturn, 1) := by decide +kernel
set_option maxRecDepth 20000 in
theorem ggX8_mean_X8_isAim : GoodIn wsX8_mean wsX8_isAim := goodIn_r _ [4, 5, 6, 3, 7] (by decide +kernel) (by decide +kernel)
set_option maxRecDepth 20000 in
theorem gX8_mean_X8_isAim : GoodIn wsX8_mean (va_wsS RX8 94 yX8_isAim wsX8_isAim) := goodIn_app (goodIn_of _ (by decide +kernel)) ggX8_mean_X8_isAim
set_option maxRecDepth 20000 in
theorem ggX8_mean_X8_meanOf : GoodIn wsX8_mean wsX8_meanOf := goodIn_r _ [11, 12, 13, 14, 15, 16, 17, 3, 18, 19, 20, 21, 22, 23, 24, 25, 26, 27, 28, 29, 30, 31, 32, 33, 34, 35, 36, 37, 38, 39, 40, 41, 42, 43, 44, 45, 46, 47, 48, 49, 50, 51, 52] (by decide +kernel) (by decide +kernel)
set_option maxRecDepth 20000 in
theorem gX8_mean_X8_meanOf : GoodIn wsX8_mean (wsV RX8 100 RX8 yX8_meanOf wsX8_meanOf) := goodIn_app (goodIn_of _ (by decide +kernel)) ggX8_mean_X8_meanOf
theorem dX8_mean_0 : decode cX8_mean 0 = .ok (.iload_n 1, 1) := by decide +kernel
theorem dX8_mean_1 : decode cX8_mean 1 = .ok (.invokestatic 94, 3) := by decide +kernel
theorem dX8_mean_4 : decode cX8_mean 4 = .ok (.ifCond .eq 11, 3) := by decide +kernel
theorem dX8_mean_7 : decode cX8_mean 7 = .ok (.aload_n 0, 1) := by decide +kernel
theorem dX8_mean_8 : decode cX8_mean 8 = .ok (.iload_n 1, 1) := by decide +kernel
theorem dX8_mean_9 : decode cX8_mean 9 = .ok (.invokevirtual 100, 3) := by decide +kernel
theorem dX8_mean_12 : decode cX8_mean 12 = .ok (.goto 5, 3) := by decide +kernel
theorem dX8_mean_15 : decode cX8_mean 15 = .ok (.bipush (-2), 2) := by decide +kernel
theorem dX8_mean_17 : decode cX8_mean 17 = .ok (.ireturn, 1) := by decide +kernel
set_option maxRecDepth 20000 in
theorem ggX8_best_X8_meanOf : GoodIn wsX8_best wsX8_meanOf := goodIn_r _ [5, 6, 7, 8, 9, 10, 11, 4, 12, 13, 14, 15, 16, 17, 18, 19, 20, 21, 22, 23, 24, 25, 26, 27, 28, 29, 30, 31, 32, 33, 34, 35, 36, 37, 38, 39, 40, 41, 42, 43, 44, 45, 46] (by decide +kernel) (by decide +kernel)
set_option maxRecDepth 20000 in
theorem gX8_best_X8_meanOf : GoodIn wsX8_best (wsV RX8 100 RX8 yX8_meanOf wsX8_meanOf) := goodIn_app (goodIn_of _ (by decide +kernel)) ggX8_best_X8_meanOf
theorem dX8_best_0 : decode cX8_best 0 = .ok (.iconst 0, 1) := by decide +kernel
theorem dX8_best_1 : decode cX8_best 1 = .ok (.istore_n 1, 1) := by decide +kernel
theorem dX8_best_2 : decode cX8_best 2 = .ok (.iconst 1, 1) := by decide +kernel
theorem dX8_best_3 : decode cX8_best 3 = .ok (.istore_n 2, 1) := by decide +kernel
theorem dX8_best_4 : decode cX8_best 4 = .ok (.iload_n 2, 1) := by decide +kernel
theorem dX8_best_5 : decode cX8_best 5 = .ok (.bipush 120, 2) := by decide +kernel
theorem dX8_best_7 : decode cX8_best 7 = .ok (.if_icmp .ge 28, 3) := by decide +kernel
theorem dX8_best_10 : decode cX8_best 10 = .ok (.aload_n 0, 1) := by decide +kernel
theorem dX8_best_11 : decode cX8_best 11 = .ok (.iload_n 2, 1) := by decide +kernel
theorem dX8_best_12 : decode cX8_best 12 = .ok (.invokevirtual 100, 3) := by decide +kernel
theorem dX8_best_15 : decode cX8_best 15 = .ok (.aload_n 0, 1) := by decide +kernel
theorem dX8_best_16 : decode cX8_best 16 = .ok (.iload_n 1, 1) := by decide +kernel
theorem dX8_best_17 : decode cX8_best 17 = .ok (.invokevirtual 100, 3) := by decide +kernel
theorem dX8_best_20 : decode cX8_best 20 = .ok (.if_icmp .le 7, 3) := by decide +kernel
theorem dX8_best_23 : decode cX8_best 23 = .ok (.iload_n 2, 1) := by decide +kernel
theorem dX8_best_24 : decode cX8_best 24 = .ok (.goto 4, 3) := by decide +kernel
theorem dX8_best_27 : decode cX8_best 27 = .ok (.iload_n 1, 1) := by decide +kernel
theorem dX8_best_28 : decode cX8_best 28 = .ok (.istore_n 1, 1) := by decide +kernel
theorem dX8_best_29 : decode cX8_best 29 = .ok (.iinc 2 1, 3) := by decide +kernel
theorem dX8_best_32 : decode cX8_best 32 = .ok (.goto (-28), 3) := by decide +kernel
theorem dX8_best_35 : decode cX8_best 35 = .ok (.iload_n 1, 1) := by decide +kernel
theorem dX8_best_36 : decode cX8_best 36 = .ok (.ireturn, 1) := by decide +kernel
set_option maxRecDepth 20000 in
theorem ggX8_leaves_X8_landsBy : GoodIn wsX8_leaves wsX8_landsBy := goodIn_r _ [8, 1, 2, 14, 15, 16, 17, 18, 19, 20, 21, 22, 23, 24, 25, 26, 27, 28, 29, 30, 31, 32, 33, 34, 35, 36, 37, 38, 39, 40, 41, 42] (by decide +kernel) (by decide +kernel)
set_option maxRecDepth 20000 in
theorem gX8_leaves_X8_landsBy : GoodIn wsX8_leaves (wsV RX8 97 RX8 yX8_landsBy wsX8_landsBy) := goodIn_app (goodIn_of _ (by decide +kernel)) ggX8_leaves_X8_landsBy
set_option maxRecDepth 20000 in
theorem ggX8_leaves_X8_counts : GoodIn wsX8_leaves wsX8_counts := goodIn_r _ [12, 13, 14, 15, 16, 17, 18, 19, 20, 21, 22, 23, 24, 25, 26, 27, 28, 29, 30, 31, 32, 33, 34, 35, 36, 37, 38, 39, 40, 41, 42] (by decide +kernel) (by decide +kernel)
set_option maxRecDepth 20000 in
theorem gX8_leaves_X8_counts : GoodIn wsX8_leaves (wsV RX8 84 RX8 yX8_counts wsX8_counts) := goodIn_app (goodIn_of _ (by decide +kernel)) ggX8_leaves_X8_counts
theorem dX8_leaves_0 : decode cX8_leaves 0 = .ok (.aload_n 0, 1) := by decide +kernel
theorem dX8_leaves_1 : decode cX8_leaves 1 = .ok (.iload_n 2, 1) := by decide +kernel
theorem dX8_leaves_2 : decode cX8_leaves 2 = .ok (.iload_n 3, 1) := by decide +kernel
theorem dX8_leaves_3 : decode cX8_leaves 3 = .ok (.invokevirtual 97, 3) := by decide +kernel
theorem dX8_leaves_6 : decode cX8_leaves 6 = .ok (.aload_n 0, 1) := by decide +kernel
theorem dX8_leaves_7 : decode cX8_leaves 7 = .ok (.aload_n 0, 1) := by decide +kernel
theorem dX8_leaves_8 : decode cX8_leaves 8 = .ok (.getfield 88, 3) := by decide +kernel
theorem dX8_leaves_11 : decode cX8_leaves 11 = .ok (.aload_n 0, 1) := by decide +kernel
theorem dX8_leaves_12 : decode cX8_leaves 12 = .ok (.getfield 91, 3) := by decide +kernel
theorem dX8_leaves_15 : decode cX8_leaves 15 = .ok (.invokevirtual 84, 3) := by decide +kernel
theorem dX8_leaves_18 : decode cX8_leaves 18 = .ok (.istore 4, 2) := by decide +kernel
theorem dX8_leaves_20 : decode cX8_leaves 20 = .ok (.aload_n 0, 1) := by decide +kernel
theorem dX8_leaves_21 : decode cX8_leaves 21 = .ok (.getfield 88, 3) := by decide +kernel
theorem dX8_leaves_24 : decode cX8_leaves 24 = .ok (.ifCond .eq 11, 3) := by decide +kernel
theorem dX8_leaves_27 : decode cX8_leaves 27 = .ok (.aload_n 0, 1) := by decide +kernel
theorem dX8_leaves_28 : decode cX8_leaves 28 = .ok (.getfield 88, 3) := by decide +kernel
theorem dX8_leaves_31 : decode cX8_leaves 31 = .ok (.iconst 5, 1) := by decide +kernel
theorem dX8_leaves_32 : decode cX8_leaves 32 = .ok (.if_icmp .ne 7, 3) := by decide +kernel
theorem dX8_leaves_35 : decode cX8_leaves 35 = .ok (.iconst 1, 1) := by decide +kernel
theorem dX8_leaves_36 : decode cX8_leaves 36 = .ok (.goto 4, 3) := by decide +kernel
theorem dX8_leaves_39 : decode cX8_leaves 39 = .ok (.iconst 0, 1) := by decide +kernel
theorem dX8_leaves_40 : decode cX8_leaves 40 = .ok (.istore 5, 2) := by decide +kernel
theorem dX8_leaves_42 : decode cX8_leaves 42 = .ok (.iload 4, 2) := by decide +kernel
theorem dX8_leaves_44 : decode cX8_leaves 44 = .ok (.iload_n 1, 1) := by decide +kernel
theorem dX8_leaves_45 : decode cX8_leaves 45 = .ok (.if_icmp .ne 17, 3) := by decide +kernel
theorem dX8_leaves_48 : decode cX8_leaves 48 = .ok (.aload_n 0, 1) := by decide +kernel
theorem dX8_leaves_49 : decode cX8_leaves 49 = .ok (.getfield 20, 3) := by decide +kernel
theorem dX8_leaves_52 : decode cX8_leaves 52 = .ok (.ifCond .eq 8, 3) := by decide +kernel
theorem dX8_leaves_55 : decode cX8_leaves 55 = .ok (.iload 5, 2) := by decide +kernel
theorem dX8_leaves_57 : decode cX8_leaves 57 = .ok (.ifCond .eq 5, 3) := by decide +kernel
theorem dX8_leaves_60 : decode cX8_leaves 60 = .ok (.iconst 0, 1) := by decide +kernel
theorem dX8_leaves_61 : decode cX8_leaves 61 = .ok (.ireturn, 1) := by decide +kernel
theorem dX8_leaves_62 : decode cX8_leaves 62 = .ok (.iload 4, 2) := by decide +kernel
theorem dX8_leaves_64 : decode cX8_leaves 64 = .ok (.iload_n 1, 1) := by decide +kernel
theorem dX8_leaves_65 : decode cX8_leaves 65 = .ok (.if_icmp .gt 18, 3) := by decide +kernel
theorem dX8_leaves_68 : decode cX8_leaves 68 = .ok (.aload_n 0, 1) := by decide +kernel
theorem dX8_leaves_69 : decode cX8_leaves 69 = .ok (.getfield 20, 3) := by decide +kernel
theorem dX8_leaves_72 : decode cX8_leaves 72 = .ok (.ifCond .eq 15, 3) := by decide +kernel
theorem dX8_leaves_75 : decode cX8_leaves 75 = .ok (.iload_n 1, 1) := by decide +kernel
theorem dX8_leaves_76 : decode cX8_leaves 76 = .ok (.iload 4, 2) := by decide +kernel
theorem dX8_leaves_78 : decode cX8_leaves 78 = .ok (.isub, 1) := by decide +kernel
theorem dX8_leaves_79 : decode cX8_leaves 79 = .ok (.iconst 2, 1) := by decide +kernel
theorem dX8_leaves_80 : decode cX8_leaves 80 = .ok (.if_icmp .ge 7, 3) := by decide +kernel
theorem dX8_leaves_83 : decode cX8_leaves 83 = .ok (.iconst (-1), 1) := by decide +kernel
theorem dX8_leaves_84 : decode cX8_leaves 84 = .ok (.goto 7, 3) := by decide +kernel
theorem dX8_leaves_87 : decode cX8_leaves 87 = .ok (.iload_n 1, 1) := by decide +kernel
theorem dX8_leaves_88 : decode cX8_leaves 88 = .ok (.iload 4, 2) := by decide +kernel
theorem dX8_leaves_90 : decode cX8_leaves 90 = .ok (.isub, 1) := by decide +kernel
theorem dX8_leaves_91 : decode cX8_leaves 91 = .ok (.ireturn, 1) := by decide +kernel
set_option maxRecDepth 20000 in
theorem ggX8_waysFor_X8_leaves : GoodIn wsX8_waysFor wsX8_leaves := goodIn_r _ [8, 9, 10, 11, 12, 13, 14, 7, 15, 16, 17, 18, 19, 20, 21, 22, 23, 24, 25, 26, 27, 28, 29, 30, 31, 32, 33, 34, 35, 36, 37, 38, 39, 40, 41, 42, 43, 44, 45, 46, 47, 48, 49] (by decide +kernel) (by decide +kernel)
set_option maxRecDepth 20000 in
theorem gX8_waysFor_X8_leaves : GoodIn wsX8_waysFor (wsV RX8 104 RX8 yX8_leaves wsX8_leaves) := goodIn_app (goodIn_of _ (by decide +kernel)) ggX8_waysFor_X8_leaves
theorem dX8_waysFor_0 : decode cX8_waysFor 0 = .ok (.sipush 302, 3) := by decide +kernel
theorem dX8_waysFor_3 : decode cX8_waysFor 3 = .ok (.iload_n 2, 1) := by decide +kernel
theorem dX8_waysFor_4 : decode cX8_waysFor 4 = .ok (.imul, 1) := by decide +kernel
theorem dX8_waysFor_5 : decode cX8_waysFor 5 = .ok (.iload_n 1, 1) := by decide +kernel
theorem dX8_waysFor_6 : decode cX8_waysFor 6 = .ok (.iadd, 1) := by decide +kernel
theorem dX8_waysFor_7 : decode cX8_waysFor 7 = .ok (.istore 5, 2) := by decide +kernel
theorem dX8_waysFor_9 : decode cX8_waysFor 9 = .ok (.aload_n 0, 1) := by decide +kernel
theorem dX8_waysFor_10 : decode cX8_waysFor 10 = .ok (.getfield 24, 3) := by decide +kernel
theorem dX8_waysFor_13 : decode cX8_waysFor 13 = .ok (.iload 5, 2) := by decide +kernel
theorem dX8_waysFor_15 : decode cX8_waysFor 15 = .ok (.lconst 0, 1) := by decide +kernel
theorem dX8_waysFor_16 : decode cX8_waysFor 16 = .ok (.lastore, 1) := by decide +kernel
theorem dX8_waysFor_17 : decode cX8_waysFor 17 = .ok (.aload_n 0, 1) := by decide +kernel
theorem dX8_waysFor_18 : decode cX8_waysFor 18 = .ok (.getfield 28, 3) := by decide +kernel
theorem dX8_waysFor_21 : decode cX8_waysFor 21 = .ok (.iload 5, 2) := by decide +kernel
theorem dX8_waysFor_23 : decode cX8_waysFor 23 = .ok (.iconst (-1), 1) := by decide +kernel
theorem dX8_waysFor_24 : decode cX8_waysFor 24 = .ok (.iastore, 1) := by decide +kernel
theorem dX8_waysFor_25 : decode cX8_waysFor 25 = .ok (.iconst 0, 1) := by decide +kernel
theorem dX8_waysFor_26 : decode cX8_waysFor 26 = .ok (.istore 6, 2) := by decide +kernel
theorem dX8_waysFor_28 : decode cX8_waysFor 28 = .ok (.iload 6, 2) := by decide +kernel
theorem dX8_waysFor_30 : decode cX8_waysFor 30 = .ok (.bipush 120, 2) := by decide +kernel
theorem dX8_waysFor_32 : decode cX8_waysFor 32 = .ok (.if_icmp .ge 128, 3) := by decide +kernel
theorem dX8_waysFor_35 : decode cX8_waysFor 35 = .ok (.lconst 0, 1) := by decide +kernel
theorem dX8_waysFor_36 : decode cX8_waysFor 36 = .ok (.lstore 7, 2) := by decide +kernel
theorem dX8_waysFor_38 : decode cX8_waysFor 38 = .ok (.iconst 0, 1) := by decide +kernel
theorem dX8_waysFor_39 : decode cX8_waysFor 39 = .ok (.istore 9, 2) := by decide +kernel
theorem dX8_waysFor_41 : decode cX8_waysFor 41 = .ok (.iload 9, 2) := by decide +kernel
theorem dX8_waysFor_43 : decode cX8_waysFor 43 = .ok (.bipush 25, 2) := by decide +kernel
theorem dX8_waysFor_45 : decode cX8_waysFor 45 = .ok (.if_icmp .ge 78, 3) := by decide +kernel
theorem dX8_waysFor_48 : decode cX8_waysFor 48 = .ok (.aload_n 0, 1) := by decide +kernel
theorem dX8_waysFor_49 : decode cX8_waysFor 49 = .ok (.getfield 13, 3) := by decide +kernel
theorem dX8_waysFor_52 : decode cX8_waysFor 52 = .ok (.iload 9, 2) := by decide +kernel
theorem dX8_waysFor_54 : decode cX8_waysFor 54 = .ok (.iaload, 1) := by decide +kernel
theorem dX8_waysFor_55 : decode cX8_waysFor 55 = .ok (.ifCond .le 62, 3) := by decide +kernel
theorem dX8_waysFor_58 : decode cX8_waysFor 58 = .ok (.aload_n 0, 1) := by decide +kernel
