theorem dL_cell_0 : decode cL_cell 0 = .ok (.iload_n 1, 1) := by decide +kernel
theorem dL_cell_1 : decode cL_cell 1 = .ok (.aload_n 0, 1) := by decide +kernel
theorem dL_cell_2 : decode cL_cell 2 = .ok (.arraylength, 1) := by decide +kernel
theorem dL_cell_3 : decode cL_cell 3 = .ok (.if_icmp .ge 9, 3) := by decide +kernel
theorem dL_cell_6 : decode cL_cell 6 = .ok (.aload_n 0, 1) := by decide +kernel
theorem dL_cell_7 : decode cL_cell 7 = .ok (.iload_n 1, 1) := by decide +kernel
theorem dL_cell_8 : decode cL_cell 8 = .ok (.iaload, 1) := by decide +kernel
theorem dL_cell_9 : decode cL_cell 9 = .ok (.goto 15, 3) := by decide +kernel
theorem dL_cell_12 : decode cL_cell 12 = .ok (.sipush 7919, 3) := by decide +kernel
theorem dL_cell_15 : decode cL_cell 15 = .ok (.iload_n 1, 1) := by decide +kernel
theorem dL_cell_16 : decode cL_cell 16 = .ok (.iconst 3, 1) := by decide +kernel
theorem dL_cell_17 : decode cL_cell 17 = .ok (.iadd, 1) := by decide +kernel
theorem dL_cell_18 : decode cL_cell 18 = .ok (.imul, 1) := by decide +kernel
theorem dL_cell_19 : decode cL_cell 19 = .ok (.iload_n 1, 1) := by decide +kernel
theorem dL_cell_20 : decode cL_cell 20 = .ok (.bipush 11, 2) := by decide +kernel
theorem dL_cell_22 : decode cL_cell 22 = .ok (.iadd, 1) := by decide +kernel
theorem dL_cell_23 : decode cL_cell 23 = .ok (.imul, 1) := by decide +kernel
theorem dL_cell_24 : decode cL_cell 24 = .ok (.ireturn, 1) := by decide +kernel
theorem dL_low_0 : decode cL_low 0 = .ok (.iload_n 0, 1) := by decide +kernel
theorem dL_low_1 : decode cL_low 1 = .ok (.ldc 7, 2) := by decide +kernel
theorem dL_low_3 : decode cL_low 3 = .ok (.iand, 1) := by decide +kernel
theorem dL_low_4 : decode cL_low 4 = .ok (.iload_n 1, 1) := by decide +kernel
theorem dL_low_5 : decode cL_low 5 = .ok (.irem, 1) := by decide +kernel
theorem dL_low_6 : decode cL_low 6 = .ok (.ireturn, 1) := by decide +kernel
set_option maxRecDepth 20000 in
theorem ggL_tale_X4_count : GoodIn wsL_tale wsX4_count := goodIn_r _ [12, 13, 14, 15, 16, 17, 18, 19, 20, 21, 22, 23, 24, 25, 26, 11, 27, 28, 29, 30, 31, 32, 33, 34, 35, 36, 37, 38, 39, 40, 41, 42, 43, 44, 45, 46, 47, 48, 49, 50, 51, 52, 53, 54, 55, 56, 57, 58, 59, 60, 61, 62, 63, 64, 65, 66, 67, 68, 69, 70, 71, 72, 73, 74, 75, 76, 77, 78, 128, 129, 130, 131, 132, 133, 134, 135, 136, 137, 138, 139, 140, 141, 142, 143, 144, 145, 146, 147, 148, 149, 150, 151, 152, 153, 154, 155, 156, 157, 158, 159] (by decide +kernel) (by decide +kernel)
set_option maxRecDepth 20000 in
theorem gL_tale_X4_count : GoodIn wsL_tale (wsV RL 12 RX4 yX4_count wsX4_count) := goodIn_app (goodIn_of _ (by decide +kernel)) ggL_tale_X4_count
set_option maxRecDepth 20000 in
theorem ggL_tale_X4_sleeper : GoodIn wsL_tale wsX4_sleeper := goodIn_r _ [82, 14, 13, 83, 84, 85, 86, 87, 88, 89, 90, 91, 92, 26, 11, 27, 25, 93, 94, 95, 96, 18, 97, 98, 99, 100, 64, 45, 65, 28, 29, 30, 31, 32, 33, 34, 35, 36, 37, 38, 39, 40, 41, 42, 43, 44, 46, 47, 48, 49, 50, 51, 52, 53, 54, 55, 56, 57, 58, 59, 60, 61, 62, 63, 66, 67, 68, 69, 70, 71, 72, 73, 101, 102, 103, 104, 105, 106, 107, 108, 109, 110, 111, 112, 128, 129, 130, 131, 132, 133, 134, 135, 136, 137, 138, 139, 140, 141, 142, 143, 144, 145, 146, 147, 148, 149, 150, 151, 152] (by decide +kernel) (by decide +kernel)
set_option maxRecDepth 20000 in
theorem gL_tale_X4_sleeper : GoodIn wsL_tale (wsV RL 20 RX4 yX4_sleeper wsX4_sleeper) := goodIn_app (goodIn_of _ (by decide +kernel)) ggL_tale_X4_sleeper
set_option maxRecDepth 20000 in
theorem ggL_tale_X4_job : GoodIn wsL_tale wsX4_job := goodIn_r _ [116, 13, 14, 17, 117, 25, 26, 11, 27, 118, 119, 120, 90, 121, 122, 128, 129, 130, 131, 132, 133, 134, 135, 136, 137, 138, 139, 140, 141, 142, 143, 144] (by decide +kernel) (by decide +kernel)
set_option maxRecDepth 20000 in
theorem gL_tale_X4_job : GoodIn wsL_tale (wsV RL 30 RX4 yX4_job wsX4_job) := goodIn_app (goodIn_of _ (by decide +kernel)) ggL_tale_X4_job
set_option maxRecDepth 20000 in
theorem ggL_tale_X4_account : GoodIn wsL_tale wsX4_account := goodIn_r _ [126, 13, 14, 127, 25, 26, 11, 27, 128, 129, 130, 131, 132, 133, 134, 135, 136, 137, 138, 139, 140, 141, 142, 143, 144] (by decide +kernel) (by decide +kernel)
set_option maxRecDepth 20000 in
theorem gL_tale_X4_account : GoodIn wsL_tale (wsV RL 35 RX4 yX4_account wsX4_account) := goodIn_app (goodIn_of _ (by decide +kernel)) ggL_tale_X4_account
theorem dL_tale_0 : decode cL_tale 0 = .ok (.ldc2_w 8, 3) := by decide +kernel
theorem dL_tale_3 : decode cL_tale 3 = .ok (.lstore_n 1, 1) := by decide +kernel
theorem dL_tale_4 : decode cL_tale 4 = .ok (.iconst 0, 1) := by decide +kernel
theorem dL_tale_5 : decode cL_tale 5 = .ok (.istore_n 3, 1) := by decide +kernel
theorem dL_tale_6 : decode cL_tale 6 = .ok (.iload_n 3, 1) := by decide +kernel
theorem dL_tale_7 : decode cL_tale 7 = .ok (.bipush 12, 2) := by decide +kernel
theorem dL_tale_9 : decode cL_tale 9 = .ok (.if_icmp .ge 22, 3) := by decide +kernel
theorem dL_tale_12 : decode cL_tale 12 = .ok (.lload_n 1, 1) := by decide +kernel
theorem dL_tale_13 : decode cL_tale 13 = .ok (.ldc2_w 10, 3) := by decide +kernel
theorem dL_tale_16 : decode cL_tale 16 = .ok (.lmul, 1) := by decide +kernel
theorem dL_tale_17 : decode cL_tale 17 = .ok (.aload_n 0, 1) := by decide +kernel
theorem dL_tale_18 : decode cL_tale 18 = .ok (.iload_n 3, 1) := by decide +kernel
theorem dL_tale_19 : decode cL_tale 19 = .ok (.invokevirtual 12, 3) := by decide +kernel
theorem dL_tale_22 : decode cL_tale 22 = .ok (.i2l, 1) := by decide +kernel
theorem dL_tale_23 : decode cL_tale 23 = .ok (.ladd, 1) := by decide +kernel
theorem dL_tale_24 : decode cL_tale 24 = .ok (.lstore_n 1, 1) := by decide +kernel
theorem dL_tale_25 : decode cL_tale 25 = .ok (.iinc 3 1, 3) := by decide +kernel
theorem dL_tale_28 : decode cL_tale 28 = .ok (.goto (-22), 3) := by decide +kernel
theorem dL_tale_31 : decode cL_tale 31 = .ok (.iconst 0, 1) := by decide +kernel
theorem dL_tale_32 : decode cL_tale 32 = .ok (.istore_n 3, 1) := by decide +kernel
theorem dL_tale_33 : decode cL_tale 33 = .ok (.iload_n 3, 1) := by decide +kernel
theorem dL_tale_34 : decode cL_tale 34 = .ok (.aload_n 0, 1) := by decide +kernel
theorem dL_tale_35 : decode cL_tale 35 = .ok (.iconst 0, 1) := by decide +kernel
theorem dL_tale_36 : decode cL_tale 36 = .ok (.invokevirtual 12, 3) := by decide +kernel
theorem dL_tale_39 : decode cL_tale 39 = .ok (.if_icmp .ge 61, 3) := by decide +kernel
theorem dL_tale_42 : decode cL_tale 42 = .ok (.lload_n 1, 1) := by decide +kernel
theorem dL_tale_43 : decode cL_tale 43 = .ok (.ldc2_w 18, 3) := by decide +kernel
theorem dL_tale_46 : decode cL_tale 46 = .ok (.lmul, 1) := by decide +kernel
theorem dL_tale_47 : decode cL_tale 47 = .ok (.aload_n 0, 1) := by decide +kernel
theorem dL_tale_48 : decode cL_tale 48 = .ok (.iload_n 3, 1) := by decide +kernel
theorem dL_tale_49 : decode cL_tale 49 = .ok (.iconst 0, 1) := by decide +kernel
theorem dL_tale_50 : decode cL_tale 50 = .ok (.invokevirtual 20, 3) := by decide +kernel
theorem dL_tale_53 : decode cL_tale 53 = .ok (.i2l, 1) := by decide +kernel
theorem dL_tale_54 : decode cL_tale 54 = .ok (.ladd, 1) := by decide +kernel
theorem dL_tale_55 : decode cL_tale 55 = .ok (.ldc2_w 8, 3) := by decide +kernel
theorem dL_tale_58 : decode cL_tale 58 = .ok (.aload_n 0, 1) := by decide +kernel
theorem dL_tale_59 : decode cL_tale 59 = .ok (.iload_n 3, 1) := by decide +kernel
theorem dL_tale_60 : decode cL_tale 60 = .ok (.iconst 1, 1) := by decide +kernel
theorem dL_tale_61 : decode cL_tale 61 = .ok (.invokevirtual 20, 3) := by decide +kernel
theorem dL_tale_64 : decode cL_tale 64 = .ok (.i2l, 1) := by decide +kernel
theorem dL_tale_65 : decode cL_tale 65 = .ok (.lmul, 1) := by decide +kernel
theorem dL_tale_66 : decode cL_tale 66 = .ok (.ladd, 1) := by decide +kernel
theorem dL_tale_67 : decode cL_tale 67 = .ok (.ldc2_w 24, 3) := by decide +kernel
theorem dL_tale_70 : decode cL_tale 70 = .ok (.aload_n 0, 1) := by decide +kernel
theorem dL_tale_71 : decode cL_tale 71 = .ok (.iload_n 3, 1) := by decide +kernel
theorem dL_tale_72 : decode cL_tale 72 = .ok (.bipush 8, 2) := by decide +kernel
theorem dL_tale_74 : decode cL_tale 74 = .ok (.invokevirtual 20, 3) := by decide +kernel
theorem dL_tale_77 : decode cL_tale 77 = .ok (.i2l, 1) := by decide +kernel
theorem dL_tale_78 : decode cL_tale 78 = .ok (.lmul, 1) := by decide +kernel
theorem dL_tale_79 : decode cL_tale 79 = .ok (.ladd, 1) := by decide +kernel
theorem dL_tale_80 : decode cL_tale 80 = .ok (.ldc2_w 26, 3) := by decide +kernel
theorem dL_tale_83 : decode cL_tale 83 = .ok (.aload_n 0, 1) := by decide +kernel
theorem dL_tale_84 : decode cL_tale 84 = .ok (.iload_n 3, 1) := by decide +kernel
theorem dL_tale_85 : decode cL_tale 85 = .ok (.bipush 9, 2) := by decide +kernel
theorem dL_tale_87 : decode cL_tale 87 = .ok (.invokevirtual 20, 3) := by decide +kernel
theorem dL_tale_90 : decode cL_tale 90 = .ok (.i2l, 1) := by decide +kernel
theorem dL_tale_91 : decode cL_tale 91 = .ok (.lmul, 1) := by decide +kernel
theorem dL_tale_92 : decode cL_tale 92 = .ok (.ladd, 1) := by decide +kernel
theorem dL_tale_93 : decode cL_tale 93 = .ok (.lstore_n 1, 1) := by decide +kernel
theorem dL_tale_94 : decode cL_tale 94 = .ok (.iinc 3 1, 3) := by decide +kernel
theorem dL_tale_97 : decode cL_tale 97 = .ok (.goto (-64), 3) := by decide +kernel
theorem dL_tale_100 : decode cL_tale 100 = .ok (.iconst 0, 1) := by decide +kernel
theorem dL_tale_101 : decode cL_tale 101 = .ok (.istore_n 3, 1) := by decide +kernel
theorem dL_tale_102 : decode cL_tale 102 = .ok (.iload_n 3, 1) := by decide +kernel
theorem dL_tale_103 : decode cL_tale 103 = .ok (.bipush 6, 2) := by decide +kernel
theorem dL_tale_105 : decode cL_tale 105 = .ok (.if_icmp .ge 59, 3) := by decide +kernel
theorem dL_tale_108 : decode cL_tale 108 = .ok (.lload_n 1, 1) := by decide +kernel
theorem dL_tale_109 : decode cL_tale 109 = .ok (.ldc2_w 28, 3) := by decide +kernel
theorem dL_tale_112 : decode cL_tale 112 = .ok (.lmul, 1) := by decide +kernel
theorem dL_tale_113 : decode cL_tale 113 = .ok (.aload_n 0, 1) := by decide +kernel
theorem dL_tale_114 : decode cL_tale 114 = .ok (.iload_n 3, 1) := by decide +kernel
theorem dL_tale_115 : decode cL_tale 115 = .ok (.iconst 0, 1) := by decide +kernel
theorem dL_tale_116 : decode cL_tale 116 = .ok (.invokevirtual 30, 3) := by decide +kernel
theorem dL_tale_119 : decode cL_tale 119 = .ok (.i2l, 1) := by decide +kernel
theorem dL_tale_120 : decode cL_tale 120 = .ok (.ladd, 1) := by decide +kernel
theorem dL_tale_121 : decode cL_tale 121 = .ok (.ldc2_w 8, 3) := by decide +kernel
theorem dL_tale_124 : decode cL_tale 124 = .ok (.aload_n 0, 1) := by decide +kernel
theorem dL_tale_125 : decode cL_tale 125 = .ok (.iload_n 3, 1) := by decide +kernel
theorem dL_tale_126 : decode cL_tale 126 = .ok (.iconst 1, 1) := by decide +kernel
theorem dL_tale_127 : decode cL_tale 127 = .ok (.invokevirtual 30, 3) := by decide +kernel
theorem dL_tale_130 : decode cL_tale 130 = .ok (.i2l, 1) := by decide +kernel
theorem dL_tale_131 : decode cL_tale 131 = .ok (.lmul, 1) := by decide +kernel
theorem dL_tale_132 : decode cL_tale 132 = .ok (.ladd, 1) := by decide +kernel
theorem dL_tale_133 : decode cL_tale 133 = .ok (.ldc2_w 24, 3) := by decide +kernel
theorem dL_tale_136 : decode cL_tale 136 = .ok (.aload_n 0, 1) := by decide +kernel
theorem dL_tale_137 : decode cL_tale 137 = .ok (.iload_n 3, 1) := by decide +kernel
theorem dL_tale_138 : decode cL_tale 138 = .ok (.iconst 2, 1) := by decide +kernel
theorem dL_tale_139 : decode cL_tale 139 = .ok (.invokevirtual 30, 3) := by decide +kernel
theorem dL_tale_142 : decode cL_tale 142 = .ok (.i2l, 1) := by decide +kernel
theorem dL_tale_143 : decode cL_tale 143 = .ok (.lmul, 1) := by decide +kernel
theorem dL_tale_144 : decode cL_tale 144 = .ok (.ladd, 1) := by decide +kernel
theorem dL_tale_145 : decode cL_tale 145 = .ok (.ldc2_w 26, 3) := by decide +kernel
theorem dL_tale_148 : decode cL_tale 148 = .ok (.aload_n 0, 1) := by decide +kernel
theorem dL_tale_149 : decode cL_tale 149 = .ok (.iload_n 3, 1) := by decide +kernel
theorem dL_tale_150 : decode cL_tale 150 = .ok (.iconst 3, 1) := by decide +kernel
theorem dL_tale_151 : decode cL_tale 151 = .ok (.invokevirtual 30, 3) := by decide +kernel
theorem dL_tale_154 : decode cL_tale 154 = .ok (.i2l, 1) := by decide +kernel
theorem dL_tale_155 : decode cL_tale 155 = .ok (.lmul, 1) := by decide +kernel
theorem dL_tale_156 : decode cL_tale 156 = .ok (.ladd, 1) := by decide +kernel
theorem dL_tale_157 : decode cL_tale 157 = .ok (.lstore_n 1, 1) := by decide +kernel
theorem dL_tale_158 : decode cL_tale 158 = .ok (.iinc 3 1, 3) := by decide +kernel
theorem dL_tale_161 : decode cL_tale 161 = .ok (.goto (-59), 3) := by decide +kernel
theorem dL_tale_164 : decode cL_tale 164 = .ok (.iconst 0, 1) := by decide +kernel
theorem dL_tale_165 : decode cL_tale 165 = .ok (.istore_n 3, 1) := by decide +kernel
theorem dL_tale_166 : decode cL_tale 166 = .ok (.iload_n 3, 1) := by decide +kernel
theorem dL_tale_167 : decode cL_tale 167 = .ok (.bipush 7, 2) := by decide +kernel
theorem dL_tale_169 : decode cL_tale 169 = .ok (.if_icmp .ge 22, 3) := by decide +kernel
theorem dL_tale_172 : decode cL_tale 172 = .ok (.lload_n 1, 1) := by decide +kernel
theorem dL_tale_173 : decode cL_tale 173 = .ok (.ldc2_w 33, 3) := by decide +kernel
theorem dL_tale_176 : decode cL_tale 176 = .ok (.lmul, 1) := by decide +kernel
theorem dL_tale_177 : decode cL_tale 177 = .ok (.aload_n 0, 1) := by decide +kernel
theorem dL_tale_178 : decode cL_tale 178 = .ok (.iload_n 3, 1) := by decide +kernel
theorem dL_tale_179 : decode cL_tale 179 = .ok (.invokevirtual 35, 3) := by decide +kernel
theorem dL_tale_182 : decode cL_tale 182 = .ok (.i2l, 1) := by decide +kernel
theorem dL_tale_183 : decode cL_tale 183 = .ok (.ladd, 1) := by decide +kernel
theorem dL_tale_184 : decode cL_tale 184 = .ok (.lstore_n 1, 1) := by decide +kernel
theorem dL_tale_185 : decode cL_tale 185 = .ok (.iinc 3 1, 3) := by decide +kernel
theorem dL_tale_188 : decode cL_tale 188 = .ok (.goto (-22), 3) := by decide +kernel
theorem dL_tale_191 : decode cL_tale 191 = .ok (.lload_n 1, 1) := by decide +kernel
theorem dL_tale_192 : decode cL_tale 192 = .ok (.lreturn, 1) := by decide +kernel
set_option maxRecDepth 20000 in
theorem ggL_does_X4_count : GoodIn wsL_does wsX4_count := goodIn_r _ [5, 6, 7, 8, 9, 10, 11, 12, 13, 14, 15, 16, 17, 18, 19, 4, 20, 21, 22, 23, 24, 25, 26, 27, 28, 29, 30, 31, 32, 33, 34, 35, 36, 37, 38, 39, 40, 41, 42, 43, 44, 45, 46, 47, 48, 49, 50, 51, 52, 53, 54, 55, 56, 57, 58, 59, 60, 61, 62, 63, 64, 65, 66, 67, 68, 69, 70, 71, 251, 252, 253, 254, 255, 256, 257, 258, 259, 260, 261, 262, 263, 264, 265, 266, 267, 268, 269, 270, 271, 272, 273, 274, 275, 276, 277, 278, 279, 280, 281, 282] (by decide +kernel) (by decide +kernel)
set_option maxRecDepth 20000 in
theorem gL_does_X4_count : GoodIn wsL_does (wsV RL 12 RX4 yX4_count wsX4_count) := goodIn_app (goodIn_of _ (by decide +kernel)) ggL_does_X4_count
set_option maxRecDepth 20000 in
theorem ggL_does_L_low : GoodIn wsL_does wsL_low := goodIn_r _ [75, 76] (by decide +kernel) (by decide +kernel)
set_option maxRecDepth 20000 in
theorem gL_does_L_low : GoodIn wsL_does (va_wsS RL 38 yL_low wsL_low) := goodIn_app (goodIn_of _ (by decide +kernel)) ggL_does_L_low
set_option maxRecDepth 20000 in
theorem ggL_does_X4_begin : GoodIn wsL_does wsX4_begin := goodIn_r _ [80, 6, 7, 9, 16, 18, 19, 4, 20, 81, 82, 83, 84, 85, 86, 87, 88, 89, 90, 91, 92, 93, 94, 95, 96, 97, 98, 99, 100, 101, 102, 103, 104, 105, 106, 107, 108, 109, 110, 111, 112, 113, 114, 251, 252, 253, 254, 255, 256, 257, 258, 259, 260, 261, 262, 263, 264, 265, 266, 267, 280, 281, 282] (by decide +kernel) (by decide +kernel)
set_option maxRecDepth 20000 in
theorem gL_does_X4_begin : GoodIn wsL_does (wsV RL 43 RX4 yX4_begin wsX4_begin) := goodIn_app (goodIn_of _ (by decide +kernel)) ggL_does_X4_begin
set_option maxRecDepth 20000 in
theorem ggL_does_X4_renew : GoodIn wsL_does wsX4_renew := goodIn_r _ [118, 6, 16, 7, 119, 120, 121, 122, 4, 123, 124, 125, 126, 92, 127, 94, 19, 20, 81, 82, 83, 84, 85, 86, 87, 88, 89, 90, 91, 93, 95, 96, 97, 98, 99, 100, 101, 102, 103, 104, 105, 106, 251, 252, 253, 254, 255, 256, 257, 258, 259, 260, 261, 262, 263, 264, 265, 266, 267, 280, 281, 282] (by decide +kernel) (by decide +kernel)
set_option maxRecDepth 20000 in
theorem gL_does_X4_renew : GoodIn wsL_does (wsV RL 46 RX4 yX4_renew wsX4_renew) := goodIn_app (goodIn_of _ (by decide +kernel)) ggL_does_X4_renew
set_option maxRecDepth 20000 in
theorem ggL_does_X4_setNumber : GoodIn wsL_does wsX4_setNumber := goodIn_r _ [131, 6, 7, 8, 16, 18, 19, 4, 20, 132, 133, 134, 135, 136, 137, 138, 139, 140, 141, 81, 82, 83, 84, 85, 86, 87, 88, 89, 90, 91, 92, 93, 94, 95, 96, 97, 98, 99, 100, 101, 102, 103, 104, 105, 106, 251, 252, 253, 254, 255, 256, 257, 258, 259, 260, 261, 262, 263, 264, 265, 266, 267, 280, 281, 282] (by decide +kernel) (by decide +kernel)
set_option maxRecDepth 20000 in
theorem gL_does_X4_setNumber : GoodIn wsL_does (wsV RL 49 RX4 yX4_setNumber wsX4_setNumber) := goodIn_app (goodIn_of _ (by decide +kernel)) ggL_does_X4_setNumber
set_option maxRecDepth 20000 in
theorem ggL_does_X4_setLevel : GoodIn wsL_does wsX4_setLevel := goodIn_r _ [145, 7, 6, 146, 16, 124, 125, 126, 92, 127, 94, 19, 4, 20, 147, 148, 149, 18, 81, 82, 83, 84, 85, 86, 87, 88, 89, 90, 91, 93, 95, 96, 97, 98, 99, 100, 101, 102, 103, 104, 105, 106, 150, 151, 152, 153, 251, 252, 253, 254, 255, 256, 257, 258, 259, 260, 261, 262, 263, 264, 265, 266, 267, 280, 281, 282] (by decide +kernel) (by decide +kernel)
set_option maxRecDepth 20000 in
theorem gL_does_X4_setLevel : GoodIn wsL_does (wsV RL 52 RX4 yX4_setLevel wsX4_setLevel) := goodIn_app (goodIn_of _ (by decide +kernel)) ggL_does_X4_setLevel
set_option maxRecDepth 20000 in
theorem ggL_does_X4_addJob : GoodIn wsL_does wsX4_addJob := goodIn_r _ [157, 6, 7, 10, 158, 16, 120, 121, 122, 4, 123, 124, 125, 126, 92, 127, 94, 19, 20, 147, 148, 149, 18, 81, 82, 83, 84, 85, 86, 87, 88, 89, 90, 91, 93, 95, 96, 97, 98, 99, 100, 101, 102, 103, 104, 105, 106, 159, 160, 161, 162, 251, 252, 253, 254, 255, 256, 257, 258, 259, 260, 261, 262, 263, 264, 265, 266, 267, 280, 281, 282] (by decide +kernel) (by decide +kernel)
set_option maxRecDepth 20000 in
theorem gL_does_X4_addJob : GoodIn wsL_does (wsV RL 55 RX4 yX4_addJob wsX4_addJob) := goodIn_app (goodIn_of _ (by decide +kernel)) ggL_does_X4_addJob
set_option maxRecDepth 20000 in
theorem ggL_does_X4_cancelJobs : GoodIn wsL_does wsX4_cancelJobs := goodIn_r _ [166, 7, 6, 16, 10, 124, 125, 126, 92, 127, 94, 19, 4, 20, 81, 82, 83, 84, 85, 86, 87, 88, 89, 90, 91, 93, 95, 96, 97, 98, 99, 100, 101, 102, 103, 104, 105, 106, 167, 168, 169, 170, 18, 171, 172, 173, 174, 251, 252, 253, 254, 255, 256, 257, 258, 259, 260, 261, 262, 263, 264, 265, 266, 267, 280, 281, 282] (by decide +kernel) (by decide +kernel)
set_option maxRecDepth 20000 in
theorem gL_does_X4_cancelJobs : GoodIn wsL_does (wsV RL 59 RX4 yX4_cancelJobs wsX4_cancelJobs) := goodIn_app (goodIn_of _ (by decide +kernel)) ggL_does_X4_cancelJobs
set_option maxRecDepth 20000 in
theorem ggL_does_X4_work : GoodIn wsL_does wsX4_work := goodIn_r _ [178, 6, 7, 10, 179, 16, 18, 19, 4, 20, 81, 82, 83, 84, 85, 86, 87, 88, 89, 90, 91, 92, 93, 94, 95, 96, 97, 98, 99, 100, 101, 102, 103, 104, 105, 106, 180, 181, 182, 183, 184, 168, 169, 170, 185, 186, 187, 188, 189, 190, 38, 191, 192, 193, 194, 195, 196, 197, 198, 199, 200, 201, 202, 203, 204, 205, 206, 172, 173, 174, 251, 252, 253, 254, 255, 256, 257, 258, 259, 260, 261, 262, 263, 264, 265, 266, 267, 280, 281, 282] (by decide +kernel) (by decide +kernel)
set_option maxRecDepth 20000 in
theorem gL_does_X4_work : GoodIn wsL_does (wsV RL 62 RX4 yX4_work wsX4_work) := goodIn_app (goodIn_of _ (by decide +kernel)) ggL_does_X4_work
set_option maxRecDepth 20000 in
theorem ggL_does_X4_back : GoodIn wsL_does wsX4_back := goodIn_r _ [210, 6, 71, 179, 16, 7, 211, 212, 18, 19, 4, 20, 81, 82, 83, 84, 85, 86, 87, 88, 89, 90, 91, 92, 93, 94, 95, 96, 97, 98, 99, 100, 101, 102, 103, 104, 105, 106, 213, 251, 252, 253, 254, 255, 256, 257, 258, 259, 260, 261, 262, 263, 264, 265, 266, 267, 280, 281, 282] (by decide +kernel) (by decide +kernel)
set_option maxRecDepth 20000 in
theorem gL_does_X4_back : GoodIn wsL_does (wsV RL 65 RX4 yX4_back wsX4_back) := goodIn_app (goodIn_of _ (by decide +kernel)) ggL_does_X4_back
set_option maxRecDepth 20000 in
theorem ggL_does_X4_trains : GoodIn wsL_does wsX4_trains := goodIn_r _ [217, 6, 11, 13, 179, 16, 7, 218, 219, 4, 220, 18, 19, 20, 21, 22, 23, 24, 25, 26, 27, 28, 29, 30, 31, 32, 33, 34, 35, 36, 37, 38, 39, 40, 41, 42, 43, 44, 45, 46, 47, 48, 49, 50, 51, 52, 53, 54, 55, 56, 57, 58, 59, 60, 61, 62, 63, 64, 65, 66, 81, 82, 83, 84, 85, 86, 87, 88, 89, 90, 91, 92, 93, 94, 95, 96, 97, 98, 99, 100, 101, 102, 103, 104, 105, 106, 221, 222, 223, 224, 9, 225, 212, 226, 227, 228, 229, 230, 231, 232, 233, 234, 235, 199, 200, 201, 189, 190, 191, 236, 237, 238, 239, 119, 240, 241, 242, 243, 244, 245, 246, 247, 248, 249, 250, 251, 252, 253, 254, 255, 256, 257, 258, 268, 269, 270, 271, 272, 273, 274, 275, 259, 260, 261, 262, 263, 264, 265, 266, 267, 280, 281, 282] (by decide +kernel) (by decide +kernel)
set_option maxRecDepth 20000 in
theorem gL_does_X4_trains : GoodIn wsL_does (wsV RL 68 RX4 yX4_trains wsX4_trains) := goodIn_app (goodIn_of _ (by decide +kernel)) ggL_does_X4_trains
theorem dL_does_0 : decode cL_does 0 = .ok (.aload_n 0, 1) := by decide +kernel
theorem dL_does_1 : decode cL_does 1 = .ok (.iconst 0, 1) := by decide +kernel
theorem dL_does_2 : decode cL_does 2 = .ok (.invokevirtual 12, 3) := by decide +kernel
theorem dL_does_5 : decode cL_does 5 = .ok (.istore_n 2, 1) := by decide +kernel
theorem dL_does_6 : decode cL_does 6 = .ok (.iload_n 1, 1) := by decide +kernel
theorem dL_does_7 : decode cL_does 7 = .ok (.iconst 4, 1) := by decide +kernel
theorem dL_does_8 : decode cL_does 8 = .ok (.ishr, 1) := by decide +kernel
theorem dL_does_9 : decode cL_does 9 = .ok (.iload_n 2, 1) := by decide +kernel
theorem dL_does_10 : decode cL_does 10 = .ok (.invokestatic 38, 3) := by decide +kernel
theorem dL_does_13 : decode cL_does 13 = .ok (.istore_n 3, 1) := by decide +kernel
theorem dL_does_14 : decode cL_does 14 = .ok (.iload_n 1, 1) := by decide +kernel
theorem dL_does_15 : decode cL_does 15 = .ok (.bipush 15, 2) := by decide +kernel
theorem dL_does_17 : decode cL_does 17 = .ok (.iand, 1) := by decide +kernel
theorem dL_does_18 : decode cL_does 18 = .ok (.tableswitch 215 0 11 #[62, 105, 129, 129, 129, 129, 152, 152, 183, 189, 189, 205], 62) := by decide +kernel
theorem dL_does_80 : decode cL_does 80 = .ok (.iload_n 1, 1) := by decide +kernel
theorem dL_does_81 : decode cL_does 81 = .ok (.iconst 4, 1) := by decide +kernel
theorem dL_does_82 : decode cL_does 82 = .ok (.ishr, 1) := by decide +kernel
theorem dL_does_83 : decode cL_does 83 = .ok (.iconst 3, 1) := by decide +kernel
theorem dL_does_84 : decode cL_does 84 = .ok (.iand, 1) := by decide +kernel
theorem dL_does_85 : decode cL_does 85 = .ok (.ifCond .ne 22, 3) := by decide +kernel
theorem dL_does_88 : decode cL_does 88 = .ok (.aload_n 0, 1) := by decide +kernel
theorem dL_does_89 : decode cL_does 89 = .ok (.bipush 10, 2) := by decide +kernel
theorem dL_does_91 : decode cL_does 91 = .ok (.iload_n 1, 1) := by decide +kernel
theorem dL_does_92 : decode cL_does 92 = .ok (.bipush 6, 2) := by decide +kernel
theorem dL_does_94 : decode cL_does 94 = .ok (.ishr, 1) := by decide +kernel
theorem dL_does_95 : decode cL_does 95 = .ok (.bipush 51, 2) := by decide +kernel
theorem dL_does_97 : decode cL_does 97 = .ok (.invokestatic 38, 3) := by decide +kernel
theorem dL_does_100 : decode cL_does 100 = .ok (.iadd, 1) := by decide +kernel
theorem dL_does_101 : decode cL_does 101 = .ok (.invokevirtual 43, 3) := by decide +kernel
theorem dL_does_104 : decode cL_does 104 = .ok (.goto 18, 3) := by decide +kernel
theorem dL_does_107 : decode cL_does 107 = .ok (.aload_n 0, 1) := by decide +kernel
theorem dL_does_108 : decode cL_does 108 = .ok (.iload_n 3, 1) := by decide +kernel
theorem dL_does_109 : decode cL_does 109 = .ok (.iload_n 3, 1) := by decide +kernel
theorem dL_does_110 : decode cL_does 110 = .ok (.iload_n 1, 1) := by decide +kernel
theorem dL_does_111 : decode cL_does 111 = .ok (.bipush 10, 2) := by decide +kernel
theorem dL_does_113 : decode cL_does 113 = .ok (.ishr, 1) := by decide +kernel
theorem dL_does_114 : decode cL_does 114 = .ok (.iconst 3, 1) := by decide +kernel
theorem dL_does_115 : decode cL_does 115 = .ok (.invokestatic 38, 3) := by decide +kernel
theorem dL_does_118 : decode cL_does 118 = .ok (.iadd, 1) := by decide +kernel
theorem dL_does_119 : decode cL_does 119 = .ok (.invokevirtual 46, 3) := by decide +kernel
theorem dL_does_122 : decode cL_does 122 = .ok (.ireturn, 1) := by decide +kernel
theorem dL_does_123 : decode cL_does 123 = .ok (.aload_n 0, 1) := by decide +kernel
theorem dL_does_124 : decode cL_does 124 = .ok (.iload_n 1, 1) := by decide +kernel
theorem dL_does_125 : decode cL_does 125 = .ok (.iconst 4, 1) := by decide +kernel
theorem dL_does_126 : decode cL_does 126 = .ok (.ishr, 1) := by decide +kernel
theorem dL_does_127 : decode cL_does 127 = .ok (.bipush 8, 2) := by decide +kernel
theorem dL_does_129 : decode cL_does 129 = .ok (.invokestatic 38, 3) := by decide +kernel
theorem dL_does_132 : decode cL_does 132 = .ok (.iconst 1, 1) := by decide +kernel
theorem dL_does_133 : decode cL_does 133 = .ok (.iload_n 1, 1) := by decide +kernel
theorem dL_does_134 : decode cL_does 134 = .ok (.bipush 7, 2) := by decide +kernel
theorem dL_does_136 : decode cL_does 136 = .ok (.ishr, 1) := by decide +kernel
theorem dL_does_137 : decode cL_does 137 = .ok (.bipush 100, 2) := by decide +kernel
theorem dL_does_139 : decode cL_does 139 = .ok (.invokestatic 38, 3) := by decide +kernel
theorem dL_does_142 : decode cL_does 142 = .ok (.iadd, 1) := by decide +kernel
theorem dL_does_143 : decode cL_does 143 = .ok (.invokevirtual 49, 3) := by decide +kernel
theorem dL_does_146 : decode cL_does 146 = .ok (.ireturn, 1) := by decide +kernel
theorem dL_does_147 : decode cL_does 147 = .ok (.aload_n 0, 1) := by decide +kernel
theorem dL_does_148 : decode cL_does 148 = .ok (.iload_n 3, 1) := by decide +kernel
theorem dL_does_149 : decode cL_does 149 = .ok (.iload_n 1, 1) := by decide +kernel
theorem dL_does_150 : decode cL_does 150 = .ok (.bipush 10, 2) := by decide +kernel
theorem dL_does_152 : decode cL_does 152 = .ok (.ishr, 1) := by decide +kernel
theorem dL_does_153 : decode cL_does 153 = .ok (.sipush 200, 3) := by decide +kernel
theorem dL_does_156 : decode cL_does 156 = .ok (.invokestatic 38, 3) := by decide +kernel
theorem dL_does_159 : decode cL_does 159 = .ok (.bipush 100, 2) := by decide +kernel
theorem dL_does_161 : decode cL_does 161 = .ok (.isub, 1) := by decide +kernel
theorem dL_does_162 : decode cL_does 162 = .ok (.invokevirtual 52, 3) := by decide +kernel
theorem dL_does_165 : decode cL_does 165 = .ok (.sipush 20000, 3) := by decide +kernel
theorem dL_does_168 : decode cL_does 168 = .ok (.iadd, 1) := by decide +kernel
theorem dL_does_169 : decode cL_does 169 = .ok (.ireturn, 1) := by decide +kernel
theorem dL_does_170 : decode cL_does 170 = .ok (.aload_n 0, 1) := by decide +kernel
theorem dL_does_171 : decode cL_does 171 = .ok (.iload_n 3, 1) := by decide +kernel
theorem dL_does_172 : decode cL_does 172 = .ok (.iload_n 3, 1) := by decide +kernel
theorem dL_does_173 : decode cL_does 173 = .ok (.iload_n 1, 1) := by decide +kernel
theorem dL_does_174 : decode cL_does 174 = .ok (.bipush 10, 2) := by decide +kernel
theorem dL_does_176 : decode cL_does 176 = .ok (.ishr, 1) := by decide +kernel
theorem dL_does_177 : decode cL_does 177 = .ok (.iload_n 2, 1) := by decide +kernel
theorem dL_does_178 : decode cL_does 178 = .ok (.iload_n 3, 1) := by decide +kernel
theorem dL_does_179 : decode cL_does 179 = .ok (.isub, 1) := by decide +kernel
theorem dL_does_180 : decode cL_does 180 = .ok (.invokestatic 38, 3) := by decide +kernel
theorem dL_does_183 : decode cL_does 183 = .ok (.iadd, 1) := by decide +kernel
theorem dL_does_184 : decode cL_does 184 = .ok (.iload_n 1, 1) := by decide +kernel
theorem dL_does_185 : decode cL_does 185 = .ok (.bipush 16, 2) := by decide +kernel
theorem dL_does_187 : decode cL_does 187 = .ok (.ishr, 1) := by decide +kernel
theorem dL_does_188 : decode cL_does 188 = .ok (.sipush 400, 3) := by decide +kernel
theorem dL_does_191 : decode cL_does 191 = .ok (.invokestatic 38, 3) := by decide +kernel
theorem dL_does_194 : decode cL_does 194 = .ok (.bipush 100, 2) := by decide +kernel
theorem dL_does_196 : decode cL_does 196 = .ok (.isub, 1) := by decide +kernel
theorem dL_does_197 : decode cL_does 197 = .ok (.invokevirtual 55, 3) := by decide +kernel
theorem dL_does_200 : decode cL_does 200 = .ok (.ireturn, 1) := by decide +kernel
theorem dL_does_201 : decode cL_does 201 = .ok (.aload_n 0, 1) := by decide +kernel
theorem dL_does_202 : decode cL_does 202 = .ok (.iload_n 3, 1) := by decide +kernel
theorem dL_does_203 : decode cL_does 203 = .ok (.invokevirtual 59, 3) := by decide +kernel
theorem dL_does_206 : decode cL_does 206 = .ok (.ireturn, 1) := by decide +kernel
theorem dL_does_207 : decode cL_does 207 = .ok (.aload_n 0, 1) := by decide +kernel
theorem dL_does_208 : decode cL_does 208 = .ok (.iconst 1, 1) := by decide +kernel
theorem dL_does_209 : decode cL_does 209 = .ok (.iload_n 1, 1) := by decide +kernel
theorem dL_does_210 : decode cL_does 210 = .ok (.iconst 4, 1) := by decide +kernel
theorem dL_does_211 : decode cL_does 211 = .ok (.ishr, 1) := by decide +kernel
theorem dL_does_212 : decode cL_does 212 = .ok (.sipush 200, 3) := by decide +kernel
theorem dL_does_215 : decode cL_does 215 = .ok (.invokestatic 38, 3) := by decide +kernel
theorem dL_does_218 : decode cL_does 218 = .ok (.iadd, 1) := by decide +kernel
theorem dL_does_219 : decode cL_does 219 = .ok (.invokevirtual 62, 3) := by decide +kernel
theorem dL_does_222 : decode cL_does 222 = .ok (.ireturn, 1) := by decide +kernel
theorem dL_does_223 : decode cL_does 223 = .ok (.aload_n 0, 1) := by decide +kernel
theorem dL_does_224 : decode cL_does 224 = .ok (.iload_n 1, 1) := by decide +kernel
theorem dL_does_225 : decode cL_does 225 = .ok (.iconst 4, 1) := by decide +kernel
theorem dL_does_226 : decode cL_does 226 = .ok (.ishr, 1) := by decide +kernel
theorem dL_does_227 : decode cL_does 227 = .ok (.iconst 1, 1) := by decide +kernel
theorem dL_does_228 : decode cL_does 228 = .ok (.iand, 1) := by decide +kernel
theorem dL_does_229 : decode cL_does 229 = .ok (.invokevirtual 65, 3) := by decide +kernel
theorem dL_does_232 : decode cL_does 232 = .ok (.ireturn, 1) := by decide +kernel
theorem dL_does_233 : decode cL_does 233 = .ok (.aload_n 0, 1) := by decide +kernel
theorem dL_does_234 : decode cL_does 234 = .ok (.iconst 1, 1) := by decide +kernel
theorem dL_does_235 : decode cL_does 235 = .ok (.iload_n 1, 1) := by decide +kernel
theorem dL_does_236 : decode cL_does 236 = .ok (.iconst 4, 1) := by decide +kernel
theorem dL_does_237 : decode cL_does 237 = .ok (.ishr, 1) := by decide +kernel
theorem dL_does_238 : decode cL_does 238 = .ok (.sipush 200, 3) := by decide +kernel
theorem dL_does_241 : decode cL_does 241 = .ok (.invokestatic 38, 3) := by decide +kernel
theorem dL_does_244 : decode cL_does 244 = .ok (.iadd, 1) := by decide +kernel
theorem dL_does_245 : decode cL_does 245 = .ok (.iconst 1, 1) := by decide +kernel
theorem dL_does_246 : decode cL_does 246 = .ok (.iload_n 1, 1) := by decide +kernel
theorem dL_does_247 : decode cL_does 247 = .ok (.bipush 12, 2) := by decide +kernel
theorem dL_does_249 : decode cL_does 249 = .ok (.ishr, 1) := by decide +kernel
theorem dL_does_250 : decode cL_does 250 = .ok (.bipush 30, 2) := by decide +kernel
theorem dL_does_252 : decode cL_does 252 = .ok (.invokestatic 38, 3) := by decide +kernel
theorem dL_does_255 : decode cL_does 255 = .ok (.iadd, 1) := by decide +kernel
theorem dL_does_256 : decode cL_does 256 = .ok (.iconst 1, 1) := by decide +kernel
theorem dL_does_257 : decode cL_does 257 = .ok (.iload_n 1, 1) := by decide +kernel
theorem dL_does_258 : decode cL_does 258 = .ok (.bipush 17, 2) := by decide +kernel
theorem dL_does_260 : decode cL_does 260 = .ok (.ishr, 1) := by decide +kernel
theorem dL_does_261 : decode cL_does 261 = .ok (.iconst 5, 1) := by decide +kernel
theorem dL_does_262 : decode cL_does 262 = .ok (.invokestatic 38, 3) := by decide +kernel
theorem dL_does_265 : decode cL_does 265 = .ok (.iadd, 1) := by decide +kernel
theorem dL_does_266 : decode cL_does 266 = .ok (.invokevirtual 68, 3) := by decide +kernel
theorem dL_does_269 : decode cL_does 269 = .ok (.ireturn, 1) := by decide +kernel
set_option maxRecDepth 20000 in
theorem ggL_law_X4_init : GoodIn wsL_law wsX4_init := goodIn_r _ [8, 9, 10, 11, 12, 13, 14, 15, 16, 17, 18, 19, 20, 21, 22, 23, 24, 25, 26, 27, 28, 29, 30, 31, 32, 33, 34, 35, 36, 37, 38, 39, 40, 41, 42, 43, 44, 45, 46, 47, 48, 49, 50, 51, 52, 53, 54, 55, 56, 57, 58, 59, 60, 61, 62, 63, 64, 65, 66, 67, 68, 69, 70, 71, 72, 73, 74, 75, 76, 77, 78, 373, 374, 375, 376, 377, 378, 379, 380, 381, 365, 366, 367, 368, 369, 370, 371, 372, 382, 383, 384, 385, 386, 387, 388, 389, 390, 391, 392, 393, 394, 395, 396] (by decide +kernel) (by decide +kernel)
set_option maxRecDepth 20000 in
theorem gL_law_X4_init : GoodIn wsL_law (wsX4_init) := ggL_law_X4_init
set_option maxRecDepth 20000 in
theorem ggL_law_L_cell : GoodIn wsL_law wsL_cell := goodIn_r _ [82] (by decide +kernel) (by decide +kernel)
set_option maxRecDepth 20000 in
theorem gL_law_L_cell : GoodIn wsL_law (va_wsS RL 72 yL_cell wsL_cell) := goodIn_app (goodIn_of _ (by decide +kernel)) ggL_law_L_cell
set_option maxRecDepth 20000 in
theorem ggL_law_L_tale : GoodIn wsL_law wsL_tale := goodIn_r _ [85, 86, 87, 88, 89, 90, 91, 92, 93, 94, 95, 2, 96, 97, 15, 98, 99, 100, 19, 101, 102, 29, 103, 25, 104, 105, 106, 107, 108, 109, 110, 18, 111, 60, 61, 112, 113, 114, 115, 62, 116, 117, 118, 119, 120, 121, 122, 55, 123, 124, 125, 126, 58, 57, 127, 128, 129, 130, 131, 132, 133, 134, 59, 135, 136, 137, 138, 139, 140, 141, 142, 143, 144, 145, 146, 147, 148, 149, 32, 150, 151, 152, 153, 154, 155, 156, 157, 158, 159, 160, 14, 161, 37, 162, 163, 164, 165, 166, 167, 168, 169, 170, 171, 172, 173, 174, 56, 175, 176, 177, 178, 179, 180, 181, 182, 183, 184, 185, 186, 187, 188, 189, 45, 190, 191, 192, 193, 194, 365, 366, 367, 368, 369, 370, 371, 372, 373, 374, 375, 376, 377, 378, 379, 380, 381, 382, 383, 384, 385, 386, 387, 388, 389, 393, 394, 395, 396, 390, 391, 392] (by decide +kernel) (by decide +kernel)
set_option maxRecDepth 20000 in
theorem gL_law_L_tale : GoodIn wsL_law (va_wsS RL 76 yL_tale wsL_tale) := goodIn_app (goodIn_of _ (by decide +kernel)) ggL_law_L_tale
set_option maxRecDepth 20000 in
theorem ggL_law_L_does : GoodIn wsL_law wsL_does := goodIn_r _ [197, 93, 94, 95, 2, 96, 97, 15, 98, 99, 100, 19, 101, 102, 29, 103, 25, 104, 105, 106, 107, 108, 109, 110, 18, 111, 60, 61, 112, 113, 114, 115, 62, 116, 117, 118, 119, 120, 121, 122, 55, 123, 124, 125, 126, 58, 57, 127, 128, 129, 130, 131, 132, 133, 134, 59, 135, 136, 137, 138, 139, 140, 141, 142, 143, 144, 145, 146, 147, 148, 149, 32, 198, 199, 81, 200, 201, 202, 203, 204, 205, 206, 207, 208, 24, 209, 68, 69, 70, 210, 211, 212, 14, 213, 37, 38, 40, 47, 48, 49, 50, 41, 42, 43, 44, 45, 46, 214, 215, 216, 217, 218, 219, 220, 221, 222, 223, 224, 225, 155, 226, 227, 228, 229, 158, 159, 160, 161, 230, 231, 232, 233, 234, 235, 236, 237, 238, 239, 240, 241, 242, 243, 244, 245, 246, 247, 154, 248, 249, 250, 251, 252, 253, 254, 255, 256, 257, 258, 259, 260, 261, 262, 263, 264, 265, 266, 267, 186, 187, 188, 189, 268, 269, 270, 271, 272, 273, 274, 275, 276, 277, 278, 279, 280, 281, 282, 283, 284, 285, 286, 287, 288, 289, 290, 291, 292, 293, 294, 295, 296, 297, 298, 299, 300, 301, 302, 303, 304, 305, 306, 307, 30, 194, 308, 309, 310, 311, 312, 313, 314, 315, 316, 317, 318, 319, 167, 171, 172, 173, 174, 56, 175, 176, 177, 178, 320, 321, 322, 323, 168, 324, 325, 326, 327, 328, 329, 330, 331, 332, 333, 334, 365, 366, 367, 368, 369, 370, 371, 372, 373, 374, 375, 376, 377, 378, 379, 380, 381, 382, 383, 384, 385, 386, 387, 388, 389, 393, 394, 395, 396, 390, 391, 392] (by decide +kernel) (by decide +kernel)
set_option maxRecDepth 20000 in
theorem gL_law_L_does : GoodIn wsL_law (va_wsS RL 80 yL_does wsL_does) := goodIn_app (goodIn_of _ (by decide +kernel)) ggL_law_L_does
set_option maxRecDepth 20000 in
theorem ggL_law_X4_undo : GoodIn wsL_law wsX4_undo := goodIn_r _ [338, 25, 104, 276, 15, 339, 340, 341, 24, 342, 70, 68, 69, 210, 211, 212, 14, 213, 37, 38, 40, 47, 48, 49, 50, 41, 42, 43, 44, 45, 46, 365, 366, 367, 368, 369, 370, 371, 372, 390, 391, 392, 373, 374, 375, 376, 377, 378, 379, 380, 381] (by decide +kernel) (by decide +kernel)
set_option maxRecDepth 20000 in
theorem gL_law_X4_undo : GoodIn wsL_law (wsV RL 85 RX4 yX4_undo wsX4_undo) := goodIn_app (goodIn_of _ (by decide +kernel)) ggL_law_X4_undo
set_option maxRecDepth 20000 in
theorem ggL_law_X4_keep : GoodIn wsL_law wsX4_keep := goodIn_r _ [346, 97, 30, 15, 32, 194, 105, 106, 2, 107, 308, 211, 212, 14, 213, 37, 38, 40, 47, 48, 49, 50, 41, 42, 43, 44, 45, 46, 365, 366, 367, 368, 369, 370, 371, 372, 373, 374, 375, 376, 377, 378, 379, 380, 381] (by decide +kernel) (by decide +kernel)
set_option maxRecDepth 20000 in
theorem gL_law_X4_keep : GoodIn wsL_law (wsV RL 89 RX4 yX4_keep wsX4_keep) := goodIn_app (goodIn_of _ (by decide +kernel)) ggL_law_X4_keep
set_option maxRecDepth 20000 in
theorem ggL_law_X4_account : GoodIn wsL_law wsX4_account := goodIn_r _ [193, 97, 15, 194, 105, 106, 2, 107, 365, 366, 367, 368, 369, 370, 371, 372, 373, 374, 375, 376, 377, 378, 379, 380, 381] (by decide +kernel) (by decide +kernel)
set_option maxRecDepth 20000 in
theorem gL_law_X4_account : GoodIn wsL_law (wsV RL 35 RX4 yX4_account wsX4_account) := goodIn_app (goodIn_of _ (by decide +kernel)) ggL_law_X4_account
set_option maxRecDepth 20000 in
theorem ggL_law_X4_count : GoodIn wsL_law wsX4_count := goodIn_r _ [96, 97, 15, 98, 99, 100, 19, 101, 102, 29, 103, 25, 104, 105, 106, 2, 107, 108, 109, 110, 18, 111, 60, 61, 112, 113, 114, 115, 62, 116, 117, 118, 119, 120, 121, 122, 55, 123, 124, 125, 126, 58, 57, 127, 128, 129, 130, 131, 132, 133, 134, 59, 135, 136, 137, 138, 139, 140, 141, 142, 143, 144, 145, 146, 147, 148, 149, 32, 365, 366, 367, 368, 369, 370, 371, 372, 373, 374, 375, 376, 377, 378, 379, 380, 381, 382, 383, 384, 385, 386, 387, 388, 389, 393, 394, 395, 396, 390, 391, 392] (by decide +kernel) (by decide +kernel)
set_option maxRecDepth 20000 in
theorem gL_law_X4_count : GoodIn wsL_law (wsV RL 12 RX4 yX4_count wsX4_count) := goodIn_app (goodIn_of _ (by decide +kernel)) ggL_law_X4_count
set_option maxRecDepth 20000 in
theorem ggL_law_X4_sleeper : GoodIn wsL_law wsX4_sleeper := goodIn_r _ [153, 15, 97, 154, 155, 156, 157, 158, 159, 160, 14, 161, 37, 106, 2, 107, 105, 162, 163, 164, 165, 19, 166, 167, 168, 169, 136, 121, 137, 108, 109, 110, 18, 111, 60, 61, 112, 113, 114, 115, 62, 116, 117, 118, 119, 120, 122, 55, 123, 124, 125, 126, 58, 57, 127, 128, 129, 130, 131, 132, 133, 134, 59, 135, 138, 139, 140, 141, 142, 143, 144, 145, 170, 171, 172, 173, 174, 56, 175, 176, 177, 178, 179, 180, 365, 366, 367, 368, 369, 370, 371, 372, 373, 374, 375, 376, 377, 378, 379, 380, 381, 382, 383, 384, 385, 386, 387, 388, 389] (by decide +kernel) (by decide +kernel)
set_option maxRecDepth 20000 in
theorem gL_law_X4_sleeper : GoodIn wsL_law (wsV RL 20 RX4 yX4_sleeper wsX4_sleeper) := goodIn_app (goodIn_of _ (by decide +kernel)) ggL_law_X4_sleeper
set_option maxRecDepth 20000 in
theorem ggL_law_X4_rail : GoodIn wsL_law wsX4_rail := goodIn_r _ [350, 15, 97, 19, 166, 158, 159, 160, 14, 161, 37, 106, 2, 107, 105, 351, 352, 353, 18, 354, 62, 118, 117, 116, 135, 136, 121, 137, 119, 120, 122, 108, 109, 110, 111, 60, 61, 112, 113, 114, 115, 55, 123, 124, 125, 126, 58, 57, 127, 128, 129, 130, 131, 132, 133, 134, 59, 138, 139, 140, 141, 142, 143, 144, 145, 365, 366, 367, 368, 369, 370, 371, 372, 382, 383, 384, 385, 386, 387, 388, 389, 373, 374, 375, 376, 377, 378, 379, 380, 381] (by decide +kernel) (by decide +kernel)
set_option maxRecDepth 20000 in
theorem gL_law_X4_rail : GoodIn wsL_law (wsV RL 92 RX4 yX4_rail wsX4_rail) := goodIn_app (goodIn_of _ (by decide +kernel)) ggL_law_X4_rail
set_option maxRecDepth 20000 in
theorem ggL_law_X4_why : GoodIn wsL_law wsX4_why := goodIn_r _ [358, 97, 19, 102, 185, 359, 360, 105, 106, 2, 107, 108, 109, 110, 18, 111, 60, 61, 112, 113, 114, 115, 62, 116, 117, 118, 119, 120, 121, 122, 55, 123, 124, 125, 126, 58, 57, 127, 128, 129, 130, 131, 132, 133, 134, 59, 135, 136, 137, 138, 139, 140, 141, 142, 143, 144, 145, 365, 366, 367, 368, 369, 370, 371, 372, 382, 383, 384, 385, 386, 387, 388, 389, 373, 374, 375, 376, 377, 378, 379, 380, 381] (by decide +kernel) (by decide +kernel)
set_option maxRecDepth 20000 in
theorem gL_law_X4_why : GoodIn wsL_law (wsV RL 95 RX4 yX4_why wsX4_why) := goodIn_app (goodIn_of _ (by decide +kernel)) ggL_law_X4_why
set_option maxRecDepth 20000 in
theorem ggL_law_X4_trainsUntil : GoodIn wsL_law wsX4_trainsUntil := goodIn_r _ [364, 97, 20, 15, 21, 102, 185, 313, 314, 2, 315, 105, 106, 107, 308, 211, 212, 14, 213, 37, 38, 40, 47, 48, 49, 50, 41, 42, 43, 44, 45, 46, 108, 109, 110, 18, 111, 60, 61, 112, 113, 114, 115, 62, 116, 117, 118, 119, 120, 121, 122, 55, 123, 124, 125, 126, 58, 57, 127, 128, 129, 130, 131, 132, 133, 134, 59, 135, 136, 137, 138, 139, 140, 141, 142, 143, 144, 145, 316, 317, 318, 319, 99, 167, 194, 171, 172, 173, 174, 56, 175, 176, 177, 178, 320, 296, 297, 298, 286, 287, 288, 321, 322, 323, 168, 155, 324, 325, 326, 327, 328, 329, 330, 331, 332, 333, 334, 365, 366, 367, 368, 369, 370, 371, 372, 382, 383, 384, 385, 386, 387, 388, 389, 373, 374, 375, 376, 377, 378, 379, 380, 381] (by decide +kernel) (by decide +kernel)
set_option maxRecDepth 20000 in
theorem gL_law_X4_trainsUntil : GoodIn wsL_law (wsV RL 99 RX4 yX4_trainsUntil wsX4_trainsUntil) := goodIn_app (goodIn_of _ (by decide +kernel)) ggL_law_X4_trainsUntil
theorem dL_law_0 : decode cL_law 0 = .ok (.new 13, 3) := by decide +kernel
theorem dL_law_3 : decode cL_law 3 = .ok (.dup, 1) := by decide +kernel
theorem dL_law_4 : decode cL_law 4 = .ok (.invokespecial 71, 3) := by decide +kernel
theorem dL_law_7 : decode cL_law 7 = .ok (.astore_n 1, 1) := by decide +kernel
theorem dL_law_8 : decode cL_law 8 = .ok (.iconst 0, 1) := by decide +kernel
theorem dL_law_9 : decode cL_law 9 = .ok (.istore_n 2, 1) := by decide +kernel
theorem dL_law_10 : decode cL_law 10 = .ok (.iconst 0, 1) := by decide +kernel
theorem dL_law_11 : decode cL_law 11 = .ok (.istore_n 3, 1) := by decide +kernel
theorem dL_law_12 : decode cL_law 12 = .ok (.iload_n 3, 1) := by decide +kernel
theorem dL_law_13 : decode cL_law 13 = .ok (.bipush 36, 2) := by decide +kernel
theorem dL_law_15 : decode cL_law 15 = .ok (.if_icmp .ge 563, 3) := by decide +kernel
theorem dL_law_18 : decode cL_law 18 = .ok (.aload_n 0, 1) := by decide +kernel
theorem dL_law_19 : decode cL_law 19 = .ok (.iload_n 3, 1) := by decide +kernel
theorem dL_law_20 : decode cL_law 20 = .ok (.invokestatic 72, 3) := by decide +kernel
theorem dL_law_23 : decode cL_law 23 = .ok (.istore 4, 2) := by decide +kernel
theorem dL_law_25 : decode cL_law 25 = .ok (.aload_n 1, 1) := by decide +kernel
theorem dL_law_26 : decode cL_law 26 = .ok (.invokestatic 76, 3) := by decide +kernel
theorem dL_law_29 : decode cL_law 29 = .ok (.lstore 5, 2) := by decide +kernel
theorem dL_law_31 : decode cL_law 31 = .ok (.aload_n 1, 1) := by decide +kernel
theorem dL_law_32 : decode cL_law 32 = .ok (.iload 4, 2) := by decide +kernel
theorem dL_law_34 : decode cL_law 34 = .ok (.invokestatic 80, 3) := by decide +kernel
theorem dL_law_37 : decode cL_law 37 = .ok (.istore 7, 2) := by decide +kernel
theorem dL_law_39 : decode cL_law 39 = .ok (.iload 7, 2) := by decide +kernel
theorem dL_law_41 : decode cL_law 41 = .ok (.ldc 84, 2) := by decide +kernel
theorem dL_law_43 : decode cL_law 43 = .ok (.if_icmp .le 7, 3) := by decide +kernel
theorem dL_law_46 : decode cL_law 46 = .ok (.iconst 1, 1) := by decide +kernel
theorem dL_law_47 : decode cL_law 47 = .ok (.goto 4, 3) := by decide +kernel
theorem dL_law_50 : decode cL_law 50 = .ok (.iconst 0, 1) := by decide +kernel
theorem dL_law_51 : decode cL_law 51 = .ok (.istore 8, 2) := by decide +kernel
theorem dL_law_53 : decode cL_law 53 = .ok (.iload 8, 2) := by decide +kernel
theorem dL_law_55 : decode cL_law 55 = .ok (.ifCond .ne 15, 3) := by decide +kernel
theorem dL_law_58 : decode cL_law 58 = .ok (.aload_n 1, 1) := by decide +kernel
theorem dL_law_59 : decode cL_law 59 = .ok (.invokestatic 76, 3) := by decide +kernel
theorem dL_law_62 : decode cL_law 62 = .ok (.lload 5, 2) := by decide +kernel
theorem dL_law_64 : decode cL_law 64 = .ok (.lcmp, 1) := by decide +kernel
theorem dL_law_65 : decode cL_law 65 = .ok (.ifCond .eq 5, 3) := by decide +kernel
theorem dL_law_68 : decode cL_law 68 = .ok (.iconst 0, 1) := by decide +kernel
theorem dL_law_69 : decode cL_law 69 = .ok (.ireturn, 1) := by decide +kernel
theorem dL_law_70 : decode cL_law 70 = .ok (.iload 8, 2) := by decide +kernel
theorem dL_law_72 : decode cL_law 72 = .ok (.ifCond .ne 7, 3) := by decide +kernel
theorem dL_law_75 : decode cL_law 75 = .ok (.iload_n 2, 1) := by decide +kernel
theorem dL_law_76 : decode cL_law 76 = .ok (.goto 17, 3) := by decide +kernel
theorem dL_law_79 : decode cL_law 79 = .ok (.iload_n 2, 1) := by decide +kernel
theorem dL_law_80 : decode cL_law 80 = .ok (.bipush 6, 2) := by decide +kernel
theorem dL_law_82 : decode cL_law 82 = .ok (.if_icmp .ge 9, 3) := by decide +kernel
theorem dL_law_85 : decode cL_law 85 = .ok (.iload_n 2, 1) := by decide +kernel
theorem dL_law_86 : decode cL_law 86 = .ok (.iconst 1, 1) := by decide +kernel
theorem dL_law_87 : decode cL_law 87 = .ok (.iadd, 1) := by decide +kernel
theorem dL_law_88 : decode cL_law 88 = .ok (.goto 5, 3) := by decide +kernel
theorem dL_law_91 : decode cL_law 91 = .ok (.bipush 6, 2) := by decide +kernel
theorem dL_law_93 : decode cL_law 93 = .ok (.istore_n 2, 1) := by decide +kernel
theorem dL_law_94 : decode cL_law 94 = .ok (.iload 8, 2) := by decide +kernel
theorem dL_law_96 : decode cL_law 96 = .ok (.ifCond .eq 38, 3) := by decide +kernel
theorem dL_law_99 : decode cL_law 99 = .ok (.iload 4, 2) := by decide +kernel
theorem dL_law_101 : decode cL_law 101 = .ok (.bipush 27, 2) := by decide +kernel
theorem dL_law_103 : decode cL_law 103 = .ok (.ishr, 1) := by decide +kernel
theorem dL_law_104 : decode cL_law 104 = .ok (.iconst 3, 1) := by decide +kernel
theorem dL_law_105 : decode cL_law 105 = .ok (.iand, 1) := by decide +kernel
theorem dL_law_106 : decode cL_law 106 = .ok (.ifCond .ne 28, 3) := by decide +kernel
theorem dL_law_109 : decode cL_law 109 = .ok (.aload_n 1, 1) := by decide +kernel
theorem dL_law_110 : decode cL_law 110 = .ok (.invokevirtual 85, 3) := by decide +kernel
theorem dL_law_113 : decode cL_law 113 = .ok (.iload_n 2, 1) := by decide +kernel
theorem dL_law_114 : decode cL_law 114 = .ok (.iconst 1, 1) := by decide +kernel
theorem dL_law_115 : decode cL_law 115 = .ok (.isub, 1) := by decide +kernel
theorem dL_law_116 : decode cL_law 116 = .ok (.if_icmp .ne 13, 3) := by decide +kernel
theorem dL_law_119 : decode cL_law 119 = .ok (.aload_n 1, 1) := by decide +kernel
theorem dL_law_120 : decode cL_law 120 = .ok (.invokestatic 76, 3) := by decide +kernel
theorem dL_law_123 : decode cL_law 123 = .ok (.lload 5, 2) := by decide +kernel
theorem dL_law_125 : decode cL_law 125 = .ok (.lcmp, 1) := by decide +kernel
theorem dL_law_126 : decode cL_law 126 = .ok (.ifCond .eq 5, 3) := by decide +kernel
theorem dL_law_129 : decode cL_law 129 = .ok (.iconst 0, 1) := by decide +kernel
theorem dL_law_130 : decode cL_law 130 = .ok (.ireturn, 1) := by decide +kernel
theorem dL_law_131 : decode cL_law 131 = .ok (.iinc 2 (-1), 3) := by decide +kernel
theorem dL_law_134 : decode cL_law 134 = .ok (.iload 4, 2) := by decide +kernel
theorem dL_law_136 : decode cL_law 136 = .ok (.bipush 25, 2) := by decide +kernel
theorem dL_law_138 : decode cL_law 138 = .ok (.ishr, 1) := by decide +kernel
theorem dL_law_139 : decode cL_law 139 = .ok (.iconst 3, 1) := by decide +kernel
theorem dL_law_140 : decode cL_law 140 = .ok (.iand, 1) := by decide +kernel
theorem dL_law_141 : decode cL_law 141 = .ok (.iconst 1, 1) := by decide +kernel
theorem dL_law_142 : decode cL_law 142 = .ok (.if_icmp .ne 43, 3) := by decide +kernel
theorem dL_law_145 : decode cL_law 145 = .ok (.aload_n 1, 1) := by decide +kernel
theorem dL_law_146 : decode cL_law 146 = .ok (.iload 4, 2) := by decide +kernel
theorem dL_law_148 : decode cL_law 148 = .ok (.bipush 24, 2) := by decide +kernel
theorem dL_law_150 : decode cL_law 150 = .ok (.ishr, 1) := by decide +kernel
theorem dL_law_151 : decode cL_law 151 = .ok (.iconst 1, 1) := by decide +kernel
theorem dL_law_152 : decode cL_law 152 = .ok (.iand, 1) := by decide +kernel
theorem dL_law_153 : decode cL_law 153 = .ok (.invokevirtual 89, 3) := by decide +kernel
theorem dL_law_156 : decode cL_law 156 = .ok (.aload_n 1, 1) := by decide +kernel
theorem dL_law_157 : decode cL_law 157 = .ok (.iconst 4, 1) := by decide +kernel
theorem dL_law_158 : decode cL_law 158 = .ok (.invokevirtual 35, 3) := by decide +kernel
theorem dL_law_161 : decode cL_law 161 = .ok (.if_icmp .ne 22, 3) := by decide +kernel
theorem dL_law_164 : decode cL_law 164 = .ok (.aload_n 1, 1) := by decide +kernel
theorem dL_law_165 : decode cL_law 165 = .ok (.bipush 14, 2) := by decide +kernel
theorem dL_law_167 : decode cL_law 167 = .ok (.invokevirtual 12, 3) := by decide +kernel
theorem dL_law_170 : decode cL_law 170 = .ok (.iload 4, 2) := by decide +kernel
theorem dL_law_172 : decode cL_law 172 = .ok (.bipush 24, 2) := by decide +kernel
theorem dL_law_174 : decode cL_law 174 = .ok (.ishr, 1) := by decide +kernel
theorem dL_law_175 : decode cL_law 175 = .ok (.iconst 1, 1) := by decide +kernel
theorem dL_law_176 : decode cL_law 176 = .ok (.iand, 1) := by decide +kernel
theorem dL_law_177 : decode cL_law 177 = .ok (.ishr, 1) := by decide +kernel
theorem dL_law_178 : decode cL_law 178 = .ok (.iconst 1, 1) := by decide +kernel
theorem dL_law_179 : decode cL_law 179 = .ok (.iand, 1) := by decide +kernel
theorem dL_law_180 : decode cL_law 180 = .ok (.ifCond .ne 5, 3) := by decide +kernel
theorem dL_law_183 : decode cL_law 183 = .ok (.iconst 0, 1) := by decide +kernel
theorem dL_law_184 : decode cL_law 184 = .ok (.ireturn, 1) := by decide +kernel
theorem dL_law_185 : decode cL_law 185 = .ok (.aload_n 1, 1) := by decide +kernel
theorem dL_law_186 : decode cL_law 186 = .ok (.bipush 13, 2) := by decide +kernel
theorem dL_law_188 : decode cL_law 188 = .ok (.invokevirtual 12, 3) := by decide +kernel
theorem dL_law_191 : decode cL_law 191 = .ok (.iload_n 2, 1) := by decide +kernel
theorem dL_law_192 : decode cL_law 192 = .ok (.if_icmp .eq 5, 3) := by decide +kernel
theorem dL_law_195 : decode cL_law 195 = .ok (.iconst 0, 1) := by decide +kernel
theorem dL_law_196 : decode cL_law 196 = .ok (.ireturn, 1) := by decide +kernel
theorem dL_law_197 : decode cL_law 197 = .ok (.aload_n 1, 1) := by decide +kernel
theorem dL_law_198 : decode cL_law 198 = .ok (.iconst 0, 1) := by decide +kernel
theorem dL_law_199 : decode cL_law 199 = .ok (.invokevirtual 12, 3) := by decide +kernel
theorem dL_law_202 : decode cL_law 202 = .ok (.istore 9, 2) := by decide +kernel
theorem dL_law_204 : decode cL_law 204 = .ok (.iconst 0, 1) := by decide +kernel
theorem dL_law_205 : decode cL_law 205 = .ok (.istore 10, 2) := by decide +kernel
theorem dL_law_207 : decode cL_law 207 = .ok (.iconst 0, 1) := by decide +kernel
theorem dL_law_208 : decode cL_law 208 = .ok (.istore 11, 2) := by decide +kernel
theorem dL_law_210 : decode cL_law 210 = .ok (.iconst 0, 1) := by decide +kernel
theorem dL_law_211 : decode cL_law 211 = .ok (.istore 12, 2) := by decide +kernel
theorem dL_law_213 : decode cL_law 213 = .ok (.iconst 0, 1) := by decide +kernel
theorem dL_law_214 : decode cL_law 214 = .ok (.istore 13, 2) := by decide +kernel
theorem dL_law_216 : decode cL_law 216 = .ok (.iconst 0, 1) := by decide +kernel
theorem dL_law_217 : decode cL_law 217 = .ok (.istore 14, 2) := by decide +kernel
theorem dL_law_219 : decode cL_law 219 = .ok (.iconst 0, 1) := by decide +kernel
theorem dL_law_220 : decode cL_law 220 = .ok (.istore 15, 2) := by decide +kernel
theorem dL_law_222 : decode cL_law 222 = .ok (.iload 15, 2) := by decide +kernel
theorem dL_law_224 : decode cL_law 224 = .ok (.iload 9, 2) := by decide +kernel
theorem dL_law_226 : decode cL_law 226 = .ok (.if_icmp .ge 194, 3) := by decide +kernel
theorem dL_law_229 : decode cL_law 229 = .ok (.iload 10, 2) := by decide +kernel
theorem dL_law_231 : decode cL_law 231 = .ok (.aload_n 1, 1) := by decide +kernel
theorem dL_law_232 : decode cL_law 232 = .ok (.iload 15, 2) := by decide +kernel
theorem dL_law_234 : decode cL_law 234 = .ok (.iconst 0, 1) := by decide +kernel
theorem dL_law_235 : decode cL_law 235 = .ok (.invokevirtual 20, 3) := by decide +kernel
theorem dL_law_238 : decode cL_law 238 = .ok (.iadd, 1) := by decide +kernel
theorem dL_law_239 : decode cL_law 239 = .ok (.istore 10, 2) := by decide +kernel
theorem dL_law_241 : decode cL_law 241 = .ok (.iload 11, 2) := by decide +kernel
theorem dL_law_243 : decode cL_law 243 = .ok (.aload_n 1, 1) := by decide +kernel
theorem dL_law_244 : decode cL_law 244 = .ok (.iload 15, 2) := by decide +kernel
theorem dL_law_246 : decode cL_law 246 = .ok (.iconst 5, 1) := by decide +kernel
theorem dL_law_247 : decode cL_law 247 = .ok (.invokevirtual 20, 3) := by decide +kernel
theorem dL_law_250 : decode cL_law 250 = .ok (.iadd, 1) := by decide +kernel
theorem dL_law_251 : decode cL_law 251 = .ok (.istore 11, 2) := by decide +kernel
theorem dL_law_253 : decode cL_law 253 = .ok (.iload 12, 2) := by decide +kernel
theorem dL_law_255 : decode cL_law 255 = .ok (.aload_n 1, 1) := by decide +kernel
theorem dL_law_256 : decode cL_law 256 = .ok (.iload 15, 2) := by decide +kernel
theorem dL_law_258 : decode cL_law 258 = .ok (.bipush 8, 2) := by decide +kernel
theorem dL_law_260 : decode cL_law 260 = .ok (.invokevirtual 20, 3) := by decide +kernel
theorem dL_law_263 : decode cL_law 263 = .ok (.iadd, 1) := by decide +kernel
theorem dL_law_264 : decode cL_law 264 = .ok (.istore 12, 2) := by decide +kernel
theorem dL_law_266 : decode cL_law 266 = .ok (.iload 13, 2) := by decide +kernel
theorem dL_law_268 : decode cL_law 268 = .ok (.aload_n 1, 1) := by decide +kernel
theorem dL_law_269 : decode cL_law 269 = .ok (.iload 15, 2) := by decide +kernel
theorem dL_law_271 : decode cL_law 271 = .ok (.bipush 9, 2) := by decide +kernel
theorem dL_law_273 : decode cL_law 273 = .ok (.invokevirtual 20, 3) := by decide +kernel
theorem dL_law_276 : decode cL_law 276 = .ok (.iadd, 1) := by decide +kernel
theorem dL_law_277 : decode cL_law 277 = .ok (.istore 13, 2) := by decide +kernel
theorem dL_law_279 : decode cL_law 279 = .ok (.iload 14, 2) := by decide +kernel
theorem dL_law_281 : decode cL_law 281 = .ok (.ifCond .ne 13, 3) := by decide +kernel
theorem dL_law_284 : decode cL_law 284 = .ok (.aload_n 1, 1) := by decide +kernel
theorem dL_law_285 : decode cL_law 285 = .ok (.iload 15, 2) := by decide +kernel
theorem dL_law_287 : decode cL_law 287 = .ok (.iconst 3, 1) := by decide +kernel
theorem dL_law_288 : decode cL_law 288 = .ok (.invokevirtual 20, 3) := by decide +kernel
theorem dL_law_291 : decode cL_law 291 = .ok (.ifCond .ne 7, 3) := by decide +kernel
theorem dL_law_294 : decode cL_law 294 = .ok (.iconst 1, 1) := by decide +kernel
theorem dL_law_295 : decode cL_law 295 = .ok (.goto 4, 3) := by decide +kernel
theorem dL_law_298 : decode cL_law 298 = .ok (.iconst 0, 1) := by decide +kernel
theorem dL_law_299 : decode cL_law 299 = .ok (.istore 14, 2) := by decide +kernel
theorem dL_law_301 : decode cL_law 301 = .ok (.aload_n 1, 1) := by decide +kernel
theorem dL_law_302 : decode cL_law 302 = .ok (.iload 15, 2) := by decide +kernel
theorem dL_law_304 : decode cL_law 304 = .ok (.iconst 3, 1) := by decide +kernel
theorem dL_law_305 : decode cL_law 305 = .ok (.invokevirtual 20, 3) := by decide +kernel
theorem dL_law_308 : decode cL_law 308 = .ok (.ifCond .lt 53, 3) := by decide +kernel
theorem dL_law_311 : decode cL_law 311 = .ok (.aload_n 1, 1) := by decide +kernel
theorem dL_law_312 : decode cL_law 312 = .ok (.iload 15, 2) := by decide +kernel
theorem dL_law_314 : decode cL_law 314 = .ok (.iconst 0, 1) := by decide +kernel
theorem dL_law_315 : decode cL_law 315 = .ok (.invokevirtual 92, 3) := by decide +kernel
theorem dL_law_318 : decode cL_law 318 = .ok (.aload_n 1, 1) := by decide +kernel
theorem dL_law_319 : decode cL_law 319 = .ok (.iload 15, 2) := by decide +kernel
theorem dL_law_321 : decode cL_law 321 = .ok (.iconst 1, 1) := by decide +kernel
theorem dL_law_322 : decode cL_law 322 = .ok (.invokevirtual 92, 3) := by decide +kernel
theorem dL_law_325 : decode cL_law 325 = .ok (.if_icmp .ne 36, 3) := by decide +kernel
theorem dL_law_328 : decode cL_law 328 = .ok (.aload_n 1, 1) := by decide +kernel
theorem dL_law_329 : decode cL_law 329 = .ok (.iload 15, 2) := by decide +kernel
theorem dL_law_331 : decode cL_law 331 = .ok (.iconst 1, 1) := by decide +kernel
theorem dL_law_332 : decode cL_law 332 = .ok (.invokevirtual 20, 3) := by decide +kernel
theorem dL_law_335 : decode cL_law 335 = .ok (.bipush 100, 2) := by decide +kernel
theorem dL_law_337 : decode cL_law 337 = .ok (.if_icmp .gt 24, 3) := by decide +kernel
theorem dL_law_340 : decode cL_law 340 = .ok (.aload_n 1, 1) := by decide +kernel
theorem dL_law_341 : decode cL_law 341 = .ok (.iload 15, 2) := by decide +kernel
theorem dL_law_343 : decode cL_law 343 = .ok (.iconst 4, 1) := by decide +kernel
theorem dL_law_344 : decode cL_law 344 = .ok (.invokevirtual 20, 3) := by decide +kernel
theorem dL_law_347 : decode cL_law 347 = .ok (.iconst 1, 1) := by decide +kernel
theorem dL_law_348 : decode cL_law 348 = .ok (.if_icmp .ne 15, 3) := by decide +kernel
theorem dL_law_351 : decode cL_law 351 = .ok (.aload_n 1, 1) := by decide +kernel
theorem dL_law_352 : decode cL_law 352 = .ok (.iload 15, 2) := by decide +kernel
theorem dL_law_354 : decode cL_law 354 = .ok (.iconst 5, 1) := by decide +kernel
theorem dL_law_355 : decode cL_law 355 = .ok (.invokevirtual 20, 3) := by decide +kernel
theorem dL_law_358 : decode cL_law 358 = .ok (.ifCond .eq 5, 3) := by decide +kernel
theorem dL_law_361 : decode cL_law 361 = .ok (.iconst 0, 1) := by decide +kernel
theorem dL_law_362 : decode cL_law 362 = .ok (.ireturn, 1) := by decide +kernel
theorem dL_law_363 : decode cL_law 363 = .ok (.iload 15, 2) := by decide +kernel
theorem dL_law_365 : decode cL_law 365 = .ok (.ifCond .ne 7, 3) := by decide +kernel
theorem dL_law_368 : decode cL_law 368 = .ok (.iconst 0, 1) := by decide +kernel
theorem dL_law_369 : decode cL_law 369 = .ok (.goto 20, 3) := by decide +kernel
theorem dL_law_372 : decode cL_law 372 = .ok (.aload_n 1, 1) := by decide +kernel
theorem dL_law_373 : decode cL_law 373 = .ok (.iload 15, 2) := by decide +kernel
theorem dL_law_375 : decode cL_law 375 = .ok (.iconst 0, 1) := by decide +kernel
theorem dL_law_376 : decode cL_law 376 = .ok (.invokevirtual 92, 3) := by decide +kernel
theorem dL_law_379 : decode cL_law 379 = .ok (.aload_n 1, 1) := by decide +kernel
theorem dL_law_380 : decode cL_law 380 = .ok (.iload 15, 2) := by decide +kernel
theorem dL_law_382 : decode cL_law 382 = .ok (.iconst 1, 1) := by decide +kernel
theorem dL_law_383 : decode cL_law 383 = .ok (.isub, 1) := by decide +kernel
theorem dL_law_384 : decode cL_law 384 = .ok (.iconst 0, 1) := by decide +kernel
theorem dL_law_385 : decode cL_law 385 = .ok (.invokevirtual 92, 3) := by decide +kernel
theorem dL_law_388 : decode cL_law 388 = .ok (.isub, 1) := by decide +kernel
theorem dL_law_389 : decode cL_law 389 = .ok (.istore 16, 2) := by decide +kernel
theorem dL_law_391 : decode cL_law 391 = .ok (.iload 16, 2) := by decide +kernel
theorem dL_law_393 : decode cL_law 393 = .ok (.aload_n 1, 1) := by decide +kernel
theorem dL_law_394 : decode cL_law 394 = .ok (.iconst 1, 1) := by decide +kernel
theorem dL_law_395 : decode cL_law 395 = .ok (.invokevirtual 12, 3) := by decide +kernel
theorem dL_law_398 : decode cL_law 398 = .ok (.if_icmp .gt 14, 3) := by decide +kernel
theorem dL_law_401 : decode cL_law 401 = .ok (.iload 16, 2) := by decide +kernel
theorem dL_law_403 : decode cL_law 403 = .ok (.ineg, 1) := by decide +kernel
theorem dL_law_404 : decode cL_law 404 = .ok (.aload_n 1, 1) := by decide +kernel
theorem dL_law_405 : decode cL_law 405 = .ok (.iconst 1, 1) := by decide +kernel
theorem dL_law_406 : decode cL_law 406 = .ok (.invokevirtual 12, 3) := by decide +kernel
theorem dL_law_409 : decode cL_law 409 = .ok (.if_icmp .le 5, 3) := by decide +kernel
theorem dL_law_412 : decode cL_law 412 = .ok (.iconst 0, 1) := by decide +kernel
theorem dL_law_413 : decode cL_law 413 = .ok (.ireturn, 1) := by decide +kernel
theorem dL_law_414 : decode cL_law 414 = .ok (.iinc 15 1, 3) := by decide +kernel
theorem dL_law_417 : decode cL_law 417 = .ok (.goto (-195), 3) := by decide +kernel
theorem dL_law_420 : decode cL_law 420 = .ok (.iload 14, 2) := by decide +kernel
theorem dL_law_422 : decode cL_law 422 = .ok (.ifCond .eq 55, 3) := by decide +kernel
theorem dL_law_425 : decode cL_law 425 = .ok (.iload 11, 2) := by decide +kernel
theorem dL_law_427 : decode cL_law 427 = .ok (.iconst 2, 1) := by decide +kernel
theorem dL_law_428 : decode cL_law 428 = .ok (.iload 9, 2) := by decide +kernel
theorem dL_law_430 : decode cL_law 430 = .ok (.imul, 1) := by decide +kernel
theorem dL_law_431 : decode cL_law 431 = .ok (.if_icmp .ne 46, 3) := by decide +kernel
theorem dL_law_434 : decode cL_law 434 = .ok (.iload 12, 2) := by decide +kernel
theorem dL_law_436 : decode cL_law 436 = .ok (.aload_n 1, 1) := by decide +kernel
theorem dL_law_437 : decode cL_law 437 = .ok (.iconst 0, 1) := by decide +kernel
theorem dL_law_438 : decode cL_law 438 = .ok (.invokevirtual 35, 3) := by decide +kernel
theorem dL_law_441 : decode cL_law 441 = .ok (.if_icmp .ne 36, 3) := by decide +kernel
theorem dL_law_444 : decode cL_law 444 = .ok (.iload 13, 2) := by decide +kernel
theorem dL_law_446 : decode cL_law 446 = .ok (.aload_n 1, 1) := by decide +kernel
theorem dL_law_447 : decode cL_law 447 = .ok (.iconst 1, 1) := by decide +kernel
theorem dL_law_448 : decode cL_law 448 = .ok (.invokevirtual 35, 3) := by decide +kernel
theorem dL_law_451 : decode cL_law 451 = .ok (.if_icmp .ne 26, 3) := by decide +kernel
theorem dL_law_454 : decode cL_law 454 = .ok (.iload 10, 2) := by decide +kernel
theorem dL_law_456 : decode cL_law 456 = .ok (.aload_n 1, 1) := by decide +kernel
theorem dL_law_457 : decode cL_law 457 = .ok (.bipush 6, 2) := by decide +kernel
theorem dL_law_459 : decode cL_law 459 = .ok (.invokevirtual 35, 3) := by decide +kernel
theorem dL_law_462 : decode cL_law 462 = .ok (.aload_n 1, 1) := by decide +kernel
theorem dL_law_463 : decode cL_law 463 = .ok (.iconst 1, 1) := by decide +kernel
theorem dL_law_464 : decode cL_law 464 = .ok (.invokevirtual 35, 3) := by decide +kernel
theorem dL_law_467 : decode cL_law 467 = .ok (.iadd, 1) := by decide +kernel
theorem dL_law_468 : decode cL_law 468 = .ok (.aload_n 1, 1) := by decide +kernel
theorem dL_law_469 : decode cL_law 469 = .ok (.iconst 0, 1) := by decide +kernel
theorem dL_law_470 : decode cL_law 470 = .ok (.invokevirtual 35, 3) := by decide +kernel
theorem dL_law_473 : decode cL_law 473 = .ok (.isub, 1) := by decide +kernel
theorem dL_law_474 : decode cL_law 474 = .ok (.if_icmp .eq 5, 3) := by decide +kernel
theorem dL_law_477 : decode cL_law 477 = .ok (.iconst 0, 1) := by decide +kernel
theorem dL_law_478 : decode cL_law 478 = .ok (.ireturn, 1) := by decide +kernel
theorem dL_law_479 : decode cL_law 479 = .ok (.aload_n 1, 1) := by decide +kernel
theorem dL_law_480 : decode cL_law 480 = .ok (.iconst 0, 1) := by decide +kernel
theorem dL_law_481 : decode cL_law 481 = .ok (.invokevirtual 95, 3) := by decide +kernel
theorem dL_law_484 : decode cL_law 484 = .ok (.istore 15, 2) := by decide +kernel
theorem dL_law_486 : decode cL_law 486 = .ok (.aload_n 1, 1) := by decide +kernel
theorem dL_law_487 : decode cL_law 487 = .ok (.bipush 11, 2) := by decide +kernel
theorem dL_law_489 : decode cL_law 489 = .ok (.invokevirtual 12, 3) := by decide +kernel
theorem dL_law_492 : decode cL_law 492 = .ok (.ifCond .ne 13, 3) := by decide +kernel
theorem dL_law_495 : decode cL_law 495 = .ok (.iload 15, 2) := by decide +kernel
theorem dL_law_497 : decode cL_law 497 = .ok (.ldc 98, 2) := by decide +kernel
theorem dL_law_499 : decode cL_law 499 = .ok (.if_icmp .eq 38, 3) := by decide +kernel
theorem dL_law_502 : decode cL_law 502 = .ok (.goto 33, 3) := by decide +kernel
theorem dL_law_505 : decode cL_law 505 = .ok (.aload_n 1, 1) := by decide +kernel
theorem dL_law_506 : decode cL_law 506 = .ok (.iload 15, 2) := by decide +kernel
theorem dL_law_508 : decode cL_law 508 = .ok (.bipush 7, 2) := by decide +kernel
theorem dL_law_510 : decode cL_law 510 = .ok (.invokevirtual 20, 3) := by decide +kernel
theorem dL_law_513 : decode cL_law 513 = .ok (.aload_n 1, 1) := by decide +kernel
theorem dL_law_514 : decode cL_law 514 = .ok (.bipush 11, 2) := by decide +kernel
theorem dL_law_516 : decode cL_law 516 = .ok (.invokevirtual 12, 3) := by decide +kernel
theorem dL_law_519 : decode cL_law 519 = .ok (.if_icmp .ne 16, 3) := by decide +kernel
theorem dL_law_522 : decode cL_law 522 = .ok (.aload_n 1, 1) := by decide +kernel
theorem dL_law_523 : decode cL_law 523 = .ok (.iconst 1, 1) := by decide +kernel
theorem dL_law_524 : decode cL_law 524 = .ok (.invokevirtual 95, 3) := by decide +kernel
theorem dL_law_527 : decode cL_law 527 = .ok (.aload_n 1, 1) := by decide +kernel
theorem dL_law_528 : decode cL_law 528 = .ok (.iconst 4, 1) := by decide +kernel
theorem dL_law_529 : decode cL_law 529 = .ok (.invokevirtual 12, 3) := by decide +kernel
theorem dL_law_532 : decode cL_law 532 = .ok (.if_icmp .gt 5, 3) := by decide +kernel
theorem dL_law_535 : decode cL_law 535 = .ok (.iconst 0, 1) := by decide +kernel
theorem dL_law_536 : decode cL_law 536 = .ok (.ireturn, 1) := by decide +kernel
theorem dL_law_537 : decode cL_law 537 = .ok (.aload_n 1, 1) := by decide +kernel
theorem dL_law_538 : decode cL_law 538 = .ok (.bipush 40, 2) := by decide +kernel
theorem dL_law_540 : decode cL_law 540 = .ok (.bipush 20, 2) := by decide +kernel
theorem dL_law_542 : decode cL_law 542 = .ok (.iconst 1, 1) := by decide +kernel
theorem dL_law_543 : decode cL_law 543 = .ok (.invokevirtual 99, 3) := by decide +kernel
theorem dL_law_546 : decode cL_law 546 = .ok (.istore 16, 2) := by decide +kernel
theorem dL_law_548 : decode cL_law 548 = .ok (.aload_n 1, 1) := by decide +kernel
theorem dL_law_549 : decode cL_law 549 = .ok (.bipush 11, 2) := by decide +kernel
theorem dL_law_551 : decode cL_law 551 = .ok (.invokevirtual 12, 3) := by decide +kernel
theorem dL_law_554 : decode cL_law 554 = .ok (.ifCond .le 8, 3) := by decide +kernel
theorem dL_law_557 : decode cL_law 557 = .ok (.iload 16, 2) := by decide +kernel
theorem dL_law_559 : decode cL_law 559 = .ok (.ifCond .ne 11, 3) := by decide +kernel
theorem dL_law_562 : decode cL_law 562 = .ok (.iload 16, 2) := by decide +kernel
theorem dL_law_564 : decode cL_law 564 = .ok (.sipush 200, 3) := by decide +kernel
theorem dL_law_567 : decode cL_law 567 = .ok (.if_icmp .le 5, 3) := by decide +kernel
theorem dL_law_570 : decode cL_law 570 = .ok (.iconst 0, 1) := by decide +kernel
theorem dL_law_571 : decode cL_law 571 = .ok (.ireturn, 1) := by decide +kernel
theorem dL_law_572 : decode cL_law 572 = .ok (.iinc 3 1, 3) := by decide +kernel
theorem dL_law_575 : decode cL_law 575 = .ok (.goto (-563), 3) := by decide +kernel
theorem dL_law_578 : decode cL_law 578 = .ok (.aload_n 1, 1) := by decide +kernel
theorem dL_law_579 : decode cL_law 579 = .ok (.invokevirtual 85, 3) := by decide +kernel
theorem dL_law_582 : decode cL_law 582 = .ok (.iload_n 2, 1) := by decide +kernel
theorem dL_law_583 : decode cL_law 583 = .ok (.ifCond .ne 8, 3) := by decide +kernel
theorem dL_law_586 : decode cL_law 586 = .ok (.ldc 102, 2) := by decide +kernel
theorem dL_law_588 : decode cL_law 588 = .ok (.goto 6, 3) := by decide +kernel
theorem dL_law_591 : decode cL_law 591 = .ok (.iload_n 2, 1) := by decide +kernel
theorem dL_law_592 : decode cL_law 592 = .ok (.iconst 1, 1) := by decide +kernel
theorem dL_law_593 : decode cL_law 593 = .ok (.isub, 1) := by decide +kernel
theorem dL_law_594 : decode cL_law 594 = .ok (.if_icmp .ne 7, 3) := by decide +kernel
theorem dL_law_597 : decode cL_law 597 = .ok (.iconst 1, 1) := by decide +kernel
theorem dL_law_598 : decode cL_law 598 = .ok (.goto 4, 3) := by decide +kernel
theorem dL_law_601 : decode cL_law 601 = .ok (.iconst 0, 1) := by decide +kernel
theorem dL_law_602 : decode cL_law 602 = .ok (.ireturn, 1) := by decide +kernel
