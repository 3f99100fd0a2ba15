theorem dX7_miss_159 : decode cX7_miss 159 = .ok (.iload 4, 2) := by decide +kernel
theorem dX7_miss_161 : decode cX7_miss 161 = .ok (.iload 12, 2) := by decide +kernel
theorem dX7_miss_163 : decode cX7_miss 163 = .ok (.invokestatic 249, 3) := by decide +kernel
theorem dX7_miss_166 : decode cX7_miss 166 = .ok (.bipush 10, 2) := by decide +kernel
theorem dX7_miss_168 : decode cX7_miss 168 = .ok (.iload 4, 2) := by decide +kernel
theorem dX7_miss_170 : decode cX7_miss 170 = .ok (.isub, 1) := by decide +kernel
theorem dX7_miss_171 : decode cX7_miss 171 = .ok (.iload 8, 2) := by decide +kernel
theorem dX7_miss_173 : decode cX7_miss 173 = .ok (.iload 12, 2) := by decide +kernel
theorem dX7_miss_175 : decode cX7_miss 175 = .ok (.isub, 1) := by decide +kernel
theorem dX7_miss_176 : decode cX7_miss 176 = .ok (.invokestatic 249, 3) := by decide +kernel
theorem dX7_miss_179 : decode cX7_miss 179 = .ok (.lmul, 1) := by decide +kernel
theorem dX7_miss_180 : decode cX7_miss 180 = .ok (.ladd, 1) := by decide +kernel
theorem dX7_miss_181 : decode cX7_miss 181 = .ok (.lstore 9, 2) := by decide +kernel
theorem dX7_miss_183 : decode cX7_miss 183 = .ok (.iinc 11 1, 3) := by decide +kernel
theorem dX7_miss_186 : decode cX7_miss 186 = .ok (.goto (-58), 3) := by decide +kernel
theorem dX7_miss_189 : decode cX7_miss 189 = .ok (.bipush 10, 2) := by decide +kernel
theorem dX7_miss_191 : decode cX7_miss 191 = .ok (.iload 8, 2) := by decide +kernel
theorem dX7_miss_193 : decode cX7_miss 193 = .ok (.invokestatic 249, 3) := by decide +kernel
theorem dX7_miss_196 : decode cX7_miss 196 = .ok (.lstore 11, 2) := by decide +kernel
theorem dX7_miss_198 : decode cX7_miss 198 = .ok (.lload 11, 2) := by decide +kernel
theorem dX7_miss_200 : decode cX7_miss 200 = .ok (.lload 9, 2) := by decide +kernel
theorem dX7_miss_202 : decode cX7_miss 202 = .ok (.invokestatic 253, 3) := by decide +kernel
theorem dX7_miss_205 : decode cX7_miss 205 = .ok (.lstore 13, 2) := by decide +kernel
theorem dX7_miss_207 : decode cX7_miss 207 = .ok (.lload 13, 2) := by decide +kernel
theorem dX7_miss_209 : decode cX7_miss 209 = .ok (.lconst 0, 1) := by decide +kernel
theorem dX7_miss_210 : decode cX7_miss 210 = .ok (.lcmp, 1) := by decide +kernel
theorem dX7_miss_211 : decode cX7_miss 211 = .ok (.ifCond .ne 7, 3) := by decide +kernel
theorem dX7_miss_214 : decode cX7_miss 214 = .ok (.ldc2_w 257, 3) := by decide +kernel
theorem dX7_miss_217 : decode cX7_miss 217 = .ok (.lreturn, 1) := by decide +kernel
theorem dX7_miss_218 : decode cX7_miss 218 = .ok (.iload 5, 2) := by decide +kernel
theorem dX7_miss_220 : decode cX7_miss 220 = .ok (.ifCond .ne 11, 3) := by decide +kernel
theorem dX7_miss_223 : decode cX7_miss 223 = .ok (.lload 9, 2) := by decide +kernel
theorem dX7_miss_225 : decode cX7_miss 225 = .ok (.lload 13, 2) := by decide +kernel
theorem dX7_miss_227 : decode cX7_miss 227 = .ok (.ldiv, 1) := by decide +kernel
theorem dX7_miss_228 : decode cX7_miss 228 = .ok (.goto 8, 3) := by decide +kernel
theorem dX7_miss_231 : decode cX7_miss 231 = .ok (.lload 11, 2) := by decide +kernel
theorem dX7_miss_233 : decode cX7_miss 233 = .ok (.lload 13, 2) := by decide +kernel
theorem dX7_miss_235 : decode cX7_miss 235 = .ok (.ldiv, 1) := by decide +kernel
theorem dX7_miss_236 : decode cX7_miss 236 = .ok (.lreturn, 1) := by decide +kernel
set_option maxRecDepth 20000 in
theorem ggX7_drawn_X3_isThere : GoodIn wsX7_drawn wsX3_isThere := goodIn_r _ [16, 17, 84, 85, 86, 87, 88, 89, 90, 91, 92] (by decide +kernel) (by decide +kernel)
set_option maxRecDepth 20000 in
theorem gX7_drawn_X3_isThere : GoodIn wsX7_drawn (wsV RX7 144 RX3 yX3_isThere wsX3_isThere) := goodIn_app (goodIn_of _ (by decide +kernel)) ggX7_drawn_X3_isThere
set_option maxRecDepth 20000 in
theorem ggX7_drawn_X7_isOut : GoodIn wsX7_drawn wsX7_isOut := goodIn_r _ [21] (by decide +kernel) (by decide +kernel)
set_option maxRecDepth 20000 in
theorem gX7_drawn_X7_isOut : GoodIn wsX7_drawn (va_wsS RX7 72 yX7_isOut wsX7_isOut) := goodIn_app (goodIn_of _ (by decide +kernel)) ggX7_drawn_X7_isOut
set_option maxRecDepth 20000 in
theorem ggX7_drawn_X2_be : GoodIn wsX7_drawn wsX2_be := goodIn_r _ [26, 27, 28, 29, 30, 93, 94, 95, 96] (by decide +kernel) (by decide +kernel)
set_option maxRecDepth 20000 in
theorem gX7_drawn_X2_be : GoodIn wsX7_drawn (wsV RX7 189 RX2 yX2_be wsX2_be) := goodIn_app (goodIn_of _ (by decide +kernel)) ggX7_drawn_X2_be
set_option maxRecDepth 20000 in
theorem ggX7_drawn_X3_kindAt : GoodIn wsX7_drawn wsX3_kindAt := goodIn_r _ [34, 35, 36, 19, 20, 21, 84, 85, 86, 87, 88, 89, 90, 91, 92] (by decide +kernel) (by decide +kernel)
set_option maxRecDepth 20000 in
theorem gX7_drawn_X3_kindAt : GoodIn wsX7_drawn (wsV RX7 160 RX3 yX3_kindAt wsX3_kindAt) := goodIn_app (goodIn_of _ (by decide +kernel)) ggX7_drawn_X3_kindAt
set_option maxRecDepth 20000 in
theorem ggX7_drawn_X3_forceAt : GoodIn wsX7_drawn wsX3_forceAt := goodIn_r _ [40, 35, 41, 19, 20, 21, 84, 85, 86, 87, 88, 89, 90, 91, 92] (by decide +kernel) (by decide +kernel)
set_option maxRecDepth 20000 in
theorem gX7_drawn_X3_forceAt : GoodIn wsX7_drawn (wsV RX7 163 RX3 yX3_forceAt wsX3_forceAt) := goodIn_app (goodIn_of _ (by decide +kernel)) ggX7_drawn_X3_forceAt
set_option maxRecDepth 20000 in
theorem ggX7_drawn_X2_pass : GoodIn wsX7_drawn wsX2_pass := goodIn_r _ [45, 30, 27, 28, 46, 47, 48, 29, 49, 50, 51, 52, 25, 53, 54, 55, 56, 57, 58, 59, 60, 61, 62, 63, 64, 65, 66, 67, 68, 69, 70, 71, 72, 19, 20, 21, 93, 94, 95, 96, 84, 85, 86, 87, 88, 89, 90, 91, 92] (by decide +kernel) (by decide +kernel)
set_option maxRecDepth 20000 in
theorem gX7_drawn_X2_pass : GoodIn wsX7_drawn (wsV RX7 166 RX2 yX2_pass wsX2_pass) := goodIn_app (goodIn_of _ (by decide +kernel)) ggX7_drawn_X2_pass
theorem dX7_drawn_0 : decode cX7_drawn 0 = .ok (.aload_n 0, 1) := by decide +kernel
theorem dX7_drawn_1 : decode cX7_drawn 1 = .ok (.getfield 22, 3) := by decide +kernel
theorem dX7_drawn_4 : decode cX7_drawn 4 = .ok (.invokevirtual 144, 3) := by decide +kernel
theorem dX7_drawn_7 : decode cX7_drawn 7 = .ok (.ifCond .ne 6, 3) := by decide +kernel
theorem dX7_drawn_10 : decode cX7_drawn 10 = .ok (.ldc 140, 2) := by decide +kernel
theorem dX7_drawn_12 : decode cX7_drawn 12 = .ok (.ireturn, 1) := by decide +kernel
theorem dX7_drawn_13 : decode cX7_drawn 13 = .ok (.iload_n 1, 1) := by decide +kernel
theorem dX7_drawn_14 : decode cX7_drawn 14 = .ok (.iconst 0, 1) := by decide +kernel
theorem dX7_drawn_15 : decode cX7_drawn 15 = .ok (.bipush 40, 2) := by decide +kernel
theorem dX7_drawn_17 : decode cX7_drawn 17 = .ok (.invokestatic 72, 3) := by decide +kernel
theorem dX7_drawn_20 : decode cX7_drawn 20 = .ok (.ifCond .ne 23, 3) := by decide +kernel
theorem dX7_drawn_23 : decode cX7_drawn 23 = .ok (.iload_n 2, 1) := by decide +kernel
theorem dX7_drawn_24 : decode cX7_drawn 24 = .ok (.iconst 1, 1) := by decide +kernel
theorem dX7_drawn_25 : decode cX7_drawn 25 = .ok (.ldc_w 259, 3) := by decide +kernel
theorem dX7_drawn_28 : decode cX7_drawn 28 = .ok (.invokestatic 72, 3) := by decide +kernel
theorem dX7_drawn_31 : decode cX7_drawn 31 = .ok (.ifCond .ne 12, 3) := by decide +kernel
theorem dX7_drawn_34 : decode cX7_drawn 34 = .ok (.iload_n 3, 1) := by decide +kernel
theorem dX7_drawn_35 : decode cX7_drawn 35 = .ok (.iconst 0, 1) := by decide +kernel
theorem dX7_drawn_36 : decode cX7_drawn 36 = .ok (.iconst 1, 1) := by decide +kernel
theorem dX7_drawn_37 : decode cX7_drawn 37 = .ok (.invokestatic 72, 3) := by decide +kernel
theorem dX7_drawn_40 : decode cX7_drawn 40 = .ok (.ifCond .eq 6, 3) := by decide +kernel
theorem dX7_drawn_43 : decode cX7_drawn 43 = .ok (.ldc 76, 2) := by decide +kernel
theorem dX7_drawn_45 : decode cX7_drawn 45 = .ok (.ireturn, 1) := by decide +kernel
theorem dX7_drawn_46 : decode cX7_drawn 46 = .ok (.aload_n 0, 1) := by decide +kernel
theorem dX7_drawn_47 : decode cX7_drawn 47 = .ok (.getfield 60, 3) := by decide +kernel
theorem dX7_drawn_50 : decode cX7_drawn 50 = .ok (.aload_n 0, 1) := by decide +kernel
theorem dX7_drawn_51 : decode cX7_drawn 51 = .ok (.getfield 22, 3) := by decide +kernel
theorem dX7_drawn_54 : decode cX7_drawn 54 = .ok (.getfield 147, 3) := by decide +kernel
theorem dX7_drawn_57 : decode cX7_drawn 57 = .ok (.invokevirtual 189, 3) := by decide +kernel
theorem dX7_drawn_60 : decode cX7_drawn 60 = .ok (.iload_n 2, 1) := by decide +kernel
theorem dX7_drawn_61 : decode cX7_drawn 61 = .ok (.i2l, 1) := by decide +kernel
theorem dX7_drawn_62 : decode cX7_drawn 62 = .ok (.lstore 4, 2) := by decide +kernel
theorem dX7_drawn_64 : decode cX7_drawn 64 = .ok (.iconst 0, 1) := by decide +kernel
theorem dX7_drawn_65 : decode cX7_drawn 65 = .ok (.istore 6, 2) := by decide +kernel
theorem dX7_drawn_67 : decode cX7_drawn 67 = .ok (.iload 6, 2) := by decide +kernel
theorem dX7_drawn_69 : decode cX7_drawn 69 = .ok (.iload_n 1, 1) := by decide +kernel
theorem dX7_drawn_70 : decode cX7_drawn 70 = .ok (.if_icmp .ge 69, 3) := by decide +kernel
theorem dX7_drawn_73 : decode cX7_drawn 73 = .ok (.aload_n 0, 1) := by decide +kernel
theorem dX7_drawn_74 : decode cX7_drawn 74 = .ok (.getfield 60, 3) := by decide +kernel
theorem dX7_drawn_77 : decode cX7_drawn 77 = .ok (.getfield 150, 3) := by decide +kernel
theorem dX7_drawn_80 : decode cX7_drawn 80 = .ok (.ifCond .ne 59, 3) := by decide +kernel
theorem dX7_drawn_83 : decode cX7_drawn 83 = .ok (.lload 4, 2) := by decide +kernel
theorem dX7_drawn_85 : decode cX7_drawn 85 = .ok (.ldc2_w 260, 3) := by decide +kernel
theorem dX7_drawn_88 : decode cX7_drawn 88 = .ok (.lmul, 1) := by decide +kernel
theorem dX7_drawn_89 : decode cX7_drawn 89 = .ok (.ldc2_w 262, 3) := by decide +kernel
theorem dX7_drawn_92 : decode cX7_drawn 92 = .ok (.lrem, 1) := by decide +kernel
theorem dX7_drawn_93 : decode cX7_drawn 93 = .ok (.lstore 4, 2) := by decide +kernel
theorem dX7_drawn_95 : decode cX7_drawn 95 = .ok (.lload 4, 2) := by decide +kernel
theorem dX7_drawn_97 : decode cX7_drawn 97 = .ok (.ldc2_w 264, 3) := by decide +kernel
theorem dX7_drawn_100 : decode cX7_drawn 100 = .ok (.lrem, 1) := by decide +kernel
theorem dX7_drawn_101 : decode cX7_drawn 101 = .ok (.l2i, 1) := by decide +kernel
theorem dX7_drawn_102 : decode cX7_drawn 102 = .ok (.istore 7, 2) := by decide +kernel
theorem dX7_drawn_104 : decode cX7_drawn 104 = .ok (.aload_n 0, 1) := by decide +kernel
theorem dX7_drawn_105 : decode cX7_drawn 105 = .ok (.getfield 60, 3) := by decide +kernel
theorem dX7_drawn_108 : decode cX7_drawn 108 = .ok (.aload_n 0, 1) := by decide +kernel
theorem dX7_drawn_109 : decode cX7_drawn 109 = .ok (.getfield 22, 3) := by decide +kernel
theorem dX7_drawn_112 : decode cX7_drawn 112 = .ok (.aload_n 0, 1) := by decide +kernel
theorem dX7_drawn_113 : decode cX7_drawn 113 = .ok (.getfield 22, 3) := by decide +kernel
theorem dX7_drawn_116 : decode cX7_drawn 116 = .ok (.iload 7, 2) := by decide +kernel
theorem dX7_drawn_118 : decode cX7_drawn 118 = .ok (.invokevirtual 160, 3) := by decide +kernel
theorem dX7_drawn_121 : decode cX7_drawn 121 = .ok (.aload_n 0, 1) := by decide +kernel
theorem dX7_drawn_122 : decode cX7_drawn 122 = .ok (.getfield 22, 3) := by decide +kernel
theorem dX7_drawn_125 : decode cX7_drawn 125 = .ok (.iload 7, 2) := by decide +kernel
theorem dX7_drawn_127 : decode cX7_drawn 127 = .ok (.invokevirtual 163, 3) := by decide +kernel
theorem dX7_drawn_130 : decode cX7_drawn 130 = .ok (.invokevirtual 166, 3) := by decide +kernel
theorem dX7_drawn_133 : decode cX7_drawn 133 = .ok (.iinc 6 1, 3) := by decide +kernel
theorem dX7_drawn_136 : decode cX7_drawn 136 = .ok (.goto (-69), 3) := by decide +kernel
theorem dX7_drawn_139 : decode cX7_drawn 139 = .ok (.iload_n 3, 1) := by decide +kernel
theorem dX7_drawn_140 : decode cX7_drawn 140 = .ok (.ifCond .ne 13, 3) := by decide +kernel
theorem dX7_drawn_143 : decode cX7_drawn 143 = .ok (.aload_n 0, 1) := by decide +kernel
theorem dX7_drawn_144 : decode cX7_drawn 144 = .ok (.getfield 60, 3) := by decide +kernel
theorem dX7_drawn_147 : decode cX7_drawn 147 = .ok (.getfield 170, 3) := by decide +kernel
theorem dX7_drawn_150 : decode cX7_drawn 150 = .ok (.goto 5, 3) := by decide +kernel
theorem dX7_drawn_153 : decode cX7_drawn 153 = .ok (.iload 6, 2) := by decide +kernel
theorem dX7_drawn_155 : decode cX7_drawn 155 = .ok (.ireturn, 1) := by decide +kernel
set_option maxRecDepth 20000 in
theorem ggX7_image_X7_isOut : GoodIn wsX7_image wsX7_isOut := goodIn_r _ [8] (by decide +kernel) (by decide +kernel)
set_option maxRecDepth 20000 in
theorem gX7_image_X7_isOut : GoodIn wsX7_image (va_wsS RX7 72 yX7_isOut wsX7_isOut) := goodIn_app (goodIn_of _ (by decide +kernel)) ggX7_image_X7_isOut
set_option maxRecDepth 20000 in
theorem ggX7_image_X3_isThere : GoodIn wsX7_image wsX3_isThere := goodIn_r _ [13, 14, 51, 52, 53, 54, 55, 56, 57, 58, 59] (by decide +kernel) (by decide +kernel)
set_option maxRecDepth 20000 in
theorem gX7_image_X3_isThere : GoodIn wsX7_image (wsV RX7 144 RX3 yX3_isThere wsX3_isThere) := goodIn_app (goodIn_of _ (by decide +kernel)) ggX7_image_X3_isThere
set_option maxRecDepth 20000 in
theorem ggX7_image_X3_be : GoodIn wsX7_image wsX3_be := goodIn_r _ [18, 19, 20, 21, 22, 23, 24, 25, 26, 14, 27, 28, 29, 30, 31, 32, 33, 34, 35, 36, 37, 38, 39, 51, 52, 53, 54, 55, 56, 57, 58, 59, 60, 61, 62, 63] (by decide +kernel) (by decide +kernel)
set_option maxRecDepth 20000 in
theorem gX7_image_X3_be : GoodIn wsX7_image (wsV RX7 129 RX3 yX3_be wsX3_be) := goodIn_app (goodIn_of _ (by decide +kernel)) ggX7_image_X3_be
theorem dX7_image_0 : decode cX7_image 0 = .ok (.iload_n 1, 1) := by decide +kernel
theorem dX7_image_1 : decode cX7_image 1 = .ok (.iconst 0, 1) := by decide +kernel
theorem dX7_image_2 : decode cX7_image 2 = .ok (.iconst 1, 1) := by decide +kernel
theorem dX7_image_3 : decode cX7_image 3 = .ok (.invokestatic 72, 3) := by decide +kernel
theorem dX7_image_6 : decode cX7_image 6 = .ok (.ifCond .eq 6, 3) := by decide +kernel
theorem dX7_image_9 : decode cX7_image 9 = .ok (.ldc 76, 2) := by decide +kernel
theorem dX7_image_11 : decode cX7_image 11 = .ok (.ireturn, 1) := by decide +kernel
theorem dX7_image_12 : decode cX7_image 12 = .ok (.aload_n 0, 1) := by decide +kernel
theorem dX7_image_13 : decode cX7_image 13 = .ok (.getfield 22, 3) := by decide +kernel
theorem dX7_image_16 : decode cX7_image 16 = .ok (.invokevirtual 144, 3) := by decide +kernel
theorem dX7_image_19 : decode cX7_image 19 = .ok (.ifCond .ne 6, 3) := by decide +kernel
theorem dX7_image_22 : decode cX7_image 22 = .ok (.ldc 140, 2) := by decide +kernel
theorem dX7_image_24 : decode cX7_image 24 = .ok (.ireturn, 1) := by decide +kernel
theorem dX7_image_25 : decode cX7_image 25 = .ok (.aload_n 0, 1) := by decide +kernel
theorem dX7_image_26 : decode cX7_image 26 = .ok (.getfield 17, 3) := by decide +kernel
theorem dX7_image_29 : decode cX7_image 29 = .ok (.iload_n 1, 1) := by decide +kernel
theorem dX7_image_30 : decode cX7_image 30 = .ok (.aaload, 1) := by decide +kernel
theorem dX7_image_31 : decode cX7_image 31 = .ok (.aload_n 0, 1) := by decide +kernel
theorem dX7_image_32 : decode cX7_image 32 = .ok (.getfield 22, 3) := by decide +kernel
theorem dX7_image_35 : decode cX7_image 35 = .ok (.invokevirtual 129, 3) := by decide +kernel
theorem dX7_image_38 : decode cX7_image 38 = .ok (.iconst 1, 1) := by decide +kernel
theorem dX7_image_39 : decode cX7_image 39 = .ok (.ireturn, 1) := by decide +kernel
set_option maxRecDepth 20000 in
theorem ggX7_restore_X7_isOut : GoodIn wsX7_restore wsX7_isOut := goodIn_r _ [9] (by decide +kernel) (by decide +kernel)
set_option maxRecDepth 20000 in
theorem gX7_restore_X7_isOut : GoodIn wsX7_restore (va_wsS RX7 72 yX7_isOut wsX7_isOut) := goodIn_app (goodIn_of _ (by decide +kernel)) ggX7_restore_X7_isOut
set_option maxRecDepth 20000 in
theorem ggX7_restore_X3_isThere : GoodIn wsX7_restore wsX3_isThere := goodIn_r _ [14, 15, 58, 59, 60, 61, 62, 63, 64, 65, 66] (by decide +kernel) (by decide +kernel)
set_option maxRecDepth 20000 in
theorem gX7_restore_X3_isThere : GoodIn wsX7_restore (wsV RX7 144 RX3 yX3_isThere wsX3_isThere) := goodIn_app (goodIn_of _ (by decide +kernel)) ggX7_restore_X3_isThere
set_option maxRecDepth 20000 in
theorem ggX7_restore_X3_be : GoodIn wsX7_restore wsX3_be := goodIn_r _ [19, 20, 21, 22, 23, 24, 25, 26, 27, 15, 28, 29, 30, 31, 32, 33, 34, 35, 36, 37, 38, 39, 40, 58, 59, 60, 61, 62, 63, 64, 65, 66, 67, 68, 69, 70] (by decide +kernel) (by decide +kernel)
set_option maxRecDepth 20000 in
theorem gX7_restore_X3_be : GoodIn wsX7_restore (wsV RX7 129 RX3 yX3_be wsX3_be) := goodIn_app (goodIn_of _ (by decide +kernel)) ggX7_restore_X3_be
set_option maxRecDepth 20000 in
theorem ggX7_restore_X0_clear : GoodIn wsX7_restore wsX0_clear := goodIn_r _ [45, 46, 71, 72, 73, 74, 75, 76] (by decide +kernel) (by decide +kernel)
set_option maxRecDepth 20000 in
theorem gX7_restore_X0_clear : GoodIn wsX7_restore (wsV RX7 133 RX0 yX0_clear wsX0_clear) := goodIn_app (goodIn_of _ (by decide +kernel)) ggX7_restore_X0_clear
theorem dX7_restore_0 : decode cX7_restore 0 = .ok (.iload_n 1, 1) := by decide +kernel
theorem dX7_restore_1 : decode cX7_restore 1 = .ok (.iconst 0, 1) := by decide +kernel
theorem dX7_restore_2 : decode cX7_restore 2 = .ok (.iconst 1, 1) := by decide +kernel
theorem dX7_restore_3 : decode cX7_restore 3 = .ok (.invokestatic 72, 3) := by decide +kernel
theorem dX7_restore_6 : decode cX7_restore 6 = .ok (.ifCond .eq 6, 3) := by decide +kernel
theorem dX7_restore_9 : decode cX7_restore 9 = .ok (.ldc 76, 2) := by decide +kernel
theorem dX7_restore_11 : decode cX7_restore 11 = .ok (.ireturn, 1) := by decide +kernel
theorem dX7_restore_12 : decode cX7_restore 12 = .ok (.aload_n 0, 1) := by decide +kernel
theorem dX7_restore_13 : decode cX7_restore 13 = .ok (.getfield 17, 3) := by decide +kernel
theorem dX7_restore_16 : decode cX7_restore 16 = .ok (.iload_n 1, 1) := by decide +kernel
theorem dX7_restore_17 : decode cX7_restore 17 = .ok (.aaload, 1) := by decide +kernel
theorem dX7_restore_18 : decode cX7_restore 18 = .ok (.invokevirtual 144, 3) := by decide +kernel
theorem dX7_restore_21 : decode cX7_restore 21 = .ok (.ifCond .ne 6, 3) := by decide +kernel
theorem dX7_restore_24 : decode cX7_restore 24 = .ok (.ldc 140, 2) := by decide +kernel
theorem dX7_restore_26 : decode cX7_restore 26 = .ok (.ireturn, 1) := by decide +kernel
theorem dX7_restore_27 : decode cX7_restore 27 = .ok (.aload_n 0, 1) := by decide +kernel
theorem dX7_restore_28 : decode cX7_restore 28 = .ok (.getfield 22, 3) := by decide +kernel
theorem dX7_restore_31 : decode cX7_restore 31 = .ok (.aload_n 0, 1) := by decide +kernel
theorem dX7_restore_32 : decode cX7_restore 32 = .ok (.getfield 17, 3) := by decide +kernel
theorem dX7_restore_35 : decode cX7_restore 35 = .ok (.iload_n 1, 1) := by decide +kernel
theorem dX7_restore_36 : decode cX7_restore 36 = .ok (.aaload, 1) := by decide +kernel
theorem dX7_restore_37 : decode cX7_restore 37 = .ok (.invokevirtual 129, 3) := by decide +kernel
theorem dX7_restore_40 : decode cX7_restore 40 = .ok (.aload_n 0, 1) := by decide +kernel
theorem dX7_restore_41 : decode cX7_restore 41 = .ok (.getfield 39, 3) := by decide +kernel
theorem dX7_restore_44 : decode cX7_restore 44 = .ok (.invokevirtual 133, 3) := by decide +kernel
theorem dX7_restore_47 : decode cX7_restore 47 = .ok (.iconst 1, 1) := by decide +kernel
theorem dX7_restore_48 : decode cX7_restore 48 = .ok (.ireturn, 1) := by decide +kernel
set_option maxRecDepth 20000 in
theorem ggX7_kind_X7_isOut : GoodIn wsX7_kind wsX7_isOut := goodIn_r _ [7] (by decide +kernel) (by decide +kernel)
set_option maxRecDepth 20000 in
theorem gX7_kind_X7_isOut : GoodIn wsX7_kind (va_wsS RX7 72 yX7_isOut wsX7_isOut) := goodIn_app (goodIn_of _ (by decide +kernel)) ggX7_kind_X7_isOut
set_option maxRecDepth 20000 in
theorem ggX7_kind_X3_kindAt : GoodIn wsX7_kind wsX3_kindAt := goodIn_r _ [12, 13, 14, 5, 6, 7, 26, 27, 28, 29, 30, 31, 32, 33, 34] (by decide +kernel) (by decide +kernel)
set_option maxRecDepth 20000 in
theorem gX7_kind_X3_kindAt : GoodIn wsX7_kind (wsV RX7 160 RX3 yX3_kindAt wsX3_kindAt) := goodIn_app (goodIn_of _ (by decide +kernel)) ggX7_kind_X3_kindAt
theorem dX7_kind_0 : decode cX7_kind 0 = .ok (.iload_n 1, 1) := by decide +kernel
theorem dX7_kind_1 : decode cX7_kind 1 = .ok (.iconst 0, 1) := by decide +kernel
theorem dX7_kind_2 : decode cX7_kind 2 = .ok (.aload_n 0, 1) := by decide +kernel
theorem dX7_kind_3 : decode cX7_kind 3 = .ok (.getfield 22, 3) := by decide +kernel
theorem dX7_kind_6 : decode cX7_kind 6 = .ok (.getfield 134, 3) := by decide +kernel
theorem dX7_kind_9 : decode cX7_kind 9 = .ok (.iconst 1, 1) := by decide +kernel
theorem dX7_kind_10 : decode cX7_kind 10 = .ok (.isub, 1) := by decide +kernel
theorem dX7_kind_11 : decode cX7_kind 11 = .ok (.invokestatic 72, 3) := by decide +kernel
theorem dX7_kind_14 : decode cX7_kind 14 = .ok (.ifCond .eq 8, 3) := by decide +kernel
theorem dX7_kind_17 : decode cX7_kind 17 = .ok (.ldc 76, 2) := by decide +kernel
theorem dX7_kind_19 : decode cX7_kind 19 = .ok (.goto 11, 3) := by decide +kernel
theorem dX7_kind_22 : decode cX7_kind 22 = .ok (.aload_n 0, 1) := by decide +kernel
theorem dX7_kind_23 : decode cX7_kind 23 = .ok (.getfield 22, 3) := by decide +kernel
theorem dX7_kind_26 : decode cX7_kind 26 = .ok (.iload_n 1, 1) := by decide +kernel
theorem dX7_kind_27 : decode cX7_kind 27 = .ok (.invokevirtual 160, 3) := by decide +kernel
theorem dX7_kind_30 : decode cX7_kind 30 = .ok (.ireturn, 1) := by decide +kernel
set_option maxRecDepth 20000 in
theorem ggX7_as_X7_isOut : GoodIn wsX7_as wsX7_isOut := goodIn_r _ [8] (by decide +kernel) (by decide +kernel)
set_option maxRecDepth 20000 in
theorem gX7_as_X7_isOut : GoodIn wsX7_as (va_wsS RX7 72 yX7_isOut wsX7_isOut) := goodIn_app (goodIn_of _ (by decide +kernel)) ggX7_as_X7_isOut
set_option maxRecDepth 20000 in
theorem ggX7_as_X3_kindAt : GoodIn wsX7_as wsX3_kindAt := goodIn_r _ [13, 14, 15, 6, 7, 8, 36, 37, 38, 39, 40, 41, 42, 43, 44] (by decide +kernel) (by decide +kernel)
set_option maxRecDepth 20000 in
theorem gX7_as_X3_kindAt : GoodIn wsX7_as (wsV RX7 160 RX3 yX3_kindAt wsX3_kindAt) := goodIn_app (goodIn_of _ (by decide +kernel)) ggX7_as_X3_kindAt
set_option maxRecDepth 20000 in
theorem ggX7_as_X7_isOfKind : GoodIn wsX7_as wsX7_isOfKind := goodIn_r _ [18, 19] (by decide +kernel) (by decide +kernel)
set_option maxRecDepth 20000 in
theorem gX7_as_X7_isOfKind : GoodIn wsX7_as (va_wsS RX7 266 yX7_isOfKind wsX7_isOfKind) := goodIn_app (goodIn_of _ (by decide +kernel)) ggX7_as_X7_isOfKind
set_option maxRecDepth 20000 in
theorem ggX7_as_X7_found : GoodIn wsX7_as wsX7_found := goodIn_r _ [23, 4, 24, 25, 26, 27, 28, 29, 30, 31, 32, 33, 34, 35] (by decide +kernel) (by decide +kernel)
set_option maxRecDepth 20000 in
theorem gX7_as_X7_found : GoodIn wsX7_as (wsV RX7 77 RX7 yX7_found wsX7_found) := goodIn_app (goodIn_of _ (by decide +kernel)) ggX7_as_X7_found
theorem dX7_as_0 : decode cX7_as 0 = .ok (.iload_n 1, 1) := by decide +kernel
theorem dX7_as_1 : decode cX7_as 1 = .ok (.iconst 0, 1) := by decide +kernel
theorem dX7_as_2 : decode cX7_as 2 = .ok (.aload_n 0, 1) := by decide +kernel
theorem dX7_as_3 : decode cX7_as 3 = .ok (.getfield 22, 3) := by decide +kernel
theorem dX7_as_6 : decode cX7_as 6 = .ok (.getfield 134, 3) := by decide +kernel
theorem dX7_as_9 : decode cX7_as 9 = .ok (.iconst 1, 1) := by decide +kernel
theorem dX7_as_10 : decode cX7_as 10 = .ok (.isub, 1) := by decide +kernel
theorem dX7_as_11 : decode cX7_as 11 = .ok (.invokestatic 72, 3) := by decide +kernel
theorem dX7_as_14 : decode cX7_as 14 = .ok (.ifCond .ne 12, 3) := by decide +kernel
theorem dX7_as_17 : decode cX7_as 17 = .ok (.iload_n 2, 1) := by decide +kernel
theorem dX7_as_18 : decode cX7_as 18 = .ok (.iconst 0, 1) := by decide +kernel
theorem dX7_as_19 : decode cX7_as 19 = .ok (.iconst 5, 1) := by decide +kernel
theorem dX7_as_20 : decode cX7_as 20 = .ok (.invokestatic 72, 3) := by decide +kernel
theorem dX7_as_23 : decode cX7_as 23 = .ok (.ifCond .eq 6, 3) := by decide +kernel
theorem dX7_as_26 : decode cX7_as 26 = .ok (.ldc 76, 2) := by decide +kernel
theorem dX7_as_28 : decode cX7_as 28 = .ok (.ireturn, 1) := by decide +kernel
theorem dX7_as_29 : decode cX7_as 29 = .ok (.aload_n 0, 1) := by decide +kernel
theorem dX7_as_30 : decode cX7_as 30 = .ok (.getfield 22, 3) := by decide +kernel
theorem dX7_as_33 : decode cX7_as 33 = .ok (.iload_n 1, 1) := by decide +kernel
theorem dX7_as_34 : decode cX7_as 34 = .ok (.invokevirtual 160, 3) := by decide +kernel
theorem dX7_as_37 : decode cX7_as 37 = .ok (.iload_n 2, 1) := by decide +kernel
theorem dX7_as_38 : decode cX7_as 38 = .ok (.invokestatic 266, 3) := by decide +kernel
theorem dX7_as_41 : decode cX7_as 41 = .ok (.ifCond .ne 9, 3) := by decide +kernel
theorem dX7_as_44 : decode cX7_as 44 = .ok (.aload_n 0, 1) := by decide +kernel
theorem dX7_as_45 : decode cX7_as 45 = .ok (.iconst 3, 1) := by decide +kernel
theorem dX7_as_46 : decode cX7_as 46 = .ok (.invokevirtual 77, 3) := by decide +kernel
theorem dX7_as_49 : decode cX7_as 49 = .ok (.ireturn, 1) := by decide +kernel
theorem dX7_as_50 : decode cX7_as 50 = .ok (.aload_n 0, 1) := by decide +kernel
theorem dX7_as_51 : decode cX7_as 51 = .ok (.iconst 0, 1) := by decide +kernel
theorem dX7_as_52 : decode cX7_as 52 = .ok (.putfield 68, 3) := by decide +kernel
theorem dX7_as_55 : decode cX7_as 55 = .ok (.iload_n 1, 1) := by decide +kernel
theorem dX7_as_56 : decode cX7_as 56 = .ok (.ireturn, 1) := by decide +kernel
set_option maxRecDepth 20000 in
theorem ggX7_ask_X7_isOut : GoodIn wsX7_ask wsX7_isOut := goodIn_r _ [8] (by decide +kernel) (by decide +kernel)
set_option maxRecDepth 20000 in
theorem gX7_ask_X7_isOut : GoodIn wsX7_ask (va_wsS RX7 72 yX7_isOut wsX7_isOut) := goodIn_app (goodIn_of _ (by decide +kernel)) ggX7_ask_X7_isOut
set_option maxRecDepth 20000 in
theorem ggX7_ask_X1_begin : GoodIn wsX7_ask wsX1_begin := goodIn_r _ [13, 14, 15, 16, 17, 18, 19, 20, 21, 22, 23, 24, 25, 26, 27, 6, 7, 8, 28, 29, 30, 31, 32, 101, 102, 103, 104, 105, 106, 92, 93, 94, 95, 96, 97, 98, 99, 100, 107, 108, 109, 110] (by decide +kernel) (by decide +kernel)
set_option maxRecDepth 20000 in
theorem gX7_ask_X1_begin : GoodIn wsX7_ask (wsV RX7 270 RX1 yX1_begin wsX1_begin) := goodIn_app (goodIn_of _ (by decide +kernel)) ggX7_ask_X1_begin
set_option maxRecDepth 20000 in
theorem ggX7_ask_X1_size : GoodIn wsX7_ask wsX1_size := goodIn_r _ [36, 15, 37, 38, 39, 12, 40, 14, 41, 42, 43, 44, 45, 46, 47, 48, 49, 17, 50, 51, 52, 53, 54, 55, 56, 57, 20, 58, 59, 60, 61, 16, 62, 63, 64, 65, 66, 67, 68, 69, 101, 102, 103, 104, 105, 106] (by decide +kernel) (by decide +kernel)
set_option maxRecDepth 20000 in
theorem gX7_ask_X1_size : GoodIn wsX7_ask (wsV RX7 273 RX1 yX1_size wsX1_size) := goodIn_app (goodIn_of _ (by decide +kernel)) ggX7_ask_X1_size
set_option maxRecDepth 20000 in
theorem ggX7_ask_X1_mark : GoodIn wsX7_ask wsX1_mark := goodIn_r _ [73, 15, 74, 7, 75, 76, 77, 78, 79, 12, 80, 37, 38, 39, 40, 14, 41, 58, 59, 60, 61, 16, 62, 63, 64, 65, 66, 67, 68, 69, 46, 47, 48, 49, 17, 50, 51, 52, 53, 54, 55, 56, 57, 20, 101, 102, 103, 104, 105, 106] (by decide +kernel) (by decide +kernel)
set_option maxRecDepth 20000 in
theorem gX7_ask_X1_mark : GoodIn wsX7_ask (wsV RX7 275 RX1 yX1_mark wsX1_mark) := goodIn_app (goodIn_of _ (by decide +kernel)) ggX7_ask_X1_mark
theorem dX7_ask_0 : decode cX7_ask 0 = .ok (.iload_n 1, 1) := by decide +kernel
theorem dX7_ask_1 : decode cX7_ask 1 = .ok (.iconst 0, 1) := by decide +kernel
theorem dX7_ask_2 : decode cX7_ask 2 = .ok (.aload_n 0, 1) := by decide +kernel
theorem dX7_ask_3 : decode cX7_ask 3 = .ok (.getfield 22, 3) := by decide +kernel
theorem dX7_ask_6 : decode cX7_ask 6 = .ok (.getfield 134, 3) := by decide +kernel
theorem dX7_ask_9 : decode cX7_ask 9 = .ok (.iconst 1, 1) := by decide +kernel
theorem dX7_ask_10 : decode cX7_ask 10 = .ok (.isub, 1) := by decide +kernel
theorem dX7_ask_11 : decode cX7_ask 11 = .ok (.invokestatic 72, 3) := by decide +kernel
theorem dX7_ask_14 : decode cX7_ask 14 = .ok (.ifCond .ne 12, 3) := by decide +kernel
theorem dX7_ask_17 : decode cX7_ask 17 = .ok (.iload_n 2, 1) := by decide +kernel
theorem dX7_ask_18 : decode cX7_ask 18 = .ok (.iconst 0, 1) := by decide +kernel
theorem dX7_ask_19 : decode cX7_ask 19 = .ok (.iconst 1, 1) := by decide +kernel
theorem dX7_ask_20 : decode cX7_ask 20 = .ok (.invokestatic 72, 3) := by decide +kernel
theorem dX7_ask_23 : decode cX7_ask 23 = .ok (.ifCond .eq 6, 3) := by decide +kernel
theorem dX7_ask_26 : decode cX7_ask 26 = .ok (.ldc 76, 2) := by decide +kernel
theorem dX7_ask_28 : decode cX7_ask 28 = .ok (.ireturn, 1) := by decide +kernel
theorem dX7_ask_29 : decode cX7_ask 29 = .ok (.aload_n 0, 1) := by decide +kernel
theorem dX7_ask_30 : decode cX7_ask 30 = .ok (.getfield 53, 3) := by decide +kernel
theorem dX7_ask_33 : decode cX7_ask 33 = .ok (.aload_n 0, 1) := by decide +kernel
theorem dX7_ask_34 : decode cX7_ask 34 = .ok (.getfield 22, 3) := by decide +kernel
theorem dX7_ask_37 : decode cX7_ask 37 = .ok (.iload_n 1, 1) := by decide +kernel
theorem dX7_ask_38 : decode cX7_ask 38 = .ok (.invokevirtual 270, 3) := by decide +kernel
theorem dX7_ask_41 : decode cX7_ask 41 = .ok (.iload_n 2, 1) := by decide +kernel
theorem dX7_ask_42 : decode cX7_ask 42 = .ok (.ifCond .ne 13, 3) := by decide +kernel
theorem dX7_ask_45 : decode cX7_ask 45 = .ok (.aload_n 0, 1) := by decide +kernel
theorem dX7_ask_46 : decode cX7_ask 46 = .ok (.getfield 53, 3) := by decide +kernel
theorem dX7_ask_49 : decode cX7_ask 49 = .ok (.invokevirtual 273, 3) := by decide +kernel
theorem dX7_ask_52 : decode cX7_ask 52 = .ok (.goto 10, 3) := by decide +kernel
theorem dX7_ask_55 : decode cX7_ask 55 = .ok (.aload_n 0, 1) := by decide +kernel
theorem dX7_ask_56 : decode cX7_ask 56 = .ok (.getfield 53, 3) := by decide +kernel
theorem dX7_ask_59 : decode cX7_ask 59 = .ok (.invokevirtual 275, 3) := by decide +kernel
theorem dX7_ask_62 : decode cX7_ask 62 = .ok (.ireturn, 1) := by decide +kernel
set_option maxRecDepth 20000 in
theorem ggX7_trace_X7_isOut : GoodIn wsX7_trace wsX7_isOut := goodIn_r _ [8] (by decide +kernel) (by decide +kernel)
set_option maxRecDepth 20000 in
theorem gX7_trace_X7_isOut : GoodIn wsX7_trace (va_wsS RX7 72 yX7_isOut wsX7_isOut) := goodIn_app (goodIn_of _ (by decide +kernel)) ggX7_trace_X7_isOut
theorem dX7_trace_0 : decode cX7_trace 0 = .ok (.iload_n 1, 1) := by decide +kernel
theorem dX7_trace_1 : decode cX7_trace 1 = .ok (.iconst 0, 1) := by decide +kernel
theorem dX7_trace_2 : decode cX7_trace 2 = .ok (.aload_n 0, 1) := by decide +kernel
theorem dX7_trace_3 : decode cX7_trace 3 = .ok (.getfield 53, 3) := by decide +kernel
theorem dX7_trace_6 : decode cX7_trace 6 = .ok (.getfield 278, 3) := by decide +kernel
theorem dX7_trace_9 : decode cX7_trace 9 = .ok (.iconst 1, 1) := by decide +kernel
theorem dX7_trace_10 : decode cX7_trace 10 = .ok (.isub, 1) := by decide +kernel
theorem dX7_trace_11 : decode cX7_trace 11 = .ok (.invokestatic 72, 3) := by decide +kernel
theorem dX7_trace_14 : decode cX7_trace 14 = .ok (.ifCond .eq 8, 3) := by decide +kernel
theorem dX7_trace_17 : decode cX7_trace 17 = .ok (.ldc 196, 2) := by decide +kernel
theorem dX7_trace_19 : decode cX7_trace 19 = .ok (.goto 12, 3) := by decide +kernel
theorem dX7_trace_22 : decode cX7_trace 22 = .ok (.aload_n 0, 1) := by decide +kernel
theorem dX7_trace_23 : decode cX7_trace 23 = .ok (.getfield 53, 3) := by decide +kernel
theorem dX7_trace_26 : decode cX7_trace 26 = .ok (.getfield 281, 3) := by decide +kernel
theorem dX7_trace_29 : decode cX7_trace 29 = .ok (.iload_n 1, 1) := by decide +kernel
theorem dX7_trace_30 : decode cX7_trace 30 = .ok (.iaload, 1) := by decide +kernel
theorem dX7_trace_31 : decode cX7_trace 31 = .ok (.ireturn, 1) := by decide +kernel
set_option maxRecDepth 20000 in
theorem ggX7_count_X7_rowsThere : GoodIn wsX7_count wsX7_rowsThere := goodIn_r _ [16, 17, 18, 19, 20, 21, 22, 23, 24, 25, 26, 27, 28, 29, 30, 31, 32, 33, 34, 54, 55, 56] (by decide +kernel) (by decide +kernel)
set_option maxRecDepth 20000 in
theorem gX7_count_X7_rowsThere : GoodIn wsX7_count (wsV RX7 284 RX7 yX7_rowsThere wsX7_rowsThere) := goodIn_app (goodIn_of _ (by decide +kernel)) ggX7_count_X7_rowsThere
theorem dX7_count_0 : decode cX7_count 0 = .ok (.iload_n 1, 1) := by decide +kernel
theorem dX7_count_1 : decode cX7_count 1 = .ok (.tableswitch 108 0 7 #[47, 52, 60, 68, 76, 84, 92, 100], 47) := by decide +kernel
theorem dX7_count_48 : decode cX7_count 48 = .ok (.aload_n 0, 1) := by decide +kernel
theorem dX7_count_49 : decode cX7_count 49 = .ok (.invokevirtual 284, 3) := by decide +kernel
theorem dX7_count_52 : decode cX7_count 52 = .ok (.ireturn, 1) := by decide +kernel
theorem dX7_count_53 : decode cX7_count 53 = .ok (.aload_n 0, 1) := by decide +kernel
theorem dX7_count_54 : decode cX7_count 54 = .ok (.getfield 22, 3) := by decide +kernel
theorem dX7_count_57 : decode cX7_count 57 = .ok (.getfield 173, 3) := by decide +kernel
theorem dX7_count_60 : decode cX7_count 60 = .ok (.ireturn, 1) := by decide +kernel
theorem dX7_count_61 : decode cX7_count 61 = .ok (.aload_n 0, 1) := by decide +kernel
theorem dX7_count_62 : decode cX7_count 62 = .ok (.getfield 22, 3) := by decide +kernel
theorem dX7_count_65 : decode cX7_count 65 = .ok (.getfield 134, 3) := by decide +kernel
theorem dX7_count_68 : decode cX7_count 68 = .ok (.ireturn, 1) := by decide +kernel
theorem dX7_count_69 : decode cX7_count 69 = .ok (.aload_n 0, 1) := by decide +kernel
theorem dX7_count_70 : decode cX7_count 70 = .ok (.getfield 22, 3) := by decide +kernel
theorem dX7_count_73 : decode cX7_count 73 = .ok (.getfield 176, 3) := by decide +kernel
theorem dX7_count_76 : decode cX7_count 76 = .ok (.ireturn, 1) := by decide +kernel
theorem dX7_count_77 : decode cX7_count 77 = .ok (.aload_n 0, 1) := by decide +kernel
theorem dX7_count_78 : decode cX7_count 78 = .ok (.getfield 22, 3) := by decide +kernel
theorem dX7_count_81 : decode cX7_count 81 = .ok (.getfield 287, 3) := by decide +kernel
theorem dX7_count_84 : decode cX7_count 84 = .ok (.ireturn, 1) := by decide +kernel
theorem dX7_count_85 : decode cX7_count 85 = .ok (.aload_n 0, 1) := by decide +kernel
theorem dX7_count_86 : decode cX7_count 86 = .ok (.getfield 22, 3) := by decide +kernel
theorem dX7_count_89 : decode cX7_count 89 = .ok (.getfield 153, 3) := by decide +kernel
theorem dX7_count_92 : decode cX7_count 92 = .ok (.ireturn, 1) := by decide +kernel
theorem dX7_count_93 : decode cX7_count 93 = .ok (.aload_n 0, 1) := by decide +kernel
theorem dX7_count_94 : decode cX7_count 94 = .ok (.getfield 39, 3) := by decide +kernel
theorem dX7_count_97 : decode cX7_count 97 = .ok (.getfield 137, 3) := by decide +kernel
theorem dX7_count_100 : decode cX7_count 100 = .ok (.ireturn, 1) := by decide +kernel
theorem dX7_count_101 : decode cX7_count 101 = .ok (.aload_n 0, 1) := by decide +kernel
theorem dX7_count_102 : decode cX7_count 102 = .ok (.getfield 32, 3) := by decide +kernel
theorem dX7_count_105 : decode cX7_count 105 = .ok (.getfield 116, 3) := by decide +kernel
theorem dX7_count_108 : decode cX7_count 108 = .ok (.ireturn, 1) := by decide +kernel
theorem dX7_count_109 : decode cX7_count 109 = .ok (.ldc 76, 2) := by decide +kernel
theorem dX7_count_111 : decode cX7_count 111 = .ok (.ireturn, 1) := by decide +kernel
theorem dX7_status_0 : decode cX7_status 0 = .ok (.aload_n 0, 1) := by decide +kernel
theorem dX7_status_1 : decode cX7_status 1 = .ok (.getfield 68, 3) := by decide +kernel
theorem dX7_status_4 : decode cX7_status 4 = .ok (.ireturn, 1) := by decide +kernel
theorem dX7_isOut_0 : decode cX7_isOut 0 = .ok (.iload_n 0, 1) := by decide +kernel
theorem dX7_isOut_1 : decode cX7_isOut 1 = .ok (.iload_n 1, 1) := by decide +kernel
theorem dX7_isOut_2 : decode cX7_isOut 2 = .ok (.if_icmp .lt 8, 3) := by decide +kernel
theorem dX7_isOut_5 : decode cX7_isOut 5 = .ok (.iload_n 0, 1) := by decide +kernel
theorem dX7_isOut_6 : decode cX7_isOut 6 = .ok (.iload_n 2, 1) := by decide +kernel
theorem dX7_isOut_7 : decode cX7_isOut 7 = .ok (.if_icmp .le 7, 3) := by decide +kernel
theorem dX7_isOut_10 : decode cX7_isOut 10 = .ok (.iconst 1, 1) := by decide +kernel
theorem dX7_isOut_11 : decode cX7_isOut 11 = .ok (.goto 4, 3) := by decide +kernel
theorem dX7_isOut_14 : decode cX7_isOut 14 = .ok (.iconst 0, 1) := by decide +kernel
theorem dX7_isOut_15 : decode cX7_isOut 15 = .ok (.ireturn, 1) := by decide +kernel
theorem dX7_found_0 : decode cX7_found 0 = .ok (.aload_n 0, 1) := by decide +kernel
theorem dX7_found_1 : decode cX7_found 1 = .ok (.iload_n 1, 1) := by decide +kernel
theorem dX7_found_2 : decode cX7_found 2 = .ok (.putfield 68, 3) := by decide +kernel
theorem dX7_found_5 : decode cX7_found 5 = .ok (.ldc_w 290, 3) := by decide +kernel
theorem dX7_found_8 : decode cX7_found 8 = .ok (.iload_n 1, 1) := by decide +kernel
theorem dX7_found_9 : decode cX7_found 9 = .ok (.isub, 1) := by decide +kernel
theorem dX7_found_10 : decode cX7_found 10 = .ok (.ireturn, 1) := by decide +kernel
set_option maxRecDepth 20000 in
theorem ggX7_rowsThere_X5_isMissing : GoodIn wsX7_rowsThere wsX5_isMissing := goodIn_r _ [6, 7, 19, 20, 21] (by decide +kernel) (by decide +kernel)
set_option maxRecDepth 20000 in
theorem gX7_rowsThere_X5_isMissing : GoodIn wsX7_rowsThere (wsV RX7 92 RX5 yX5_isMissing wsX5_isMissing) := goodIn_app (goodIn_of _ (by decide +kernel)) ggX7_rowsThere_X5_isMissing
theorem dX7_rowsThere_0 : decode cX7_rowsThere 0 = .ok (.iconst 0, 1) := by decide +kernel
theorem dX7_rowsThere_1 : decode cX7_rowsThere 1 = .ok (.istore_n 1, 1) := by decide +kernel
theorem dX7_rowsThere_2 : decode cX7_rowsThere 2 = .ok (.iconst 0, 1) := by decide +kernel
theorem dX7_rowsThere_3 : decode cX7_rowsThere 3 = .ok (.istore_n 2, 1) := by decide +kernel
theorem dX7_rowsThere_4 : decode cX7_rowsThere 4 = .ok (.iload_n 2, 1) := by decide +kernel
theorem dX7_rowsThere_5 : decode cX7_rowsThere 5 = .ok (.bipush 8, 2) := by decide +kernel
theorem dX7_rowsThere_7 : decode cX7_rowsThere 7 = .ok (.if_icmp .ge 24, 3) := by decide +kernel
theorem dX7_rowsThere_10 : decode cX7_rowsThere 10 = .ok (.aload_n 0, 1) := by decide +kernel
theorem dX7_rowsThere_11 : decode cX7_rowsThere 11 = .ok (.getfield 11, 3) := by decide +kernel
theorem dX7_rowsThere_14 : decode cX7_rowsThere 14 = .ok (.iload_n 2, 1) := by decide +kernel
theorem dX7_rowsThere_15 : decode cX7_rowsThere 15 = .ok (.aaload, 1) := by decide +kernel
theorem dX7_rowsThere_16 : decode cX7_rowsThere 16 = .ok (.invokevirtual 92, 3) := by decide +kernel
theorem dX7_rowsThere_19 : decode cX7_rowsThere 19 = .ok (.ifCond .ne 6, 3) := by decide +kernel
theorem dX7_rowsThere_22 : decode cX7_rowsThere 22 = .ok (.iinc 1 1, 3) := by decide +kernel
theorem dX7_rowsThere_25 : decode cX7_rowsThere 25 = .ok (.iinc 2 1, 3) := by decide +kernel
theorem dX7_rowsThere_28 : decode cX7_rowsThere 28 = .ok (.goto (-24), 3) := by decide +kernel
theorem dX7_rowsThere_31 : decode cX7_rowsThere 31 = .ok (.iload_n 1, 1) := by decide +kernel
theorem dX7_rowsThere_32 : decode cX7_rowsThere 32 = .ok (.ireturn, 1) := by decide +kernel
set_option maxRecDepth 20000 in
theorem ggX7_tapsIn_X7_isOut : GoodIn wsX7_tapsIn wsX7_isOut := goodIn_r _ [8] (by decide +kernel) (by decide +kernel)
set_option maxRecDepth 20000 in
theorem gX7_tapsIn_X7_isOut : GoodIn wsX7_tapsIn (va_wsS RX7 72 yX7_isOut wsX7_isOut) := goodIn_app (goodIn_of _ (by decide +kernel)) ggX7_tapsIn_X7_isOut
theorem dX7_tapsIn_0 : decode cX7_tapsIn 0 = .ok (.iconst 0, 1) := by decide +kernel
theorem dX7_tapsIn_1 : decode cX7_tapsIn 1 = .ok (.istore 4, 2) := by decide +kernel
theorem dX7_tapsIn_3 : decode cX7_tapsIn 3 = .ok (.iload_n 2, 1) := by decide +kernel
theorem dX7_tapsIn_4 : decode cX7_tapsIn 4 = .ok (.istore 5, 2) := by decide +kernel
theorem dX7_tapsIn_6 : decode cX7_tapsIn 6 = .ok (.iload 5, 2) := by decide +kernel
theorem dX7_tapsIn_8 : decode cX7_tapsIn 8 = .ok (.iload_n 2, 1) := by decide +kernel
theorem dX7_tapsIn_9 : decode cX7_tapsIn 9 = .ok (.iload_n 3, 1) := by decide +kernel
theorem dX7_tapsIn_10 : decode cX7_tapsIn 10 = .ok (.iadd, 1) := by decide +kernel
theorem dX7_tapsIn_11 : decode cX7_tapsIn 11 = .ok (.if_icmp .ge 48, 3) := by decide +kernel
theorem dX7_tapsIn_14 : decode cX7_tapsIn 14 = .ok (.aload_n 1, 1) := by decide +kernel
theorem dX7_tapsIn_15 : decode cX7_tapsIn 15 = .ok (.getfield 99, 3) := by decide +kernel
theorem dX7_tapsIn_18 : decode cX7_tapsIn 18 = .ok (.iload 5, 2) := by decide +kernel
theorem dX7_tapsIn_20 : decode cX7_tapsIn 20 = .ok (.iaload, 1) := by decide +kernel
theorem dX7_tapsIn_21 : decode cX7_tapsIn 21 = .ok (.iconst (-1), 1) := by decide +kernel
theorem dX7_tapsIn_22 : decode cX7_tapsIn 22 = .ok (.aload_n 0, 1) := by decide +kernel
theorem dX7_tapsIn_23 : decode cX7_tapsIn 23 = .ok (.getfield 22, 3) := by decide +kernel
theorem dX7_tapsIn_26 : decode cX7_tapsIn 26 = .ok (.getfield 134, 3) := by decide +kernel
theorem dX7_tapsIn_29 : decode cX7_tapsIn 29 = .ok (.iconst 1, 1) := by decide +kernel
theorem dX7_tapsIn_30 : decode cX7_tapsIn 30 = .ok (.isub, 1) := by decide +kernel
theorem dX7_tapsIn_31 : decode cX7_tapsIn 31 = .ok (.invokestatic 72, 3) := by decide +kernel
theorem dX7_tapsIn_34 : decode cX7_tapsIn 34 = .ok (.ifCond .eq 6, 3) := by decide +kernel
theorem dX7_tapsIn_37 : decode cX7_tapsIn 37 = .ok (.ldc 196, 2) := by decide +kernel
theorem dX7_tapsIn_39 : decode cX7_tapsIn 39 = .ok (.ireturn, 1) := by decide +kernel
theorem dX7_tapsIn_40 : decode cX7_tapsIn 40 = .ok (.aload_n 1, 1) := by decide +kernel
theorem dX7_tapsIn_41 : decode cX7_tapsIn 41 = .ok (.getfield 99, 3) := by decide +kernel
theorem dX7_tapsIn_44 : decode cX7_tapsIn 44 = .ok (.iload 5, 2) := by decide +kernel
theorem dX7_tapsIn_46 : decode cX7_tapsIn 46 = .ok (.iaload, 1) := by decide +kernel
theorem dX7_tapsIn_47 : decode cX7_tapsIn 47 = .ok (.ifCond .lt 6, 3) := by decide +kernel
theorem dX7_tapsIn_50 : decode cX7_tapsIn 50 = .ok (.iinc 4 1, 3) := by decide +kernel
theorem dX7_tapsIn_53 : decode cX7_tapsIn 53 = .ok (.iinc 5 1, 3) := by decide +kernel
theorem dX7_tapsIn_56 : decode cX7_tapsIn 56 = .ok (.goto (-50), 3) := by decide +kernel
theorem dX7_tapsIn_59 : decode cX7_tapsIn 59 = .ok (.iload 4, 2) := by decide +kernel
theorem dX7_tapsIn_61 : decode cX7_tapsIn 61 = .ok (.ireturn, 1) := by decide +kernel
set_option maxRecDepth 20000 in
theorem ggX7_leastCost_X3_isThere : GoodIn wsX7_leastCost wsX3_isThere := goodIn_r _ [12, 13, 123, 124, 125, 126, 127, 128, 129, 130, 131] (by decide +kernel) (by decide +kernel)
set_option maxRecDepth 20000 in
theorem gX7_leastCost_X3_isThere : GoodIn wsX7_leastCost (wsV RX7 144 RX3 yX3_isThere wsX3_isThere) := goodIn_app (goodIn_of _ (by decide +kernel)) ggX7_leastCost_X3_isThere
set_option maxRecDepth 20000 in
theorem ggX7_leastCost_X7_isOut : GoodIn wsX7_leastCost wsX7_isOut := goodIn_r _ [17] (by decide +kernel) (by decide +kernel)
set_option maxRecDepth 20000 in
theorem gX7_leastCost_X7_isOut : GoodIn wsX7_leastCost (va_wsS RX7 72 yX7_isOut wsX7_isOut) := goodIn_app (goodIn_of _ (by decide +kernel)) ggX7_leastCost_X7_isOut
set_option maxRecDepth 20000 in
theorem ggX7_leastCost_X4_walk : GoodIn wsX7_leastCost wsX4_walk := goodIn_r _ [22, 23, 24, 25, 26, 27, 28, 29, 30, 31, 32, 33, 34, 35, 36, 37, 38, 39, 21, 40, 41, 42, 43, 44, 45, 46, 47, 48, 49, 50, 15, 16, 17, 51, 52, 53, 54, 55, 56, 57, 58, 59, 60, 61, 62, 63, 64, 65, 66, 67, 68, 11, 69, 70, 71, 72, 73, 74, 75, 76, 77, 78, 79, 80, 81, 82, 83, 84, 85, 86, 87, 88, 89, 90, 91, 92, 93, 94, 95, 96, 97, 98, 99, 100, 101, 102, 132, 133, 134, 135, 136, 137, 138, 139, 140, 123, 124, 125, 126, 127, 128, 129, 130, 131] (by decide +kernel) (by decide +kernel)
set_option maxRecDepth 20000 in
theorem gX7_leastCost_X4_walk : GoodIn wsX7_leastCost (wsV RX7 222 RX4 yX4_walk wsX4_walk) := goodIn_app (goodIn_of _ (by decide +kernel)) ggX7_leastCost_X4_walk
set_option maxRecDepth 20000 in
theorem ggX7_leastCost_X4_cost : GoodIn wsX7_leastCost wsX4_cost := goodIn_r _ [106, 25, 136, 137, 138, 139, 140] (by decide +kernel) (by decide +kernel)
set_option maxRecDepth 20000 in
theorem gX7_leastCost_X4_cost : GoodIn wsX7_leastCost (wsV RX7 229 RX4 yX4_cost wsX4_cost) := goodIn_app (goodIn_of _ (by decide +kernel)) ggX7_leastCost_X4_cost
set_option maxRecDepth 20000 in
theorem ggX7_leastCost_X4_first : GoodIn wsX7_leastCost wsX4_first := goodIn_r _ [110, 25, 111, 136, 137, 138, 139, 140] (by decide +kernel) (by decide +kernel)
set_option maxRecDepth 20000 in
theorem gX7_leastCost_X4_first : GoodIn wsX7_leastCost (wsV RX7 291 RX4 yX4_first wsX4_first) := goodIn_app (goodIn_of _ (by decide +kernel)) ggX7_leastCost_X4_first
theorem dX7_leastCost_0 : decode cX7_leastCost 0 = .ok (.aload_n 0, 1) := by decide +kernel
theorem dX7_leastCost_1 : decode cX7_leastCost 1 = .ok (.getfield 22, 3) := by decide +kernel
theorem dX7_leastCost_4 : decode cX7_leastCost 4 = .ok (.invokevirtual 144, 3) := by decide +kernel
theorem dX7_leastCost_7 : decode cX7_leastCost 7 = .ok (.ifCond .ne 6, 3) := by decide +kernel
theorem dX7_leastCost_10 : decode cX7_leastCost 10 = .ok (.ldc 140, 2) := by decide +kernel
theorem dX7_leastCost_12 : decode cX7_leastCost 12 = .ok (.ireturn, 1) := by decide +kernel
theorem dX7_leastCost_13 : decode cX7_leastCost 13 = .ok (.iload_n 1, 1) := by decide +kernel
theorem dX7_leastCost_14 : decode cX7_leastCost 14 = .ok (.iconst 0, 1) := by decide +kernel
theorem dX7_leastCost_15 : decode cX7_leastCost 15 = .ok (.iconst 1, 1) := by decide +kernel
theorem dX7_leastCost_16 : decode cX7_leastCost 16 = .ok (.invokestatic 72, 3) := by decide +kernel
theorem dX7_leastCost_19 : decode cX7_leastCost 19 = .ok (.ifCond .eq 6, 3) := by decide +kernel
theorem dX7_leastCost_22 : decode cX7_leastCost 22 = .ok (.ldc 76, 2) := by decide +kernel
theorem dX7_leastCost_24 : decode cX7_leastCost 24 = .ok (.ireturn, 1) := by decide +kernel
theorem dX7_leastCost_25 : decode cX7_leastCost 25 = .ok (.aload_n 0, 1) := by decide +kernel
theorem dX7_leastCost_26 : decode cX7_leastCost 26 = .ok (.getfield 46, 3) := by decide +kernel
theorem dX7_leastCost_29 : decode cX7_leastCost 29 = .ok (.aload_n 0, 1) := by decide +kernel
theorem dX7_leastCost_30 : decode cX7_leastCost 30 = .ok (.getfield 22, 3) := by decide +kernel
theorem dX7_leastCost_33 : decode cX7_leastCost 33 = .ok (.aload_n 0, 1) := by decide +kernel
theorem dX7_leastCost_34 : decode cX7_leastCost 34 = .ok (.getfield 22, 3) := by decide +kernel
theorem dX7_leastCost_37 : decode cX7_leastCost 37 = .ok (.getfield 147, 3) := by decide +kernel
theorem dX7_leastCost_40 : decode cX7_leastCost 40 = .ok (.iload_n 2, 1) := by decide +kernel
theorem dX7_leastCost_41 : decode cX7_leastCost 41 = .ok (.iload_n 3, 1) := by decide +kernel
theorem dX7_leastCost_42 : decode cX7_leastCost 42 = .ok (.ldc 221, 2) := by decide +kernel
theorem dX7_leastCost_44 : decode cX7_leastCost 44 = .ok (.invokevirtual 222, 3) := by decide +kernel
theorem dX7_leastCost_47 : decode cX7_leastCost 47 = .ok (.aload_n 0, 1) := by decide +kernel
theorem dX7_leastCost_48 : decode cX7_leastCost 48 = .ok (.getfield 46, 3) := by decide +kernel
theorem dX7_leastCost_51 : decode cX7_leastCost 51 = .ok (.invokevirtual 229, 3) := by decide +kernel
theorem dX7_leastCost_54 : decode cX7_leastCost 54 = .ok (.ldc 221, 2) := by decide +kernel
theorem dX7_leastCost_56 : decode cX7_leastCost 56 = .ok (.if_icmp .ne 6, 3) := by decide +kernel
theorem dX7_leastCost_59 : decode cX7_leastCost 59 = .ok (.ldc 196, 2) := by decide +kernel
theorem dX7_leastCost_61 : decode cX7_leastCost 61 = .ok (.ireturn, 1) := by decide +kernel
theorem dX7_leastCost_62 : decode cX7_leastCost 62 = .ok (.iload_n 1, 1) := by decide +kernel
theorem dX7_leastCost_63 : decode cX7_leastCost 63 = .ok (.ifCond .ne 13, 3) := by decide +kernel
theorem dX7_leastCost_66 : decode cX7_leastCost 66 = .ok (.aload_n 0, 1) := by decide +kernel
theorem dX7_leastCost_67 : decode cX7_leastCost 67 = .ok (.getfield 46, 3) := by decide +kernel
theorem dX7_leastCost_70 : decode cX7_leastCost 70 = .ok (.invokevirtual 229, 3) := by decide +kernel
theorem dX7_leastCost_73 : decode cX7_leastCost 73 = .ok (.goto 10, 3) := by decide +kernel
theorem dX7_leastCost_76 : decode cX7_leastCost 76 = .ok (.aload_n 0, 1) := by decide +kernel
theorem dX7_leastCost_77 : decode cX7_leastCost 77 = .ok (.getfield 46, 3) := by decide +kernel
theorem dX7_leastCost_80 : decode cX7_leastCost 80 = .ok (.invokevirtual 291, 3) := by decide +kernel
theorem dX7_leastCost_83 : decode cX7_leastCost 83 = .ok (.ireturn, 1) := by decide +kernel
set_option maxRecDepth 20000 in
theorem ggX7_canBeHome_X4_walk : GoodIn wsX7_canBeHome wsX4_walk := goodIn_r _ [8, 9, 10, 11, 12, 13, 14, 15, 16, 17, 18, 19, 20, 21, 22, 23, 24, 25, 7, 26, 27, 28, 29, 30, 31, 32, 33, 34, 35, 36, 37, 38, 39, 40, 41, 42, 43, 44, 45, 46, 47, 48, 49, 50, 51, 52, 53, 54, 55, 56, 57, 58, 59, 60, 61, 62, 63, 64, 65, 66, 67, 68, 69, 70, 71, 72, 73, 74, 75, 76, 77, 78, 79, 80, 81, 82, 83, 84, 85, 86, 87, 88, 89, 90, 91, 92, 108, 109, 110, 111, 112, 113, 114, 115, 116, 117, 118, 119, 120, 121, 122, 123, 124, 125] (by decide +kernel) (by decide +kernel)
set_option maxRecDepth 20000 in
theorem gX7_canBeHome_X4_walk : GoodIn wsX7_canBeHome (wsV RX7 222 RX4 yX4_walk wsX4_walk) := goodIn_app (goodIn_of _ (by decide +kernel)) ggX7_canBeHome_X4_walk
set_option maxRecDepth 20000 in
theorem ggX7_canBeHome_X4_cost : GoodIn wsX7_canBeHome wsX4_cost := goodIn_r _ [96, 11, 112, 113, 114, 115, 116] (by decide +kernel) (by decide +kernel)
set_option maxRecDepth 20000 in
theorem gX7_canBeHome_X4_cost : GoodIn wsX7_canBeHome (wsV RX7 229 RX4 yX4_cost wsX4_cost) := goodIn_app (goodIn_of _ (by decide +kernel)) ggX7_canBeHome_X4_cost
theorem dX7_canBeHome_0 : decode cX7_canBeHome 0 = .ok (.aload_n 0, 1) := by decide +kernel
theorem dX7_canBeHome_1 : decode cX7_canBeHome 1 = .ok (.getfield 46, 3) := by decide +kernel
theorem dX7_canBeHome_4 : decode cX7_canBeHome 4 = .ok (.aload_n 0, 1) := by decide +kernel
theorem dX7_canBeHome_5 : decode cX7_canBeHome 5 = .ok (.getfield 22, 3) := by decide +kernel
theorem dX7_canBeHome_8 : decode cX7_canBeHome 8 = .ok (.aload_n 1, 1) := by decide +kernel
theorem dX7_canBeHome_9 : decode cX7_canBeHome 9 = .ok (.iconst 1, 1) := by decide +kernel
theorem dX7_canBeHome_10 : decode cX7_canBeHome 10 = .ok (.iconst 0, 1) := by decide +kernel
theorem dX7_canBeHome_11 : decode cX7_canBeHome 11 = .ok (.ldc 221, 2) := by decide +kernel
theorem dX7_canBeHome_13 : decode cX7_canBeHome 13 = .ok (.invokevirtual 222, 3) := by decide +kernel
theorem dX7_canBeHome_16 : decode cX7_canBeHome 16 = .ok (.aload_n 0, 1) := by decide +kernel
theorem dX7_canBeHome_17 : decode cX7_canBeHome 17 = .ok (.getfield 46, 3) := by decide +kernel
theorem dX7_canBeHome_20 : decode cX7_canBeHome 20 = .ok (.invokevirtual 229, 3) := by decide +kernel
theorem dX7_canBeHome_23 : decode cX7_canBeHome 23 = .ok (.ldc 221, 2) := by decide +kernel
theorem dX7_canBeHome_25 : decode cX7_canBeHome 25 = .ok (.if_icmp .eq 7, 3) := by decide +kernel
theorem dX7_canBeHome_28 : decode cX7_canBeHome 28 = .ok (.iconst 1, 1) := by decide +kernel
theorem dX7_canBeHome_29 : decode cX7_canBeHome 29 = .ok (.goto 4, 3) := by decide +kernel
theorem dX7_canBeHome_32 : decode cX7_canBeHome 32 = .ok (.iconst 0, 1) := by decide +kernel
theorem dX7_canBeHome_33 : decode cX7_canBeHome 33 = .ok (.ireturn, 1) := by decide +kernel
set_option maxRecDepth 20000 in
theorem ggX7_fewestIfFlat_X4_walk : GoodIn wsX7_fewestIfFlat wsX4_walk := goodIn_r _ [9, 10, 11, 12, 13, 14, 15, 16, 17, 18, 19, 20, 21, 22, 23, 24, 25, 26, 8, 27, 28, 29, 30, 31, 32, 33, 34, 35, 36, 37, 38, 39, 40, 41, 42, 43, 44, 45, 46, 47, 48, 49, 50, 51, 52, 53, 54, 55, 56, 57, 58, 59, 60, 61, 62, 63, 64, 65, 66, 67, 68, 69, 70, 71, 72, 73, 74, 75, 76, 77, 78, 79, 80, 81, 82, 83, 84, 85, 86, 87, 88, 89, 90, 91, 92, 93, 118, 119, 120, 121, 122, 123, 124, 125, 126, 109, 110, 111, 112, 113, 114, 115, 116, 117] (by decide +kernel) (by decide +kernel)
set_option maxRecDepth 20000 in
theorem gX7_fewestIfFlat_X4_walk : GoodIn wsX7_fewestIfFlat (wsV RX7 222 RX4 yX4_walk wsX4_walk) := goodIn_app (goodIn_of _ (by decide +kernel)) ggX7_fewestIfFlat_X4_walk
set_option maxRecDepth 20000 in
theorem ggX7_fewestIfFlat_X4_cost : GoodIn wsX7_fewestIfFlat wsX4_cost := goodIn_r _ [97, 12, 122, 123, 124, 125, 126] (by decide +kernel) (by decide +kernel)
set_option maxRecDepth 20000 in
theorem gX7_fewestIfFlat_X4_cost : GoodIn wsX7_fewestIfFlat (wsV RX7 229 RX4 yX4_cost wsX4_cost) := goodIn_app (goodIn_of _ (by decide +kernel)) ggX7_fewestIfFlat_X4_cost
theorem dX7_fewestIfFlat_0 : decode cX7_fewestIfFlat 0 = .ok (.aload_n 0, 1) := by decide +kernel
theorem dX7_fewestIfFlat_1 : decode cX7_fewestIfFlat 1 = .ok (.getfield 22, 3) := by decide +kernel
theorem dX7_fewestIfFlat_4 : decode cX7_fewestIfFlat 4 = .ok (.getfield 183, 3) := by decide +kernel
theorem dX7_fewestIfFlat_7 : decode cX7_fewestIfFlat 7 = .ok (.iload_n 1, 1) := by decide +kernel
theorem dX7_fewestIfFlat_8 : decode cX7_fewestIfFlat 8 = .ok (.iaload, 1) := by decide +kernel
theorem dX7_fewestIfFlat_9 : decode cX7_fewestIfFlat 9 = .ok (.istore_n 3, 1) := by decide +kernel
theorem dX7_fewestIfFlat_10 : decode cX7_fewestIfFlat 10 = .ok (.iload_n 3, 1) := by decide +kernel
theorem dX7_fewestIfFlat_11 : decode cX7_fewestIfFlat 11 = .ok (.ifCond .ne 5, 3) := by decide +kernel
theorem dX7_fewestIfFlat_14 : decode cX7_fewestIfFlat 14 = .ok (.iload_n 2, 1) := by decide +kernel
theorem dX7_fewestIfFlat_15 : decode cX7_fewestIfFlat 15 = .ok (.ireturn, 1) := by decide +kernel
theorem dX7_fewestIfFlat_16 : decode cX7_fewestIfFlat 16 = .ok (.aload_n 0, 1) := by decide +kernel
theorem dX7_fewestIfFlat_17 : decode cX7_fewestIfFlat 17 = .ok (.getfield 22, 3) := by decide +kernel
theorem dX7_fewestIfFlat_20 : decode cX7_fewestIfFlat 20 = .ok (.getfield 183, 3) := by decide +kernel
theorem dX7_fewestIfFlat_23 : decode cX7_fewestIfFlat 23 = .ok (.iload_n 1, 1) := by decide +kernel
theorem dX7_fewestIfFlat_24 : decode cX7_fewestIfFlat 24 = .ok (.iconst 0, 1) := by decide +kernel
theorem dX7_fewestIfFlat_25 : decode cX7_fewestIfFlat 25 = .ok (.iastore, 1) := by decide +kernel
theorem dX7_fewestIfFlat_26 : decode cX7_fewestIfFlat 26 = .ok (.aload_n 0, 1) := by decide +kernel
theorem dX7_fewestIfFlat_27 : decode cX7_fewestIfFlat 27 = .ok (.getfield 46, 3) := by decide +kernel
theorem dX7_fewestIfFlat_30 : decode cX7_fewestIfFlat 30 = .ok (.aload_n 0, 1) := by decide +kernel
theorem dX7_fewestIfFlat_31 : decode cX7_fewestIfFlat 31 = .ok (.getfield 22, 3) := by decide +kernel
theorem dX7_fewestIfFlat_34 : decode cX7_fewestIfFlat 34 = .ok (.aload_n 0, 1) := by decide +kernel
theorem dX7_fewestIfFlat_35 : decode cX7_fewestIfFlat 35 = .ok (.getfield 22, 3) := by decide +kernel
theorem dX7_fewestIfFlat_38 : decode cX7_fewestIfFlat 38 = .ok (.getfield 147, 3) := by decide +kernel
theorem dX7_fewestIfFlat_41 : decode cX7_fewestIfFlat 41 = .ok (.iconst 1, 1) := by decide +kernel
theorem dX7_fewestIfFlat_42 : decode cX7_fewestIfFlat 42 = .ok (.iconst 0, 1) := by decide +kernel
theorem dX7_fewestIfFlat_43 : decode cX7_fewestIfFlat 43 = .ok (.iload_n 2, 1) := by decide +kernel
theorem dX7_fewestIfFlat_44 : decode cX7_fewestIfFlat 44 = .ok (.invokevirtual 222, 3) := by decide +kernel
theorem dX7_fewestIfFlat_47 : decode cX7_fewestIfFlat 47 = .ok (.aload_n 0, 1) := by decide +kernel
theorem dX7_fewestIfFlat_48 : decode cX7_fewestIfFlat 48 = .ok (.getfield 22, 3) := by decide +kernel
theorem dX7_fewestIfFlat_51 : decode cX7_fewestIfFlat 51 = .ok (.getfield 183, 3) := by decide +kernel
theorem dX7_fewestIfFlat_54 : decode cX7_fewestIfFlat 54 = .ok (.iload_n 1, 1) := by decide +kernel
theorem dX7_fewestIfFlat_55 : decode cX7_fewestIfFlat 55 = .ok (.iload_n 3, 1) := by decide +kernel
theorem dX7_fewestIfFlat_56 : decode cX7_fewestIfFlat 56 = .ok (.iastore, 1) := by decide +kernel
theorem dX7_fewestIfFlat_57 : decode cX7_fewestIfFlat 57 = .ok (.aload_n 0, 1) := by decide +kernel
theorem dX7_fewestIfFlat_58 : decode cX7_fewestIfFlat 58 = .ok (.getfield 46, 3) := by decide +kernel
theorem dX7_fewestIfFlat_61 : decode cX7_fewestIfFlat 61 = .ok (.invokevirtual 229, 3) := by decide +kernel
theorem dX7_fewestIfFlat_64 : decode cX7_fewestIfFlat 64 = .ok (.ireturn, 1) := by decide +kernel
set_option maxRecDepth 20000 in
theorem ggX7_pacesSeen_X2_stand : GoodIn wsX7_pacesSeen wsX2_stand := goodIn_r _ [10, 11, 12, 13, 14, 74, 75, 76, 77] (by decide +kernel) (by decide +kernel)
set_option maxRecDepth 20000 in
theorem gX7_pacesSeen_X2_stand : GoodIn wsX7_pacesSeen (wsV RX7 179 RX2 yX2_stand wsX2_stand) := goodIn_app (goodIn_of _ (by decide +kernel)) ggX7_pacesSeen_X2_stand
set_option maxRecDepth 20000 in
theorem ggX7_pacesSeen_X2_pass : GoodIn wsX7_pacesSeen wsX2_pass := goodIn_r _ [18, 14, 11, 12, 19, 20, 21, 13, 22, 23, 24, 25, 9, 26, 27, 28, 29, 30, 31, 32, 33, 34, 35, 36, 37, 38, 39, 40, 41, 42, 43, 44, 45, 46, 47, 48, 74, 75, 76, 77, 65, 66, 67, 68, 69, 70, 71, 72, 73] (by decide +kernel) (by decide +kernel)
set_option maxRecDepth 20000 in
theorem gX7_pacesSeen_X2_pass : GoodIn wsX7_pacesSeen (wsV RX7 166 RX2 yX2_pass wsX2_pass) := goodIn_app (goodIn_of _ (by decide +kernel)) ggX7_pacesSeen_X2_pass
set_option maxRecDepth 20000 in
theorem ggX7_pacesSeen_X7_comesSo : GoodIn wsX7_pacesSeen wsX7_comesSo := goodIn_r _ [52, 1, 4, 53, 2, 15, 16, 17, 9, 18, 14, 11, 12, 19, 20, 21, 13, 22, 23, 24, 25, 26, 27, 28, 29, 30, 31, 32, 33, 34, 35, 36, 37, 38, 39, 40, 41, 42, 43, 44, 45, 46, 47, 48, 54, 55, 56, 57, 58, 59, 60, 61, 62, 63, 64, 74, 75, 76, 77, 78, 79, 80, 65, 66, 67, 68, 69, 70, 71, 72, 73] (by decide +kernel) (by decide +kernel)
set_option maxRecDepth 20000 in
theorem gX7_pacesSeen_X7_comesSo : GoodIn wsX7_pacesSeen (wsV RX7 217 RX7 yX7_comesSo wsX7_comesSo) := goodIn_app (goodIn_of _ (by decide +kernel)) ggX7_pacesSeen_X7_comesSo
theorem dX7_pacesSeen_0 : decode cX7_pacesSeen 0 = .ok (.iconst 0, 1) := by decide +kernel
theorem dX7_pacesSeen_1 : decode cX7_pacesSeen 1 = .ok (.istore 4, 2) := by decide +kernel
theorem dX7_pacesSeen_3 : decode cX7_pacesSeen 3 = .ok (.iconst 1, 1) := by decide +kernel
theorem dX7_pacesSeen_4 : decode cX7_pacesSeen 4 = .ok (.istore 5, 2) := by decide +kernel
theorem dX7_pacesSeen_6 : decode cX7_pacesSeen 6 = .ok (.iload 5, 2) := by decide +kernel
theorem dX7_pacesSeen_8 : decode cX7_pacesSeen 8 = .ok (.bipush 9, 2) := by decide +kernel
theorem dX7_pacesSeen_10 : decode cX7_pacesSeen 10 = .ok (.if_icmp .gt 70, 3) := by decide +kernel
theorem dX7_pacesSeen_13 : decode cX7_pacesSeen 13 = .ok (.aload_n 0, 1) := by decide +kernel
theorem dX7_pacesSeen_14 : decode cX7_pacesSeen 14 = .ok (.getfield 60, 3) := by decide +kernel
theorem dX7_pacesSeen_17 : decode cX7_pacesSeen 17 = .ok (.aload_n 0, 1) := by decide +kernel
theorem dX7_pacesSeen_18 : decode cX7_pacesSeen 18 = .ok (.getfield 22, 3) := by decide +kernel
theorem dX7_pacesSeen_21 : decode cX7_pacesSeen 21 = .ok (.getfield 147, 3) := by decide +kernel
theorem dX7_pacesSeen_24 : decode cX7_pacesSeen 24 = .ok (.getfield 170, 3) := by decide +kernel
theorem dX7_pacesSeen_27 : decode cX7_pacesSeen 27 = .ok (.iload 5, 2) := by decide +kernel
theorem dX7_pacesSeen_29 : decode cX7_pacesSeen 29 = .ok (.aload_n 0, 1) := by decide +kernel
theorem dX7_pacesSeen_30 : decode cX7_pacesSeen 30 = .ok (.getfield 22, 3) := by decide +kernel
theorem dX7_pacesSeen_33 : decode cX7_pacesSeen 33 = .ok (.getfield 147, 3) := by decide +kernel
theorem dX7_pacesSeen_36 : decode cX7_pacesSeen 36 = .ok (.getfield 197, 3) := by decide +kernel
theorem dX7_pacesSeen_39 : decode cX7_pacesSeen 39 = .ok (.invokevirtual 179, 3) := by decide +kernel
theorem dX7_pacesSeen_42 : decode cX7_pacesSeen 42 = .ok (.aload_n 0, 1) := by decide +kernel
theorem dX7_pacesSeen_43 : decode cX7_pacesSeen 43 = .ok (.getfield 60, 3) := by decide +kernel
theorem dX7_pacesSeen_46 : decode cX7_pacesSeen 46 = .ok (.aload_n 0, 1) := by decide +kernel
theorem dX7_pacesSeen_47 : decode cX7_pacesSeen 47 = .ok (.getfield 22, 3) := by decide +kernel
theorem dX7_pacesSeen_50 : decode cX7_pacesSeen 50 = .ok (.iconst 0, 1) := by decide +kernel
theorem dX7_pacesSeen_51 : decode cX7_pacesSeen 51 = .ok (.iconst 0, 1) := by decide +kernel
theorem dX7_pacesSeen_52 : decode cX7_pacesSeen 52 = .ok (.invokevirtual 166, 3) := by decide +kernel
theorem dX7_pacesSeen_55 : decode cX7_pacesSeen 55 = .ok (.aload_n 0, 1) := by decide +kernel
theorem dX7_pacesSeen_56 : decode cX7_pacesSeen 56 = .ok (.aload_n 1, 1) := by decide +kernel
theorem dX7_pacesSeen_57 : decode cX7_pacesSeen 57 = .ok (.iload_n 2, 1) := by decide +kernel
theorem dX7_pacesSeen_58 : decode cX7_pacesSeen 58 = .ok (.iload_n 3, 1) := by decide +kernel
theorem dX7_pacesSeen_59 : decode cX7_pacesSeen 59 = .ok (.invokevirtual 217, 3) := by decide +kernel
theorem dX7_pacesSeen_62 : decode cX7_pacesSeen 62 = .ok (.ifCond .eq 12, 3) := by decide +kernel
theorem dX7_pacesSeen_65 : decode cX7_pacesSeen 65 = .ok (.iload 4, 2) := by decide +kernel
theorem dX7_pacesSeen_67 : decode cX7_pacesSeen 67 = .ok (.iconst 1, 1) := by decide +kernel
theorem dX7_pacesSeen_68 : decode cX7_pacesSeen 68 = .ok (.iload 5, 2) := by decide +kernel
theorem dX7_pacesSeen_70 : decode cX7_pacesSeen 70 = .ok (.ishl, 1) := by decide +kernel
theorem dX7_pacesSeen_71 : decode cX7_pacesSeen 71 = .ok (.ior, 1) := by decide +kernel
theorem dX7_pacesSeen_72 : decode cX7_pacesSeen 72 = .ok (.istore 4, 2) := by decide +kernel
theorem dX7_pacesSeen_74 : decode cX7_pacesSeen 74 = .ok (.iinc 5 1, 3) := by decide +kernel
theorem dX7_pacesSeen_77 : decode cX7_pacesSeen 77 = .ok (.goto (-71), 3) := by decide +kernel
theorem dX7_pacesSeen_80 : decode cX7_pacesSeen 80 = .ok (.iload 4, 2) := by decide +kernel
theorem dX7_pacesSeen_82 : decode cX7_pacesSeen 82 = .ok (.ireturn, 1) := by decide +kernel
set_option maxRecDepth 20000 in
theorem ggX7_leansSeen_X2_stand : GoodIn wsX7_leansSeen wsX2_stand := goodIn_r _ [11, 12, 13, 14, 15, 75, 76, 77, 78] (by decide +kernel) (by decide +kernel)
set_option maxRecDepth 20000 in
theorem gX7_leansSeen_X2_stand : GoodIn wsX7_leansSeen (wsV RX7 179 RX2 yX2_stand wsX2_stand) := goodIn_app (goodIn_of _ (by decide +kernel)) ggX7_leansSeen_X2_stand
set_option maxRecDepth 20000 in
theorem ggX7_leansSeen_X2_pass : GoodIn wsX7_leansSeen wsX2_pass := goodIn_r _ [19, 15, 12, 13, 20, 21, 22, 14, 23, 24, 25, 26, 10, 27, 28, 29, 30, 31, 32, 33, 34, 35, 36, 37, 38, 39, 40, 41, 42, 43, 44, 45, 46, 47, 48, 49, 75, 76, 77, 78, 66, 67, 68, 69, 70, 71, 72, 73, 74] (by decide +kernel) (by decide +kernel)
set_option maxRecDepth 20000 in
theorem gX7_leansSeen_X2_pass : GoodIn wsX7_leansSeen (wsV RX7 166 RX2 yX2_pass wsX2_pass) := goodIn_app (goodIn_of _ (by decide +kernel)) ggX7_leansSeen_X2_pass
set_option maxRecDepth 20000 in
theorem ggX7_leansSeen_X7_comesSo : GoodIn wsX7_leansSeen wsX7_comesSo := goodIn_r _ [53, 3, 5, 54, 1, 16, 17, 18, 10, 19, 15, 12, 13, 20, 21, 22, 14, 23, 24, 25, 26, 27, 28, 29, 30, 31, 32, 33, 34, 35, 36, 37, 38, 39, 40, 41, 42, 43, 44, 45, 46, 47, 48, 49, 55, 56, 57, 58, 59, 60, 61, 62, 63, 64, 65, 75, 76, 77, 78, 79, 80, 81, 66, 67, 68, 69, 70, 71, 72, 73, 74] (by decide +kernel) (by decide +kernel)
set_option maxRecDepth 20000 in
theorem gX7_leansSeen_X7_comesSo : GoodIn wsX7_leansSeen (wsV RX7 217 RX7 yX7_comesSo wsX7_comesSo) := goodIn_app (goodIn_of _ (by decide +kernel)) ggX7_leansSeen_X7_comesSo
theorem dX7_leansSeen_0 : decode cX7_leansSeen 0 = .ok (.iconst 0, 1) := by decide +kernel
theorem dX7_leansSeen_1 : decode cX7_leansSeen 1 = .ok (.istore 4, 2) := by decide +kernel
theorem dX7_leansSeen_3 : decode cX7_leansSeen 3 = .ok (.iconst 0, 1) := by decide +kernel
theorem dX7_leansSeen_4 : decode cX7_leansSeen 4 = .ok (.aload_n 0, 1) := by decide +kernel
theorem dX7_leansSeen_5 : decode cX7_leansSeen 5 = .ok (.getfield 22, 3) := by decide +kernel
theorem dX7_leansSeen_8 : decode cX7_leansSeen 8 = .ok (.getfield 176, 3) := by decide +kernel
theorem dX7_leansSeen_11 : decode cX7_leansSeen 11 = .ok (.isub, 1) := by decide +kernel
theorem dX7_leansSeen_12 : decode cX7_leansSeen 12 = .ok (.istore 5, 2) := by decide +kernel
theorem dX7_leansSeen_14 : decode cX7_leansSeen 14 = .ok (.iload 5, 2) := by decide +kernel
theorem dX7_leansSeen_16 : decode cX7_leansSeen 16 = .ok (.aload_n 0, 1) := by decide +kernel
theorem dX7_leansSeen_17 : decode cX7_leansSeen 17 = .ok (.getfield 22, 3) := by decide +kernel
theorem dX7_leansSeen_20 : decode cX7_leansSeen 20 = .ok (.getfield 176, 3) := by decide +kernel
theorem dX7_leansSeen_23 : decode cX7_leansSeen 23 = .ok (.if_icmp .gt 72, 3) := by decide +kernel
theorem dX7_leansSeen_26 : decode cX7_leansSeen 26 = .ok (.aload_n 0, 1) := by decide +kernel
theorem dX7_leansSeen_27 : decode cX7_leansSeen 27 = .ok (.getfield 60, 3) := by decide +kernel
theorem dX7_leansSeen_30 : decode cX7_leansSeen 30 = .ok (.aload_n 0, 1) := by decide +kernel
theorem dX7_leansSeen_31 : decode cX7_leansSeen 31 = .ok (.getfield 22, 3) := by decide +kernel
theorem dX7_leansSeen_34 : decode cX7_leansSeen 34 = .ok (.getfield 147, 3) := by decide +kernel
theorem dX7_leansSeen_37 : decode cX7_leansSeen 37 = .ok (.getfield 170, 3) := by decide +kernel
theorem dX7_leansSeen_40 : decode cX7_leansSeen 40 = .ok (.aload_n 0, 1) := by decide +kernel
theorem dX7_leansSeen_41 : decode cX7_leansSeen 41 = .ok (.getfield 22, 3) := by decide +kernel
theorem dX7_leansSeen_44 : decode cX7_leansSeen 44 = .ok (.getfield 147, 3) := by decide +kernel
theorem dX7_leansSeen_47 : decode cX7_leansSeen 47 = .ok (.getfield 204, 3) := by decide +kernel
theorem dX7_leansSeen_50 : decode cX7_leansSeen 50 = .ok (.iload 5, 2) := by decide +kernel
theorem dX7_leansSeen_52 : decode cX7_leansSeen 52 = .ok (.invokevirtual 179, 3) := by decide +kernel
theorem dX7_leansSeen_55 : decode cX7_leansSeen 55 = .ok (.aload_n 0, 1) := by decide +kernel
theorem dX7_leansSeen_56 : decode cX7_leansSeen 56 = .ok (.getfield 60, 3) := by decide +kernel
theorem dX7_leansSeen_59 : decode cX7_leansSeen 59 = .ok (.aload_n 0, 1) := by decide +kernel
theorem dX7_leansSeen_60 : decode cX7_leansSeen 60 = .ok (.getfield 22, 3) := by decide +kernel
theorem dX7_leansSeen_63 : decode cX7_leansSeen 63 = .ok (.iconst 0, 1) := by decide +kernel
theorem dX7_leansSeen_64 : decode cX7_leansSeen 64 = .ok (.iconst 0, 1) := by decide +kernel
theorem dX7_leansSeen_65 : decode cX7_leansSeen 65 = .ok (.invokevirtual 166, 3) := by decide +kernel
theorem dX7_leansSeen_68 : decode cX7_leansSeen 68 = .ok (.aload_n 0, 1) := by decide +kernel
theorem dX7_leansSeen_69 : decode cX7_leansSeen 69 = .ok (.aload_n 1, 1) := by decide +kernel
theorem dX7_leansSeen_70 : decode cX7_leansSeen 70 = .ok (.iload_n 2, 1) := by decide +kernel
theorem dX7_leansSeen_71 : decode cX7_leansSeen 71 = .ok (.iload_n 3, 1) := by decide +kernel
theorem dX7_leansSeen_72 : decode cX7_leansSeen 72 = .ok (.invokevirtual 217, 3) := by decide +kernel
theorem dX7_leansSeen_75 : decode cX7_leansSeen 75 = .ok (.ifCond .eq 14, 3) := by decide +kernel
theorem dX7_leansSeen_78 : decode cX7_leansSeen 78 = .ok (.iload 4, 2) := by decide +kernel
theorem dX7_leansSeen_80 : decode cX7_leansSeen 80 = .ok (.iconst 1, 1) := by decide +kernel
theorem dX7_leansSeen_81 : decode cX7_leansSeen 81 = .ok (.iload 5, 2) := by decide +kernel
theorem dX7_leansSeen_83 : decode cX7_leansSeen 83 = .ok (.iconst 5, 1) := by decide +kernel
theorem dX7_leansSeen_84 : decode cX7_leansSeen 84 = .ok (.iadd, 1) := by decide +kernel
theorem dX7_leansSeen_85 : decode cX7_leansSeen 85 = .ok (.ishl, 1) := by decide +kernel
theorem dX7_leansSeen_86 : decode cX7_leansSeen 86 = .ok (.ior, 1) := by decide +kernel
theorem dX7_leansSeen_87 : decode cX7_leansSeen 87 = .ok (.istore 4, 2) := by decide +kernel
theorem dX7_leansSeen_89 : decode cX7_leansSeen 89 = .ok (.iinc 5 1, 3) := by decide +kernel
theorem dX7_leansSeen_92 : decode cX7_leansSeen 92 = .ok (.goto (-78), 3) := by decide +kernel
theorem dX7_leansSeen_95 : decode cX7_leansSeen 95 = .ok (.iload 4, 2) := by decide +kernel
theorem dX7_leansSeen_97 : decode cX7_leansSeen 97 = .ok (.ireturn, 1) := by decide +kernel
set_option maxRecDepth 20000 in
theorem ggX7_comesSo_X2_pass : GoodIn wsX7_comesSo wsX2_pass := goodIn_r _ [9, 10, 11, 12, 13, 14, 15, 16, 17, 18, 19, 20, 8, 21, 22, 23, 24, 25, 26, 27, 28, 29, 30, 31, 32, 33, 34, 35, 36, 37, 38, 39, 40, 41, 42, 43, 55, 56, 57, 58, 62, 63, 64, 65, 66, 67, 68, 69, 70] (by decide +kernel) (by decide +kernel)
set_option maxRecDepth 20000 in
theorem gX7_comesSo_X2_pass : GoodIn wsX7_comesSo (wsV RX7 166 RX2 yX2_pass wsX2_pass) := goodIn_app (goodIn_of _ (by decide +kernel)) ggX7_comesSo_X2_pass
theorem dX7_comesSo_0 : decode cX7_comesSo 0 = .ok (.iconst 0, 1) := by decide +kernel
theorem dX7_comesSo_1 : decode cX7_comesSo 1 = .ok (.istore 4, 2) := by decide +kernel
theorem dX7_comesSo_3 : decode cX7_comesSo 3 = .ok (.iload 4, 2) := by decide +kernel
theorem dX7_comesSo_5 : decode cX7_comesSo 5 = .ok (.iload_n 3, 1) := by decide +kernel
theorem dX7_comesSo_6 : decode cX7_comesSo 6 = .ok (.if_icmp .ge 43, 3) := by decide +kernel
theorem dX7_comesSo_9 : decode cX7_comesSo 9 = .ok (.aload_n 0, 1) := by decide +kernel
theorem dX7_comesSo_10 : decode cX7_comesSo 10 = .ok (.getfield 60, 3) := by decide +kernel
theorem dX7_comesSo_13 : decode cX7_comesSo 13 = .ok (.getfield 170, 3) := by decide +kernel
theorem dX7_comesSo_16 : decode cX7_comesSo 16 = .ok (.aload_n 1, 1) := by decide +kernel
theorem dX7_comesSo_17 : decode cX7_comesSo 17 = .ok (.getfield 99, 3) := by decide +kernel
theorem dX7_comesSo_20 : decode cX7_comesSo 20 = .ok (.iload_n 2, 1) := by decide +kernel
theorem dX7_comesSo_21 : decode cX7_comesSo 21 = .ok (.iload 4, 2) := by decide +kernel
theorem dX7_comesSo_23 : decode cX7_comesSo 23 = .ok (.iadd, 1) := by decide +kernel
theorem dX7_comesSo_24 : decode cX7_comesSo 24 = .ok (.iaload, 1) := by decide +kernel
theorem dX7_comesSo_25 : decode cX7_comesSo 25 = .ok (.if_icmp .eq 5, 3) := by decide +kernel
theorem dX7_comesSo_28 : decode cX7_comesSo 28 = .ok (.iconst 0, 1) := by decide +kernel
theorem dX7_comesSo_29 : decode cX7_comesSo 29 = .ok (.ireturn, 1) := by decide +kernel
theorem dX7_comesSo_30 : decode cX7_comesSo 30 = .ok (.aload_n 0, 1) := by decide +kernel
theorem dX7_comesSo_31 : decode cX7_comesSo 31 = .ok (.getfield 60, 3) := by decide +kernel
theorem dX7_comesSo_34 : decode cX7_comesSo 34 = .ok (.aload_n 0, 1) := by decide +kernel
theorem dX7_comesSo_35 : decode cX7_comesSo 35 = .ok (.getfield 22, 3) := by decide +kernel
theorem dX7_comesSo_38 : decode cX7_comesSo 38 = .ok (.iconst 0, 1) := by decide +kernel
theorem dX7_comesSo_39 : decode cX7_comesSo 39 = .ok (.iconst 0, 1) := by decide +kernel
theorem dX7_comesSo_40 : decode cX7_comesSo 40 = .ok (.invokevirtual 166, 3) := by decide +kernel
theorem dX7_comesSo_43 : decode cX7_comesSo 43 = .ok (.iinc 4 1, 3) := by decide +kernel
theorem dX7_comesSo_46 : decode cX7_comesSo 46 = .ok (.goto (-43), 3) := by decide +kernel
theorem dX7_comesSo_49 : decode cX7_comesSo 49 = .ok (.iconst 1, 1) := by decide +kernel
theorem dX7_comesSo_50 : decode cX7_comesSo 50 = .ok (.ireturn, 1) := by decide +kernel
set_option maxRecDepth 20000 in
theorem ggX7_isHomeIf_X2_be : GoodIn wsX7_isHomeIf wsX2_be := goodIn_r _ [10, 11, 12, 13, 14, 81, 82, 83, 84] (by decide +kernel) (by decide +kernel)
set_option maxRecDepth 20000 in
theorem gX7_isHomeIf_X2_be : GoodIn wsX7_isHomeIf (wsV RX7 189 RX2 yX2_be wsX2_be) := goodIn_app (goodIn_of _ (by decide +kernel)) ggX7_isHomeIf_X2_be
set_option maxRecDepth 20000 in
theorem ggX7_isHomeIf_X3_kindAt : GoodIn wsX7_isHomeIf wsX3_kindAt := goodIn_r _ [19, 20, 21, 22, 23, 24, 72, 73, 74, 75, 76, 77, 78, 79, 80] (by decide +kernel) (by decide +kernel)
set_option maxRecDepth 20000 in
theorem gX7_isHomeIf_X3_kindAt : GoodIn wsX7_isHomeIf (wsV RX7 160 RX3 yX3_kindAt wsX3_kindAt) := goodIn_app (goodIn_of _ (by decide +kernel)) ggX7_isHomeIf_X3_kindAt
set_option maxRecDepth 20000 in
theorem ggX7_isHomeIf_X3_forceAt : GoodIn wsX7_isHomeIf wsX3_forceAt := goodIn_r _ [28, 20, 29, 22, 23, 24, 72, 73, 74, 75, 76, 77, 78, 79, 80] (by decide +kernel) (by decide +kernel)
set_option maxRecDepth 20000 in
theorem gX7_isHomeIf_X3_forceAt : GoodIn wsX7_isHomeIf (wsV RX7 163 RX3 yX3_forceAt wsX3_forceAt) := goodIn_app (goodIn_of _ (by decide +kernel)) ggX7_isHomeIf_X3_forceAt
set_option maxRecDepth 20000 in
theorem ggX7_isHomeIf_X2_pass : GoodIn wsX7_isHomeIf wsX2_pass := goodIn_r _ [33, 14, 11, 12, 34, 35, 36, 13, 37, 38, 39, 40, 9, 41, 42, 43, 44, 45, 46, 47, 48, 49, 50, 51, 52, 53, 54, 55, 56, 57, 58, 59, 60, 22, 23, 24, 81, 82, 83, 84, 72, 73, 74, 75, 76, 77, 78, 79, 80] (by decide +kernel) (by decide +kernel)
set_option maxRecDepth 20000 in
theorem gX7_isHomeIf_X2_pass : GoodIn wsX7_isHomeIf (wsV RX7 166 RX2 yX2_pass wsX2_pass) := goodIn_app (goodIn_of _ (by decide +kernel)) ggX7_isHomeIf_X2_pass
theorem dX7_isHomeIf_0 : decode cX7_isHomeIf 0 = .ok (.aload_n 0, 1) := by decide +kernel
theorem dX7_isHomeIf_1 : decode cX7_isHomeIf 1 = .ok (.getfield 60, 3) := by decide +kernel
theorem dX7_isHomeIf_4 : decode cX7_isHomeIf 4 = .ok (.aload_n 0, 1) := by decide +kernel
theorem dX7_isHomeIf_5 : decode cX7_isHomeIf 5 = .ok (.getfield 22, 3) := by decide +kernel
theorem dX7_isHomeIf_8 : decode cX7_isHomeIf 8 = .ok (.getfield 147, 3) := by decide +kernel
theorem dX7_isHomeIf_11 : decode cX7_isHomeIf 11 = .ok (.invokevirtual 189, 3) := by decide +kernel
theorem dX7_isHomeIf_14 : decode cX7_isHomeIf 14 = .ok (.iconst 0, 1) := by decide +kernel
theorem dX7_isHomeIf_15 : decode cX7_isHomeIf 15 = .ok (.istore 5, 2) := by decide +kernel
theorem dX7_isHomeIf_17 : decode cX7_isHomeIf 17 = .ok (.iconst 0, 1) := by decide +kernel
theorem dX7_isHomeIf_18 : decode cX7_isHomeIf 18 = .ok (.istore 6, 2) := by decide +kernel
theorem dX7_isHomeIf_20 : decode cX7_isHomeIf 20 = .ok (.iload 6, 2) := by decide +kernel
theorem dX7_isHomeIf_22 : decode cX7_isHomeIf 22 = .ok (.iload 4, 2) := by decide +kernel
theorem dX7_isHomeIf_24 : decode cX7_isHomeIf 24 = .ok (.if_icmp .ge 85, 3) := by decide +kernel
theorem dX7_isHomeIf_27 : decode cX7_isHomeIf 27 = .ok (.aload_n 0, 1) := by decide +kernel
theorem dX7_isHomeIf_28 : decode cX7_isHomeIf 28 = .ok (.getfield 60, 3) := by decide +kernel
theorem dX7_isHomeIf_31 : decode cX7_isHomeIf 31 = .ok (.getfield 150, 3) := by decide +kernel
theorem dX7_isHomeIf_34 : decode cX7_isHomeIf 34 = .ok (.ifCond .ne 75, 3) := by decide +kernel
theorem dX7_isHomeIf_37 : decode cX7_isHomeIf 37 = .ok (.aload_n 2, 1) := by decide +kernel
theorem dX7_isHomeIf_38 : decode cX7_isHomeIf 38 = .ok (.getfield 99, 3) := by decide +kernel
theorem dX7_isHomeIf_41 : decode cX7_isHomeIf 41 = .ok (.iload_n 3, 1) := by decide +kernel
theorem dX7_isHomeIf_42 : decode cX7_isHomeIf 42 = .ok (.iload 6, 2) := by decide +kernel
theorem dX7_isHomeIf_44 : decode cX7_isHomeIf 44 = .ok (.iadd, 1) := by decide +kernel
theorem dX7_isHomeIf_45 : decode cX7_isHomeIf 45 = .ok (.iaload, 1) := by decide +kernel
theorem dX7_isHomeIf_46 : decode cX7_isHomeIf 46 = .ok (.istore 7, 2) := by decide +kernel
theorem dX7_isHomeIf_48 : decode cX7_isHomeIf 48 = .ok (.iload 7, 2) := by decide +kernel
theorem dX7_isHomeIf_50 : decode cX7_isHomeIf 50 = .ok (.ifCond .lt 24, 3) := by decide +kernel
theorem dX7_isHomeIf_53 : decode cX7_isHomeIf 53 = .ok (.iload_n 1, 1) := by decide +kernel
theorem dX7_isHomeIf_54 : decode cX7_isHomeIf 54 = .ok (.iload 5, 2) := by decide +kernel
theorem dX7_isHomeIf_56 : decode cX7_isHomeIf 56 = .ok (.ishr, 1) := by decide +kernel
theorem dX7_isHomeIf_57 : decode cX7_isHomeIf 57 = .ok (.iconst 1, 1) := by decide +kernel
theorem dX7_isHomeIf_58 : decode cX7_isHomeIf 58 = .ok (.iand, 1) := by decide +kernel
theorem dX7_isHomeIf_59 : decode cX7_isHomeIf 59 = .ok (.iconst 1, 1) := by decide +kernel
theorem dX7_isHomeIf_60 : decode cX7_isHomeIf 60 = .ok (.if_icmp .ne 7, 3) := by decide +kernel
theorem dX7_isHomeIf_63 : decode cX7_isHomeIf 63 = .ok (.iconst (-1), 1) := by decide +kernel
theorem dX7_isHomeIf_64 : decode cX7_isHomeIf 64 = .ok (.goto 5, 3) := by decide +kernel
theorem dX7_isHomeIf_67 : decode cX7_isHomeIf 67 = .ok (.iload 7, 2) := by decide +kernel
theorem dX7_isHomeIf_69 : decode cX7_isHomeIf 69 = .ok (.istore 7, 2) := by decide +kernel
theorem dX7_isHomeIf_71 : decode cX7_isHomeIf 71 = .ok (.iinc 5 1, 3) := by decide +kernel
theorem dX7_isHomeIf_74 : decode cX7_isHomeIf 74 = .ok (.aload_n 0, 1) := by decide +kernel
theorem dX7_isHomeIf_75 : decode cX7_isHomeIf 75 = .ok (.getfield 60, 3) := by decide +kernel
theorem dX7_isHomeIf_78 : decode cX7_isHomeIf 78 = .ok (.aload_n 0, 1) := by decide +kernel
theorem dX7_isHomeIf_79 : decode cX7_isHomeIf 79 = .ok (.getfield 22, 3) := by decide +kernel
theorem dX7_isHomeIf_82 : decode cX7_isHomeIf 82 = .ok (.aload_n 0, 1) := by decide +kernel
theorem dX7_isHomeIf_83 : decode cX7_isHomeIf 83 = .ok (.getfield 22, 3) := by decide +kernel
theorem dX7_isHomeIf_86 : decode cX7_isHomeIf 86 = .ok (.iload 7, 2) := by decide +kernel
theorem dX7_isHomeIf_88 : decode cX7_isHomeIf 88 = .ok (.invokevirtual 160, 3) := by decide +kernel
theorem dX7_isHomeIf_91 : decode cX7_isHomeIf 91 = .ok (.aload_n 0, 1) := by decide +kernel
theorem dX7_isHomeIf_92 : decode cX7_isHomeIf 92 = .ok (.getfield 22, 3) := by decide +kernel
theorem dX7_isHomeIf_95 : decode cX7_isHomeIf 95 = .ok (.iload 7, 2) := by decide +kernel
theorem dX7_isHomeIf_97 : decode cX7_isHomeIf 97 = .ok (.invokevirtual 163, 3) := by decide +kernel
theorem dX7_isHomeIf_100 : decode cX7_isHomeIf 100 = .ok (.invokevirtual 166, 3) := by decide +kernel
theorem dX7_isHomeIf_103 : decode cX7_isHomeIf 103 = .ok (.iinc 6 1, 3) := by decide +kernel
theorem dX7_isHomeIf_106 : decode cX7_isHomeIf 106 = .ok (.goto (-86), 3) := by decide +kernel
theorem dX7_isHomeIf_109 : decode cX7_isHomeIf 109 = .ok (.aload_n 0, 1) := by decide +kernel
theorem dX7_isHomeIf_110 : decode cX7_isHomeIf 110 = .ok (.getfield 60, 3) := by decide +kernel
theorem dX7_isHomeIf_113 : decode cX7_isHomeIf 113 = .ok (.getfield 150, 3) := by decide +kernel
theorem dX7_isHomeIf_116 : decode cX7_isHomeIf 116 = .ok (.iconst 2, 1) := by decide +kernel
theorem dX7_isHomeIf_117 : decode cX7_isHomeIf 117 = .ok (.if_icmp .ne 7, 3) := by decide +kernel
theorem dX7_isHomeIf_120 : decode cX7_isHomeIf 120 = .ok (.iconst 1, 1) := by decide +kernel
theorem dX7_isHomeIf_121 : decode cX7_isHomeIf 121 = .ok (.goto 4, 3) := by decide +kernel
theorem dX7_isHomeIf_124 : decode cX7_isHomeIf 124 = .ok (.iconst 0, 1) := by decide +kernel
theorem dX7_isHomeIf_125 : decode cX7_isHomeIf 125 = .ok (.ireturn, 1) := by decide +kernel
theorem dX7_power_0 : decode cX7_power 0 = .ok (.lconst 1, 1) := by decide +kernel
theorem dX7_power_1 : decode cX7_power 1 = .ok (.lstore_n 2, 1) := by decide +kernel
theorem dX7_power_2 : decode cX7_power 2 = .ok (.iconst 0, 1) := by decide +kernel
theorem dX7_power_3 : decode cX7_power 3 = .ok (.istore 4, 2) := by decide +kernel
theorem dX7_power_5 : decode cX7_power 5 = .ok (.iload 4, 2) := by decide +kernel
theorem dX7_power_7 : decode cX7_power 7 = .ok (.iload_n 1, 1) := by decide +kernel
theorem dX7_power_8 : decode cX7_power 8 = .ok (.if_icmp .ge 14, 3) := by decide +kernel
theorem dX7_power_11 : decode cX7_power 11 = .ok (.lload_n 2, 1) := by decide +kernel
theorem dX7_power_12 : decode cX7_power 12 = .ok (.iload_n 0, 1) := by decide +kernel
theorem dX7_power_13 : decode cX7_power 13 = .ok (.i2l, 1) := by decide +kernel
theorem dX7_power_14 : decode cX7_power 14 = .ok (.lmul, 1) := by decide +kernel
theorem dX7_power_15 : decode cX7_power 15 = .ok (.lstore_n 2, 1) := by decide +kernel
theorem dX7_power_16 : decode cX7_power 16 = .ok (.iinc 4 1, 3) := by decide +kernel
theorem dX7_power_19 : decode cX7_power 19 = .ok (.goto (-14), 3) := by decide +kernel
theorem dX7_power_22 : decode cX7_power 22 = .ok (.lload_n 2, 1) := by decide +kernel
theorem dX7_power_23 : decode cX7_power 23 = .ok (.lreturn, 1) := by decide +kernel
theorem dX7_commonDivisor_0 : decode cX7_commonDivisor 0 = .ok (.lload_n 0, 1) := by decide +kernel
theorem dX7_commonDivisor_1 : decode cX7_commonDivisor 1 = .ok (.lstore 4, 2) := by decide +kernel
theorem dX7_commonDivisor_3 : decode cX7_commonDivisor 3 = .ok (.lload_n 2, 1) := by decide +kernel
theorem dX7_commonDivisor_4 : decode cX7_commonDivisor 4 = .ok (.lstore 6, 2) := by decide +kernel
theorem dX7_commonDivisor_6 : decode cX7_commonDivisor 6 = .ok (.iconst 0, 1) := by decide +kernel
theorem dX7_commonDivisor_7 : decode cX7_commonDivisor 7 = .ok (.istore 8, 2) := by decide +kernel
theorem dX7_commonDivisor_9 : decode cX7_commonDivisor 9 = .ok (.iload 8, 2) := by decide +kernel
theorem dX7_commonDivisor_11 : decode cX7_commonDivisor 11 = .ok (.sipush 1000, 3) := by decide +kernel
theorem dX7_commonDivisor_14 : decode cX7_commonDivisor 14 = .ok (.if_icmp .ge 31, 3) := by decide +kernel
theorem dX7_commonDivisor_17 : decode cX7_commonDivisor 17 = .ok (.lload 6, 2) := by decide +kernel
theorem dX7_commonDivisor_19 : decode cX7_commonDivisor 19 = .ok (.lconst 0, 1) := by decide +kernel
theorem dX7_commonDivisor_20 : decode cX7_commonDivisor 20 = .ok (.lcmp, 1) := by decide +kernel
theorem dX7_commonDivisor_21 : decode cX7_commonDivisor 21 = .ok (.ifCond .eq 24, 3) := by decide +kernel
theorem dX7_commonDivisor_24 : decode cX7_commonDivisor 24 = .ok (.lload 4, 2) := by decide +kernel
theorem dX7_commonDivisor_26 : decode cX7_commonDivisor 26 = .ok (.lload 6, 2) := by decide +kernel
theorem dX7_commonDivisor_28 : decode cX7_commonDivisor 28 = .ok (.lrem, 1) := by decide +kernel
theorem dX7_commonDivisor_29 : decode cX7_commonDivisor 29 = .ok (.lstore 9, 2) := by decide +kernel
theorem dX7_commonDivisor_31 : decode cX7_commonDivisor 31 = .ok (.lload 6, 2) := by decide +kernel
theorem dX7_commonDivisor_33 : decode cX7_commonDivisor 33 = .ok (.lstore 4, 2) := by decide +kernel
theorem dX7_commonDivisor_35 : decode cX7_commonDivisor 35 = .ok (.lload 9, 2) := by decide +kernel
theorem dX7_commonDivisor_37 : decode cX7_commonDivisor 37 = .ok (.lstore 6, 2) := by decide +kernel
theorem dX7_commonDivisor_39 : decode cX7_commonDivisor 39 = .ok (.iinc 8 1, 3) := by decide +kernel
theorem dX7_commonDivisor_42 : decode cX7_commonDivisor 42 = .ok (.goto (-33), 3) := by decide +kernel
theorem dX7_commonDivisor_45 : decode cX7_commonDivisor 45 = .ok (.lload 4, 2) := by decide +kernel
theorem dX7_commonDivisor_47 : decode cX7_commonDivisor 47 = .ok (.lreturn, 1) := by decide +kernel
theorem dX7_isOfKind_0 : decode cX7_isOfKind 0 = .ok (.iload_n 0, 1) := by decide +kernel
theorem dX7_isOfKind_1 : decode cX7_isOfKind 1 = .ok (.istore_n 2, 1) := by decide +kernel
theorem dX7_isOfKind_2 : decode cX7_isOfKind 2 = .ok (.iconst 0, 1) := by decide +kernel
theorem dX7_isOfKind_3 : decode cX7_isOfKind 3 = .ok (.istore_n 3, 1) := by decide +kernel
theorem dX7_isOfKind_4 : decode cX7_isOfKind 4 = .ok (.iload_n 3, 1) := by decide +kernel
theorem dX7_isOfKind_5 : decode cX7_isOfKind 5 = .ok (.getstatic 294, 3) := by decide +kernel
theorem dX7_isOfKind_8 : decode cX7_isOfKind 8 = .ok (.arraylength, 1) := by decide +kernel
theorem dX7_isOfKind_9 : decode cX7_isOfKind 9 = .ok (.if_icmp .ge 34, 3) := by decide +kernel
theorem dX7_isOfKind_12 : decode cX7_isOfKind 12 = .ok (.iload_n 2, 1) := by decide +kernel
theorem dX7_isOfKind_13 : decode cX7_isOfKind 13 = .ok (.ifCond .lt 30, 3) := by decide +kernel
theorem dX7_isOfKind_16 : decode cX7_isOfKind 16 = .ok (.iload_n 2, 1) := by decide +kernel
theorem dX7_isOfKind_17 : decode cX7_isOfKind 17 = .ok (.getstatic 294, 3) := by decide +kernel
theorem dX7_isOfKind_20 : decode cX7_isOfKind 20 = .ok (.arraylength, 1) := by decide +kernel
theorem dX7_isOfKind_21 : decode cX7_isOfKind 21 = .ok (.if_icmp .ge 22, 3) := by decide +kernel
theorem dX7_isOfKind_24 : decode cX7_isOfKind 24 = .ok (.iload_n 2, 1) := by decide +kernel
theorem dX7_isOfKind_25 : decode cX7_isOfKind 25 = .ok (.iload_n 1, 1) := by decide +kernel
theorem dX7_isOfKind_26 : decode cX7_isOfKind 26 = .ok (.if_icmp .ne 5, 3) := by decide +kernel
theorem dX7_isOfKind_29 : decode cX7_isOfKind 29 = .ok (.iconst 1, 1) := by decide +kernel
theorem dX7_isOfKind_30 : decode cX7_isOfKind 30 = .ok (.ireturn, 1) := by decide +kernel
theorem dX7_isOfKind_31 : decode cX7_isOfKind 31 = .ok (.getstatic 294, 3) := by decide +kernel
theorem dX7_isOfKind_34 : decode cX7_isOfKind 34 = .ok (.iload_n 2, 1) := by decide +kernel
theorem dX7_isOfKind_35 : decode cX7_isOfKind 35 = .ok (.iaload, 1) := by decide +kernel
theorem dX7_isOfKind_36 : decode cX7_isOfKind 36 = .ok (.istore_n 2, 1) := by decide +kernel
theorem dX7_isOfKind_37 : decode cX7_isOfKind 37 = .ok (.iinc 3 1, 3) := by decide +kernel
theorem dX7_isOfKind_40 : decode cX7_isOfKind 40 = .ok (.goto (-36), 3) := by decide +kernel
theorem dX7_isOfKind_43 : decode cX7_isOfKind 43 = .ok (.iconst 0, 1) := by decide +kernel
theorem dX7_isOfKind_44 : decode cX7_isOfKind 44 = .ok (.ireturn, 1) := by decide +kernel
