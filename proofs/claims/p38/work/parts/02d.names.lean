theorem dL_below_0 : decode cL_below 0 = .ok (.iload_n 0, 1) := by decide +kernel
theorem dL_below_1 : decode cL_below 1 = .ok (.ldc 7, 2) := by decide +kernel
theorem dL_below_3 : decode cL_below 3 = .ok (.iand, 1) := by decide +kernel
theorem dL_below_4 : decode cL_below 4 = .ok (.iload_n 1, 1) := by decide +kernel
theorem dL_below_5 : decode cL_below 5 = .ok (.irem, 1) := by decide +kernel
theorem dL_below_6 : decode cL_below 6 = .ok (.ireturn, 1) := by decide +kernel
theorem dL_cell_0 : decode cL_cell 0 = .ok (.iload_n 1, 1) := by decide +kernel
theorem dL_cell_1 : decode cL_cell 1 = .ok (.aload_n 0, 1) := by decide +kernel
theorem dL_cell_2 : decode cL_cell 2 = .ok (.arraylength, 1) := by decide +kernel
theorem dL_cell_3 : decode cL_cell 3 = .ok (.if_icmp .ge 9, 3) := by decide +kernel
theorem dL_cell_6 : decode cL_cell 6 = .ok (.aload_n 0, 1) := by decide +kernel
theorem dL_cell_7 : decode cL_cell 7 = .ok (.iload_n 1, 1) := by decide +kernel
theorem dL_cell_8 : decode cL_cell 8 = .ok (.iaload, 1) := by decide +kernel
theorem dL_cell_9 : decode cL_cell 9 = .ok (.goto 9, 3) := by decide +kernel
theorem dL_cell_12 : decode cL_cell 12 = .ok (.ldc 8, 2) := by decide +kernel
theorem dL_cell_14 : decode cL_cell 14 = .ok (.iload_n 1, 1) := by decide +kernel
theorem dL_cell_15 : decode cL_cell 15 = .ok (.iconst 3, 1) := by decide +kernel
theorem dL_cell_16 : decode cL_cell 16 = .ok (.iadd, 1) := by decide +kernel
theorem dL_cell_17 : decode cL_cell 17 = .ok (.imul, 1) := by decide +kernel
theorem dL_cell_18 : decode cL_cell 18 = .ok (.ireturn, 1) := by decide +kernel
set_option maxRecDepth 20000 in
theorem ggL_act_L_below : GoodIn wsL_act wsL_below := goodIn_r _ [19, 20] (by decide +kernel) (by decide +kernel)
set_option maxRecDepth 20000 in
theorem gL_act_L_below : GoodIn wsL_act (va_wsS RL 15 yL_below wsL_below) := goodIn_app (goodIn_of _ (by decide +kernel)) ggL_act_L_below
set_option maxRecDepth 20000 in
theorem ggL_act_X2_lay : GoodIn wsL_act wsX2_lay := goodIn_ca (goodIn_r _ [25, 26, 27, 28, 29, 30, 31, 32, 33, 34, 35, 36, 37, 38, 39, 40, 41, 42, 43, 44, 237, 238, 239, 240, 241, 242, 243, 244] (by decide +kernel) (by decide +kernel)) (goodIn_sub (fun _ h => List.mem_cons_of_mem _ (List.mem_append_left _ (List.mem_append_left _ (List.mem_append_right _ h)))) (by decide +kernel))
set_option maxRecDepth 20000 in
theorem gL_act_X2_lay : GoodIn wsL_act (wsV RL 26 RX2 yX2_lay wsX2_lay) := goodIn_app (goodIn_of _ (by decide +kernel)) ggL_act_X2_lay
set_option maxRecDepth 20000 in
theorem ggL_act_X2_put : GoodIn wsL_act wsX2_put := goodIn_ca (goodIn_ca (goodIn_r _ [48, 28, 49, 50, 51, 24, 52, 53, 54, 30, 31, 32, 33, 34, 35, 55, 56, 57, 58, 26, 27, 59, 60, 61, 62, 40, 63, 42, 43, 44, 237, 238, 239, 240, 241, 242, 243, 244] (by decide +kernel) (by decide +kernel)) (goodIn_sub (fun _ h => List.mem_cons_of_mem _ (List.mem_append_left _ (List.mem_append_right _ h))) (by decide +kernel))) (goodIn_sub (fun _ h => List.mem_cons_of_mem _ (List.mem_append_left _ (List.mem_append_left _ (List.mem_append_right _ h)))) (by decide +kernel))
set_option maxRecDepth 20000 in
theorem gL_act_X2_put : GoodIn wsL_act (wsV RL 36 RX2 yX2_put wsX2_put) := goodIn_app (goodIn_of _ (by decide +kernel)) ggL_act_X2_put
set_option maxRecDepth 20000 in
theorem ggL_act_X3_tipped : GoodIn wsL_act wsX3_tipped := goodIn_r _ [68, 69, 7, 8, 9, 10, 70] (by decide +kernel) (by decide +kernel)
set_option maxRecDepth 20000 in
theorem gL_act_X3_tipped : GoodIn wsL_act (wsV RL 39 RX3 yX3_tipped wsX3_tipped) := goodIn_app (goodIn_of _ (by decide +kernel)) ggL_act_X3_tipped
set_option maxRecDepth 20000 in
theorem ggL_act_X2_tip : GoodIn wsL_act wsX2_tip := goodIn_ca (goodIn_ca (goodIn_r _ [74, 28, 75, 76, 13, 14, 15, 49, 50, 51, 24, 52, 53, 54, 30, 31, 32, 33, 34, 35, 77, 78, 79, 80, 26, 27, 81, 82, 83, 84, 85, 86, 87, 88, 89, 60, 61, 62, 40, 41, 42, 43, 44, 90, 91, 92, 93, 59, 237, 238, 239, 240, 241, 242, 243, 244] (by decide +kernel) (by decide +kernel)) (goodIn_sub (fun _ h => List.mem_cons_of_mem _ (List.mem_append_left _ (List.mem_append_right _ h))) (by decide +kernel))) (goodIn_sub (fun _ h => List.mem_cons_of_mem _ (List.mem_append_left _ (List.mem_append_left _ (List.mem_append_right _ h)))) (by decide +kernel))
set_option maxRecDepth 20000 in
theorem gL_act_X2_tip : GoodIn wsL_act (wsV RL 52 RX2 yX2_tip wsX2_tip) := goodIn_app (goodIn_of _ (by decide +kernel)) ggL_act_X2_tip
set_option maxRecDepth 20000 in
theorem ggL_act_X2_turn : GoodIn wsL_act wsX2_turn := goodIn_r _ [97, 28, 98, 99, 100, 33, 101, 35, 89, 60, 61, 62, 40, 41, 42, 43, 44, 59, 237, 238, 239, 240, 241, 242, 243, 244] (by decide +kernel) (by decide +kernel)
set_option maxRecDepth 20000 in
theorem gL_act_X2_turn : GoodIn wsL_act (wsV RL 55 RX2 yX2_turn wsX2_turn) := goodIn_app (goodIn_of _ (by decide +kernel)) ggL_act_X2_turn
set_option maxRecDepth 20000 in
theorem ggL_act_X3_with : GoodIn wsL_act wsX3_with := goodIn_r _ [104, 70] (by decide +kernel) (by decide +kernel)
set_option maxRecDepth 20000 in
theorem gL_act_X3_with : GoodIn wsL_act (va_wsS RL 59 yX3_with wsX3_with) := goodIn_app (goodIn_of _ (by decide +kernel)) ggL_act_X3_with
set_option maxRecDepth 20000 in
theorem ggL_act_X2_keep : GoodIn wsL_act wsX2_keep := goodIn_ca (goodIn_ca (goodIn_r _ [108, 109, 110, 29, 28, 111, 112, 113, 24, 114, 53, 54, 115, 116, 117, 118, 33, 119, 35, 40, 89, 60, 61, 62, 41, 42, 43, 44, 237, 238, 239, 240, 241, 242, 243, 244] (by decide +kernel) (by decide +kernel)) (goodIn_sub (fun _ h => List.mem_cons_of_mem _ (List.mem_append_right _ h)) (by decide +kernel))) (goodIn_sub (fun _ h => List.mem_cons_of_mem _ (List.mem_append_left _ (List.mem_append_right _ h))) (by decide +kernel))
set_option maxRecDepth 20000 in
theorem gL_act_X2_keep : GoodIn wsL_act (wsV RL 63 RX2 yX2_keep wsX2_keep) := goodIn_app (goodIn_of _ (by decide +kernel)) ggL_act_X2_keep
set_option maxRecDepth 20000 in
theorem ggL_act_X2_settle : GoodIn wsL_act wsX2_settle := goodIn_ca (goodIn_r _ [123, 26, 27, 28, 75, 124, 125, 126, 33, 127, 128, 129, 130, 131, 35, 132, 133, 134, 135, 89, 60, 61, 62, 40, 90, 91, 92, 93, 136, 82, 83, 84, 85, 86, 87, 88, 41, 42, 43, 44, 237, 238, 239, 240, 241, 242, 243, 244] (by decide +kernel) (by decide +kernel)) (goodIn_sub (fun _ h => List.mem_cons_of_mem _ (List.mem_append_left _ (List.mem_append_left _ (List.mem_append_right _ h)))) (by decide +kernel))
set_option maxRecDepth 20000 in
theorem gL_act_X2_settle : GoodIn wsL_act (wsV RL 66 RX2 yX2_settle wsX2_settle) := goodIn_app (goodIn_of _ (by decide +kernel)) ggL_act_X2_settle
set_option maxRecDepth 20000 in
theorem ggL_act_X3_settle : GoodIn wsL_act wsX3_settle := goodIn_r _ [140, 141, 142, 143, 144, 145, 67, 146, 147, 148, 149, 150, 151, 152, 153, 154, 155, 65, 66, 68, 69, 7, 8, 9, 10, 70, 234, 235, 236] (by decide +kernel) (by decide +kernel)
set_option maxRecDepth 20000 in
theorem gL_act_X3_settle : GoodIn wsL_act (wsV RL 69 RX3 yX3_settle wsX3_settle) := goodIn_app (goodIn_of _ (by decide +kernel)) ggL_act_X3_settle
set_option maxRecDepth 20000 in
theorem ggL_act_X3_can : GoodIn wsL_act wsX3_can := goodIn_r _ [159, 160, 161, 162, 67, 163, 164, 165, 166, 234, 235, 236] (by decide +kernel) (by decide +kernel)
set_option maxRecDepth 20000 in
theorem gL_act_X3_can : GoodIn wsL_act (wsV RL 70 RX3 yX3_can wsX3_can) := goodIn_app (goodIn_of _ (by decide +kernel)) ggL_act_X3_can
set_option maxRecDepth 20000 in
theorem ggL_act_X3_fewest : GoodIn wsL_act wsX3_fewest := goodIn_r _ [170, 171, 13, 14, 15, 172, 173, 174, 67, 175, 141, 3, 160, 234, 235, 236] (by decide +kernel) (by decide +kernel)
set_option maxRecDepth 20000 in
theorem gL_act_X3_fewest : GoodIn wsL_act (wsV RL 74 RX3 yX3_fewest wsX3_fewest) := goodIn_app (goodIn_of _ (by decide +kernel)) ggL_act_X3_fewest
set_option maxRecDepth 20000 in
theorem ggL_act_X2_reach : GoodIn wsL_act wsX2_reach := goodIn_ca (goodIn_ca (goodIn_r _ [179, 28, 75, 111, 112, 113, 24, 114, 53, 54, 29, 115, 180, 181, 182, 183, 109, 110, 184, 185, 186, 33, 187, 188, 189, 190, 191, 35, 89, 60, 61, 62, 40, 192, 193, 194, 195, 196, 197, 198, 199, 200, 201, 202, 203, 204, 205, 206, 207, 208, 209, 210, 211, 212, 31, 32, 34, 213, 214, 215, 216, 217, 218, 219, 220, 221, 222, 223, 14, 224, 225, 226, 227, 228, 229, 230, 231, 232, 233, 13, 15, 116, 117, 118, 119, 41, 42, 43, 44, 237, 238, 239, 240, 241, 242, 243, 244, 245, 246] (by decide +kernel) (by decide +kernel)) (goodIn_sub (fun _ h => List.mem_cons_of_mem _ (List.mem_append_left _ (List.mem_append_right _ h))) (by decide +kernel))) (goodIn_sub (fun _ h => List.mem_cons_of_mem _ (List.mem_append_right _ h)) (by decide +kernel))
set_option maxRecDepth 20000 in
theorem gL_act_X2_reach : GoodIn wsL_act (wsV RL 77 RX2 yX2_reach wsX2_reach) := goodIn_app (goodIn_of _ (by decide +kernel)) ggL_act_X2_reach
theorem dL_act_0 : decode cL_act 0 = .ok (.aload_n 1, 1) := by decide +kernel
theorem dL_act_1 : decode cL_act 1 = .ok (.getfield 9, 3) := by decide +kernel
theorem dL_act_4 : decode cL_act 4 = .ok (.arraylength, 1) := by decide +kernel
theorem dL_act_5 : decode cL_act 5 = .ok (.istore_n 3, 1) := by decide +kernel
theorem dL_act_6 : decode cL_act 6 = .ok (.iload_n 2, 1) := by decide +kernel
theorem dL_act_7 : decode cL_act 7 = .ok (.iconst 3, 1) := by decide +kernel
theorem dL_act_8 : decode cL_act 8 = .ok (.ishr, 1) := by decide +kernel
theorem dL_act_9 : decode cL_act 9 = .ok (.iload_n 3, 1) := by decide +kernel
theorem dL_act_10 : decode cL_act 10 = .ok (.invokestatic 15, 3) := by decide +kernel
theorem dL_act_13 : decode cL_act 13 = .ok (.istore 4, 2) := by decide +kernel
theorem dL_act_15 : decode cL_act 15 = .ok (.iconst 1, 1) := by decide +kernel
theorem dL_act_16 : decode cL_act 16 = .ok (.istore 5, 2) := by decide +kernel
theorem dL_act_18 : decode cL_act 18 = .ok (.iload_n 2, 1) := by decide +kernel
theorem dL_act_19 : decode cL_act 19 = .ok (.bipush 14, 2) := by decide +kernel
theorem dL_act_21 : decode cL_act 21 = .ok (.invokestatic 15, 3) := by decide +kernel
theorem dL_act_24 : decode cL_act 24 = .ok (.tableswitch 485 0 11 #[64, 120, 120, 120, 211, 211, 211, 211, 309, 368, 368, 435], 64) := by decide +kernel
theorem dL_act_88 : decode cL_act 88 = .ok (.iload_n 2, 1) := by decide +kernel
theorem dL_act_89 : decode cL_act 89 = .ok (.iconst 5, 1) := by decide +kernel
theorem dL_act_90 : decode cL_act 90 = .ok (.ishr, 1) := by decide +kernel
theorem dL_act_91 : decode cL_act 91 = .ok (.iconst 4, 1) := by decide +kernel
theorem dL_act_92 : decode cL_act 92 = .ok (.invokestatic 15, 3) := by decide +kernel
theorem dL_act_95 : decode cL_act 95 = .ok (.ifCond .le 5, 3) := by decide +kernel
theorem dL_act_98 : decode cL_act 98 = .ok (.iconst 1, 1) := by decide +kernel
theorem dL_act_99 : decode cL_act 99 = .ok (.ireturn, 1) := by decide +kernel
theorem dL_act_100 : decode cL_act 100 = .ok (.iconst 3, 1) := by decide +kernel
theorem dL_act_101 : decode cL_act 101 = .ok (.iload_n 2, 1) := by decide +kernel
theorem dL_act_102 : decode cL_act 102 = .ok (.iconst 4, 1) := by decide +kernel
theorem dL_act_103 : decode cL_act 103 = .ok (.ishr, 1) := by decide +kernel
theorem dL_act_104 : decode cL_act 104 = .ok (.bipush 10, 2) := by decide +kernel
theorem dL_act_106 : decode cL_act 106 = .ok (.invokestatic 15, 3) := by decide +kernel
theorem dL_act_109 : decode cL_act 109 = .ok (.iadd, 1) := by decide +kernel
theorem dL_act_110 : decode cL_act 110 = .ok (.istore 6, 2) := by decide +kernel
theorem dL_act_112 : decode cL_act 112 = .ok (.aload_n 1, 1) := by decide +kernel
theorem dL_act_113 : decode cL_act 113 = .ok (.iload 6, 2) := by decide +kernel
theorem dL_act_115 : decode cL_act 115 = .ok (.newarray .int, 2) := by decide +kernel
theorem dL_act_117 : decode cL_act 117 = .ok (.putfield 9, 3) := by decide +kernel
theorem dL_act_120 : decode cL_act 120 = .ok (.aload_n 1, 1) := by decide +kernel
theorem dL_act_121 : decode cL_act 121 = .ok (.iconst 0, 1) := by decide +kernel
theorem dL_act_122 : decode cL_act 122 = .ok (.anewarray 21, 3) := by decide +kernel
theorem dL_act_125 : decode cL_act 125 = .ok (.putfield 22, 3) := by decide +kernel
theorem dL_act_128 : decode cL_act 128 = .ok (.aload_n 0, 1) := by decide +kernel
theorem dL_act_129 : decode cL_act 129 = .ok (.iload 6, 2) := by decide +kernel
theorem dL_act_131 : decode cL_act 131 = .ok (.invokevirtual 26, 3) := by decide +kernel
theorem dL_act_134 : decode cL_act 134 = .ok (.iload_n 3, 1) := by decide +kernel
theorem dL_act_135 : decode cL_act 135 = .ok (.if_icmp .ne 7, 3) := by decide +kernel
theorem dL_act_138 : decode cL_act 138 = .ok (.iconst 1, 1) := by decide +kernel
theorem dL_act_139 : decode cL_act 139 = .ok (.goto 4, 3) := by decide +kernel
theorem dL_act_142 : decode cL_act 142 = .ok (.iconst 0, 1) := by decide +kernel
theorem dL_act_143 : decode cL_act 143 = .ok (.ireturn, 1) := by decide +kernel
theorem dL_act_144 : decode cL_act 144 = .ok (.aload_n 1, 1) := by decide +kernel
theorem dL_act_145 : decode cL_act 145 = .ok (.getfield 9, 3) := by decide +kernel
theorem dL_act_148 : decode cL_act 148 = .ok (.iload 4, 2) := by decide +kernel
theorem dL_act_150 : decode cL_act 150 = .ok (.iaload, 1) := by decide +kernel
theorem dL_act_151 : decode cL_act 151 = .ok (.istore 6, 2) := by decide +kernel
theorem dL_act_153 : decode cL_act 153 = .ok (.iload_n 2, 1) := by decide +kernel
theorem dL_act_154 : decode cL_act 154 = .ok (.bipush 7, 2) := by decide +kernel
theorem dL_act_156 : decode cL_act 156 = .ok (.ishr, 1) := by decide +kernel
theorem dL_act_157 : decode cL_act 157 = .ok (.iconst 3, 1) := by decide +kernel
theorem dL_act_158 : decode cL_act 158 = .ok (.invokestatic 15, 3) := by decide +kernel
theorem dL_act_161 : decode cL_act 161 = .ok (.ifCond .ne 19, 3) := by decide +kernel
theorem dL_act_164 : decode cL_act 164 = .ok (.iload_n 2, 1) := by decide +kernel
theorem dL_act_165 : decode cL_act 165 = .ok (.iconst 5, 1) := by decide +kernel
theorem dL_act_166 : decode cL_act 166 = .ok (.ishr, 1) := by decide +kernel
theorem dL_act_167 : decode cL_act 167 = .ok (.sipush 1999, 3) := by decide +kernel
theorem dL_act_170 : decode cL_act 170 = .ok (.invokestatic 15, 3) := by decide +kernel
theorem dL_act_173 : decode cL_act 173 = .ok (.sipush 999, 3) := by decide +kernel
theorem dL_act_176 : decode cL_act 176 = .ok (.isub, 1) := by decide +kernel
theorem dL_act_177 : decode cL_act 177 = .ok (.goto 14, 3) := by decide +kernel
theorem dL_act_180 : decode cL_act 180 = .ok (.iload_n 2, 1) := by decide +kernel
theorem dL_act_181 : decode cL_act 181 = .ok (.iconst 5, 1) := by decide +kernel
theorem dL_act_182 : decode cL_act 182 = .ok (.ishr, 1) := by decide +kernel
theorem dL_act_183 : decode cL_act 183 = .ok (.bipush 31, 2) := by decide +kernel
theorem dL_act_185 : decode cL_act 185 = .ok (.invokestatic 15, 3) := by decide +kernel
theorem dL_act_188 : decode cL_act 188 = .ok (.bipush 15, 2) := by decide +kernel
theorem dL_act_190 : decode cL_act 190 = .ok (.isub, 1) := by decide +kernel
theorem dL_act_191 : decode cL_act 191 = .ok (.istore 7, 2) := by decide +kernel
theorem dL_act_193 : decode cL_act 193 = .ok (.aload_n 1, 1) := by decide +kernel
theorem dL_act_194 : decode cL_act 194 = .ok (.aload_n 1, 1) := by decide +kernel
theorem dL_act_195 : decode cL_act 195 = .ok (.getfield 9, 3) := by decide +kernel
theorem dL_act_198 : decode cL_act 198 = .ok (.invokevirtual 32, 3) := by decide +kernel
theorem dL_act_201 : decode cL_act 201 = .ok (.checkcast 21, 3) := by decide +kernel
theorem dL_act_204 : decode cL_act 204 = .ok (.putfield 9, 3) := by decide +kernel
theorem dL_act_207 : decode cL_act 207 = .ok (.aload_n 1, 1) := by decide +kernel
theorem dL_act_208 : decode cL_act 208 = .ok (.getfield 9, 3) := by decide +kernel
theorem dL_act_211 : decode cL_act 211 = .ok (.iload 4, 2) := by decide +kernel
theorem dL_act_213 : decode cL_act 213 = .ok (.iload 7, 2) := by decide +kernel
theorem dL_act_215 : decode cL_act 215 = .ok (.iastore, 1) := by decide +kernel
theorem dL_act_216 : decode cL_act 216 = .ok (.aload_n 0, 1) := by decide +kernel
theorem dL_act_217 : decode cL_act 217 = .ok (.iload 4, 2) := by decide +kernel
theorem dL_act_219 : decode cL_act 219 = .ok (.iload 7, 2) := by decide +kernel
theorem dL_act_221 : decode cL_act 221 = .ok (.invokevirtual 36, 3) := by decide +kernel
theorem dL_act_224 : decode cL_act 224 = .ok (.iload 6, 2) := by decide +kernel
theorem dL_act_226 : decode cL_act 226 = .ok (.if_icmp .ne 7, 3) := by decide +kernel
theorem dL_act_229 : decode cL_act 229 = .ok (.iconst 1, 1) := by decide +kernel
theorem dL_act_230 : decode cL_act 230 = .ok (.goto 4, 3) := by decide +kernel
theorem dL_act_233 : decode cL_act 233 = .ok (.iconst 0, 1) := by decide +kernel
theorem dL_act_234 : decode cL_act 234 = .ok (.ireturn, 1) := by decide +kernel
theorem dL_act_235 : decode cL_act 235 = .ok (.iload_n 2, 1) := by decide +kernel
theorem dL_act_236 : decode cL_act 236 = .ok (.iconst 5, 1) := by decide +kernel
theorem dL_act_237 : decode cL_act 237 = .ok (.ishr, 1) := by decide +kernel
theorem dL_act_238 : decode cL_act 238 = .ok (.iload_n 2, 1) := by decide +kernel
theorem dL_act_239 : decode cL_act 239 = .ok (.bipush 8, 2) := by decide +kernel
theorem dL_act_241 : decode cL_act 241 = .ok (.ishr, 1) := by decide +kernel
theorem dL_act_242 : decode cL_act 242 = .ok (.iconst 2, 1) := by decide +kernel
theorem dL_act_243 : decode cL_act 243 = .ok (.invokestatic 15, 3) := by decide +kernel
theorem dL_act_246 : decode cL_act 246 = .ok (.ifCond .ne 8, 3) := by decide +kernel
theorem dL_act_249 : decode cL_act 249 = .ok (.bipush 101, 2) := by decide +kernel
theorem dL_act_251 : decode cL_act 251 = .ok (.goto 5, 3) := by decide +kernel
theorem dL_act_254 : decode cL_act 254 = .ok (.bipush 7, 2) := by decide +kernel
theorem dL_act_256 : decode cL_act 256 = .ok (.invokestatic 15, 3) := by decide +kernel
theorem dL_act_259 : decode cL_act 259 = .ok (.iload_n 2, 1) := by decide +kernel
theorem dL_act_260 : decode cL_act 260 = .ok (.bipush 8, 2) := by decide +kernel
theorem dL_act_262 : decode cL_act 262 = .ok (.ishr, 1) := by decide +kernel
theorem dL_act_263 : decode cL_act 263 = .ok (.iconst 2, 1) := by decide +kernel
theorem dL_act_264 : decode cL_act 264 = .ok (.invokestatic 15, 3) := by decide +kernel
theorem dL_act_267 : decode cL_act 267 = .ok (.ifCond .ne 8, 3) := by decide +kernel
theorem dL_act_270 : decode cL_act 270 = .ok (.bipush 50, 2) := by decide +kernel
theorem dL_act_272 : decode cL_act 272 = .ok (.goto 4, 3) := by decide +kernel
theorem dL_act_275 : decode cL_act 275 = .ok (.iconst 3, 1) := by decide +kernel
theorem dL_act_276 : decode cL_act 276 = .ok (.isub, 1) := by decide +kernel
theorem dL_act_277 : decode cL_act 277 = .ok (.istore 6, 2) := by decide +kernel
theorem dL_act_279 : decode cL_act 279 = .ok (.aload_n 1, 1) := by decide +kernel
theorem dL_act_280 : decode cL_act 280 = .ok (.aload_n 1, 1) := by decide +kernel
theorem dL_act_281 : decode cL_act 281 = .ok (.aload_n 1, 1) := by decide +kernel
theorem dL_act_282 : decode cL_act 282 = .ok (.getfield 9, 3) := by decide +kernel
theorem dL_act_285 : decode cL_act 285 = .ok (.iload 4, 2) := by decide +kernel
theorem dL_act_287 : decode cL_act 287 = .ok (.iload 6, 2) := by decide +kernel
theorem dL_act_289 : decode cL_act 289 = .ok (.invokevirtual 39, 3) := by decide +kernel
theorem dL_act_292 : decode cL_act 292 = .ok (.putfield 9, 3) := by decide +kernel
theorem dL_act_295 : decode cL_act 295 = .ok (.aload_n 1, 1) := by decide +kernel
theorem dL_act_296 : decode cL_act 296 = .ok (.dup, 1) := by decide +kernel
theorem dL_act_297 : decode cL_act 297 = .ok (.getfield 43, 3) := by decide +kernel
theorem dL_act_300 : decode cL_act 300 = .ok (.iload 6, 2) := by decide +kernel
theorem dL_act_302 : decode cL_act 302 = .ok (.invokestatic 47, 3) := by decide +kernel
theorem dL_act_305 : decode cL_act 305 = .ok (.iadd, 1) := by decide +kernel
theorem dL_act_306 : decode cL_act 306 = .ok (.putfield 43, 3) := by decide +kernel
theorem dL_act_309 : decode cL_act 309 = .ok (.aload_n 0, 1) := by decide +kernel
theorem dL_act_310 : decode cL_act 310 = .ok (.iload 4, 2) := by decide +kernel
theorem dL_act_312 : decode cL_act 312 = .ok (.iload 6, 2) := by decide +kernel
theorem dL_act_314 : decode cL_act 314 = .ok (.invokevirtual 52, 3) := by decide +kernel
theorem dL_act_317 : decode cL_act 317 = .ok (.aload_n 1, 1) := by decide +kernel
theorem dL_act_318 : decode cL_act 318 = .ok (.getfield 9, 3) := by decide +kernel
theorem dL_act_321 : decode cL_act 321 = .ok (.iload 4, 2) := by decide +kernel
theorem dL_act_323 : decode cL_act 323 = .ok (.iaload, 1) := by decide +kernel
theorem dL_act_324 : decode cL_act 324 = .ok (.if_icmp .ne 7, 3) := by decide +kernel
theorem dL_act_327 : decode cL_act 327 = .ok (.iconst 1, 1) := by decide +kernel
theorem dL_act_328 : decode cL_act 328 = .ok (.goto 4, 3) := by decide +kernel
theorem dL_act_331 : decode cL_act 331 = .ok (.iconst 0, 1) := by decide +kernel
theorem dL_act_332 : decode cL_act 332 = .ok (.ireturn, 1) := by decide +kernel
theorem dL_act_333 : decode cL_act 333 = .ok (.iload_n 3, 1) := by decide +kernel
theorem dL_act_334 : decode cL_act 334 = .ok (.newarray .int, 2) := by decide +kernel
theorem dL_act_336 : decode cL_act 336 = .ok (.astore 6, 2) := by decide +kernel
theorem dL_act_338 : decode cL_act 338 = .ok (.iconst 0, 1) := by decide +kernel
theorem dL_act_339 : decode cL_act 339 = .ok (.istore 7, 2) := by decide +kernel
theorem dL_act_341 : decode cL_act 341 = .ok (.iload 7, 2) := by decide +kernel
theorem dL_act_343 : decode cL_act 343 = .ok (.iload_n 3, 1) := by decide +kernel
theorem dL_act_344 : decode cL_act 344 = .ok (.if_icmp .ge 25, 3) := by decide +kernel
theorem dL_act_347 : decode cL_act 347 = .ok (.aload 6, 2) := by decide +kernel
theorem dL_act_349 : decode cL_act 349 = .ok (.iload 7, 2) := by decide +kernel
theorem dL_act_351 : decode cL_act 351 = .ok (.iconst 1, 1) := by decide +kernel
theorem dL_act_352 : decode cL_act 352 = .ok (.iadd, 1) := by decide +kernel
theorem dL_act_353 : decode cL_act 353 = .ok (.iload_n 3, 1) := by decide +kernel
theorem dL_act_354 : decode cL_act 354 = .ok (.irem, 1) := by decide +kernel
theorem dL_act_355 : decode cL_act 355 = .ok (.aload_n 1, 1) := by decide +kernel
theorem dL_act_356 : decode cL_act 356 = .ok (.getfield 9, 3) := by decide +kernel
theorem dL_act_359 : decode cL_act 359 = .ok (.iload 7, 2) := by decide +kernel
theorem dL_act_361 : decode cL_act 361 = .ok (.iaload, 1) := by decide +kernel
theorem dL_act_362 : decode cL_act 362 = .ok (.iastore, 1) := by decide +kernel
theorem dL_act_363 : decode cL_act 363 = .ok (.iinc 7 1, 3) := by decide +kernel
theorem dL_act_366 : decode cL_act 366 = .ok (.goto (-25), 3) := by decide +kernel
theorem dL_act_369 : decode cL_act 369 = .ok (.aload_n 1, 1) := by decide +kernel
theorem dL_act_370 : decode cL_act 370 = .ok (.aload 6, 2) := by decide +kernel
theorem dL_act_372 : decode cL_act 372 = .ok (.putfield 9, 3) := by decide +kernel
theorem dL_act_375 : decode cL_act 375 = .ok (.aload_n 0, 1) := by decide +kernel
theorem dL_act_376 : decode cL_act 376 = .ok (.invokevirtual 55, 3) := by decide +kernel
theorem dL_act_379 : decode cL_act 379 = .ok (.aload 6, 2) := by decide +kernel
theorem dL_act_381 : decode cL_act 381 = .ok (.iconst 0, 1) := by decide +kernel
theorem dL_act_382 : decode cL_act 382 = .ok (.iaload, 1) := by decide +kernel
theorem dL_act_383 : decode cL_act 383 = .ok (.if_icmp .ne 7, 3) := by decide +kernel
theorem dL_act_386 : decode cL_act 386 = .ok (.iconst 1, 1) := by decide +kernel
theorem dL_act_387 : decode cL_act 387 = .ok (.goto 4, 3) := by decide +kernel
theorem dL_act_390 : decode cL_act 390 = .ok (.iconst 0, 1) := by decide +kernel
theorem dL_act_391 : decode cL_act 391 = .ok (.ireturn, 1) := by decide +kernel
theorem dL_act_392 : decode cL_act 392 = .ok (.aload_n 1, 1) := by decide +kernel
theorem dL_act_393 : decode cL_act 393 = .ok (.getfield 22, 3) := by decide +kernel
theorem dL_act_396 : decode cL_act 396 = .ok (.arraylength, 1) := by decide +kernel
theorem dL_act_397 : decode cL_act 397 = .ok (.istore 6, 2) := by decide +kernel
theorem dL_act_399 : decode cL_act 399 = .ok (.iload 6, 2) := by decide +kernel
theorem dL_act_401 : decode cL_act 401 = .ok (.bipush 6, 2) := by decide +kernel
theorem dL_act_403 : decode cL_act 403 = .ok (.if_icmp .ge 7, 3) := by decide +kernel
theorem dL_act_406 : decode cL_act 406 = .ok (.iconst 1, 1) := by decide +kernel
theorem dL_act_407 : decode cL_act 407 = .ok (.goto 4, 3) := by decide +kernel
theorem dL_act_410 : decode cL_act 410 = .ok (.iconst 0, 1) := by decide +kernel
theorem dL_act_411 : decode cL_act 411 = .ok (.istore 5, 2) := by decide +kernel
theorem dL_act_413 : decode cL_act 413 = .ok (.iload 5, 2) := by decide +kernel
theorem dL_act_415 : decode cL_act 415 = .ok (.ifCond .eq 24, 3) := by decide +kernel
theorem dL_act_418 : decode cL_act 418 = .ok (.aload_n 1, 1) := by decide +kernel
theorem dL_act_419 : decode cL_act 419 = .ok (.aload_n 1, 1) := by decide +kernel
theorem dL_act_420 : decode cL_act 420 = .ok (.getfield 22, 3) := by decide +kernel
theorem dL_act_423 : decode cL_act 423 = .ok (.aload_n 1, 1) := by decide +kernel
theorem dL_act_424 : decode cL_act 424 = .ok (.getfield 9, 3) := by decide +kernel
theorem dL_act_427 : decode cL_act 427 = .ok (.invokevirtual 32, 3) := by decide +kernel
theorem dL_act_430 : decode cL_act 430 = .ok (.checkcast 21, 3) := by decide +kernel
theorem dL_act_433 : decode cL_act 433 = .ok (.invokestatic 59, 3) := by decide +kernel
theorem dL_act_436 : decode cL_act 436 = .ok (.putfield 22, 3) := by decide +kernel
theorem dL_act_439 : decode cL_act 439 = .ok (.aload_n 0, 1) := by decide +kernel
theorem dL_act_440 : decode cL_act 440 = .ok (.invokevirtual 63, 3) := by decide +kernel
theorem dL_act_443 : decode cL_act 443 = .ok (.iload 6, 2) := by decide +kernel
theorem dL_act_445 : decode cL_act 445 = .ok (.if_icmp .ne 12, 3) := by decide +kernel
theorem dL_act_448 : decode cL_act 448 = .ok (.iload 5, 2) := by decide +kernel
theorem dL_act_450 : decode cL_act 450 = .ok (.ifCond .eq 7, 3) := by decide +kernel
theorem dL_act_453 : decode cL_act 453 = .ok (.iconst 1, 1) := by decide +kernel
theorem dL_act_454 : decode cL_act 454 = .ok (.goto 4, 3) := by decide +kernel
theorem dL_act_457 : decode cL_act 457 = .ok (.iconst 0, 1) := by decide +kernel
theorem dL_act_458 : decode cL_act 458 = .ok (.ireturn, 1) := by decide +kernel
theorem dL_act_459 : decode cL_act 459 = .ok (.iconst 1, 1) := by decide +kernel
theorem dL_act_460 : decode cL_act 460 = .ok (.iload_n 2, 1) := by decide +kernel
theorem dL_act_461 : decode cL_act 461 = .ok (.iconst 4, 1) := by decide +kernel
theorem dL_act_462 : decode cL_act 462 = .ok (.ishr, 1) := by decide +kernel
theorem dL_act_463 : decode cL_act 463 = .ok (.iload_n 2, 1) := by decide +kernel
theorem dL_act_464 : decode cL_act 464 = .ok (.bipush 8, 2) := by decide +kernel
theorem dL_act_466 : decode cL_act 466 = .ok (.ishr, 1) := by decide +kernel
theorem dL_act_467 : decode cL_act 467 = .ok (.iconst 2, 1) := by decide +kernel
theorem dL_act_468 : decode cL_act 468 = .ok (.invokestatic 15, 3) := by decide +kernel
theorem dL_act_471 : decode cL_act 471 = .ok (.ifCond .ne 9, 3) := by decide +kernel
theorem dL_act_474 : decode cL_act 474 = .ok (.sipush 200, 3) := by decide +kernel
theorem dL_act_477 : decode cL_act 477 = .ok (.goto 5, 3) := by decide +kernel
theorem dL_act_480 : decode cL_act 480 = .ok (.bipush 9, 2) := by decide +kernel
theorem dL_act_482 : decode cL_act 482 = .ok (.invokestatic 15, 3) := by decide +kernel
theorem dL_act_485 : decode cL_act 485 = .ok (.iadd, 1) := by decide +kernel
theorem dL_act_486 : decode cL_act 486 = .ok (.istore 6, 2) := by decide +kernel
theorem dL_act_488 : decode cL_act 488 = .ok (.aload_n 0, 1) := by decide +kernel
theorem dL_act_489 : decode cL_act 489 = .ok (.iload 6, 2) := by decide +kernel
theorem dL_act_491 : decode cL_act 491 = .ok (.invokevirtual 66, 3) := by decide +kernel
theorem dL_act_494 : decode cL_act 494 = .ok (.aload_n 1, 1) := by decide +kernel
theorem dL_act_495 : decode cL_act 495 = .ok (.iload 6, 2) := by decide +kernel
theorem dL_act_497 : decode cL_act 497 = .ok (.invokevirtual 69, 3) := by decide +kernel
theorem dL_act_500 : decode cL_act 500 = .ok (.if_icmp .ne 7, 3) := by decide +kernel
theorem dL_act_503 : decode cL_act 503 = .ok (.iconst 1, 1) := by decide +kernel
theorem dL_act_504 : decode cL_act 504 = .ok (.goto 4, 3) := by decide +kernel
theorem dL_act_507 : decode cL_act 507 = .ok (.iconst 0, 1) := by decide +kernel
theorem dL_act_508 : decode cL_act 508 = .ok (.ireturn, 1) := by decide +kernel
theorem dL_act_509 : decode cL_act 509 = .ok (.aload_n 1, 1) := by decide +kernel
theorem dL_act_510 : decode cL_act 510 = .ok (.getfield 22, 3) := by decide +kernel
theorem dL_act_513 : decode cL_act 513 = .ok (.arraylength, 1) := by decide +kernel
theorem dL_act_514 : decode cL_act 514 = .ok (.ifCond .ne 5, 3) := by decide +kernel
theorem dL_act_517 : decode cL_act 517 = .ok (.iconst 1, 1) := by decide +kernel
theorem dL_act_518 : decode cL_act 518 = .ok (.ireturn, 1) := by decide +kernel
theorem dL_act_519 : decode cL_act 519 = .ok (.iload_n 2, 1) := by decide +kernel
theorem dL_act_520 : decode cL_act 520 = .ok (.iconst 5, 1) := by decide +kernel
theorem dL_act_521 : decode cL_act 521 = .ok (.ishr, 1) := by decide +kernel
theorem dL_act_522 : decode cL_act 522 = .ok (.aload_n 1, 1) := by decide +kernel
theorem dL_act_523 : decode cL_act 523 = .ok (.getfield 22, 3) := by decide +kernel
theorem dL_act_526 : decode cL_act 526 = .ok (.arraylength, 1) := by decide +kernel
theorem dL_act_527 : decode cL_act 527 = .ok (.invokestatic 15, 3) := by decide +kernel
theorem dL_act_530 : decode cL_act 530 = .ok (.istore 6, 2) := by decide +kernel
theorem dL_act_532 : decode cL_act 532 = .ok (.aload_n 1, 1) := by decide +kernel
theorem dL_act_533 : decode cL_act 533 = .ok (.aload_n 1, 1) := by decide +kernel
theorem dL_act_534 : decode cL_act 534 = .ok (.getfield 9, 3) := by decide +kernel
theorem dL_act_537 : decode cL_act 537 = .ok (.iload 6, 2) := by decide +kernel
theorem dL_act_539 : decode cL_act 539 = .ok (.invokevirtual 70, 3) := by decide +kernel
theorem dL_act_542 : decode cL_act 542 = .ok (.istore 5, 2) := by decide +kernel
theorem dL_act_544 : decode cL_act 544 = .ok (.iload 5, 2) := by decide +kernel
theorem dL_act_546 : decode cL_act 546 = .ok (.ifCond .eq 12, 3) := by decide +kernel
theorem dL_act_549 : decode cL_act 549 = .ok (.aload_n 1, 1) := by decide +kernel
theorem dL_act_550 : decode cL_act 550 = .ok (.iload 6, 2) := by decide +kernel
theorem dL_act_552 : decode cL_act 552 = .ok (.invokevirtual 74, 3) := by decide +kernel
theorem dL_act_555 : decode cL_act 555 = .ok (.goto 4, 3) := by decide +kernel
theorem dL_act_558 : decode cL_act 558 = .ok (.iconst 0, 1) := by decide +kernel
theorem dL_act_559 : decode cL_act 559 = .ok (.istore 7, 2) := by decide +kernel
theorem dL_act_561 : decode cL_act 561 = .ok (.iload 5, 2) := by decide +kernel
theorem dL_act_563 : decode cL_act 563 = .ok (.ifCond .eq 20, 3) := by decide +kernel
theorem dL_act_566 : decode cL_act 566 = .ok (.aload_n 1, 1) := by decide +kernel
theorem dL_act_567 : decode cL_act 567 = .ok (.aload_n 1, 1) := by decide +kernel
theorem dL_act_568 : decode cL_act 568 = .ok (.getfield 22, 3) := by decide +kernel
theorem dL_act_571 : decode cL_act 571 = .ok (.iload 6, 2) := by decide +kernel
theorem dL_act_573 : decode cL_act 573 = .ok (.aaload, 1) := by decide +kernel
theorem dL_act_574 : decode cL_act 574 = .ok (.invokevirtual 32, 3) := by decide +kernel
theorem dL_act_577 : decode cL_act 577 = .ok (.checkcast 21, 3) := by decide +kernel
theorem dL_act_580 : decode cL_act 580 = .ok (.putfield 9, 3) := by decide +kernel
theorem dL_act_583 : decode cL_act 583 = .ok (.aload_n 1, 1) := by decide +kernel
theorem dL_act_584 : decode cL_act 584 = .ok (.dup, 1) := by decide +kernel
theorem dL_act_585 : decode cL_act 585 = .ok (.getfield 43, 3) := by decide +kernel
theorem dL_act_588 : decode cL_act 588 = .ok (.iload 7, 2) := by decide +kernel
theorem dL_act_590 : decode cL_act 590 = .ok (.iadd, 1) := by decide +kernel
theorem dL_act_591 : decode cL_act 591 = .ok (.putfield 43, 3) := by decide +kernel
theorem dL_act_594 : decode cL_act 594 = .ok (.aload_n 0, 1) := by decide +kernel
theorem dL_act_595 : decode cL_act 595 = .ok (.iload 6, 2) := by decide +kernel
theorem dL_act_597 : decode cL_act 597 = .ok (.invokevirtual 77, 3) := by decide +kernel
theorem dL_act_600 : decode cL_act 600 = .ok (.iload 7, 2) := by decide +kernel
theorem dL_act_602 : decode cL_act 602 = .ok (.if_icmp .ne 12, 3) := by decide +kernel
theorem dL_act_605 : decode cL_act 605 = .ok (.iload 5, 2) := by decide +kernel
theorem dL_act_607 : decode cL_act 607 = .ok (.ifCond .eq 7, 3) := by decide +kernel
theorem dL_act_610 : decode cL_act 610 = .ok (.iconst 1, 1) := by decide +kernel
theorem dL_act_611 : decode cL_act 611 = .ok (.goto 4, 3) := by decide +kernel
theorem dL_act_614 : decode cL_act 614 = .ok (.iconst 0, 1) := by decide +kernel
theorem dL_act_615 : decode cL_act 615 = .ok (.ireturn, 1) := by decide +kernel
theorem dL_act_616 : decode cL_act 616 = .ok (.astore 6, 2) := by decide +kernel
theorem dL_act_618 : decode cL_act 618 = .ok (.iload 5, 2) := by decide +kernel
theorem dL_act_620 : decode cL_act 620 = .ok (.ifCond .ne 7, 3) := by decide +kernel
theorem dL_act_623 : decode cL_act 623 = .ok (.iconst 1, 1) := by decide +kernel
theorem dL_act_624 : decode cL_act 624 = .ok (.goto 4, 3) := by decide +kernel
theorem dL_act_627 : decode cL_act 627 = .ok (.iconst 0, 1) := by decide +kernel
theorem dL_act_628 : decode cL_act 628 = .ok (.ireturn, 1) := by decide +kernel
set_option maxRecDepth 20000 in
theorem ggL_build_X3_init : GoodIn wsL_build wsX3_init := goodIn_r _ [14, 15, 16, 17, 4, 18, 19, 20, 248, 249, 250] (by decide +kernel) (by decide +kernel)
set_option maxRecDepth 20000 in
theorem gL_build_X3_init_n82 : GoodIn wsL_build (wsX3_init) := ggL_build_X3_init
set_option maxRecDepth 20000 in
theorem ggL_build_L_cell : GoodIn wsL_build wsL_cell := goodIn_r _ [24, 25] (by decide +kernel) (by decide +kernel)
set_option maxRecDepth 20000 in
theorem gL_build_L_cell : GoodIn wsL_build (va_wsS RL 83 yL_cell wsL_cell) := goodIn_app (goodIn_of _ (by decide +kernel)) ggL_build_L_cell
set_option maxRecDepth 20000 in
theorem ggL_build_L_below : GoodIn wsL_build wsL_below := goodIn_r _ [28, 29] (by decide +kernel) (by decide +kernel)
set_option maxRecDepth 20000 in
theorem gL_build_L_below : GoodIn wsL_build (va_wsS RL 15 yL_below wsL_below) := goodIn_app (goodIn_of _ (by decide +kernel)) ggL_build_L_below
set_option maxRecDepth 20000 in
theorem ggL_build_X2_lay : GoodIn wsL_build wsX2_lay := goodIn_ca (goodIn_r _ [34, 35, 36, 37, 38, 39, 40, 41, 42, 43, 44, 45, 46, 47, 48, 49, 50, 51, 52, 53, 251, 252, 253, 254, 255, 256, 257, 258] (by decide +kernel) (by decide +kernel)) (goodIn_sub (fun _ h => List.mem_cons_of_mem _ (List.mem_append_left _ (List.mem_append_left _ (List.mem_append_right _ h)))) (by decide +kernel))
set_option maxRecDepth 20000 in
theorem gL_build_X2_lay : GoodIn wsL_build (wsV RL 26 RX2 yX2_lay wsX2_lay) := goodIn_app (goodIn_of _ (by decide +kernel)) ggL_build_X2_lay
set_option maxRecDepth 20000 in
theorem ggL_build_X2_put : GoodIn wsL_build wsX2_put := goodIn_ca (goodIn_ca (goodIn_r _ [57, 37, 58, 59, 60, 33, 61, 62, 63, 39, 40, 41, 42, 43, 44, 64, 65, 66, 67, 35, 36, 68, 69, 70, 71, 49, 72, 51, 52, 53, 251, 252, 253, 254, 255, 256, 257, 258] (by decide +kernel) (by decide +kernel)) (goodIn_sub (fun _ h => List.mem_cons_of_mem _ (List.mem_append_left _ (List.mem_append_right _ h))) (by decide +kernel))) (goodIn_sub (fun _ h => List.mem_cons_of_mem _ (List.mem_append_left _ (List.mem_append_left _ (List.mem_append_right _ h)))) (by decide +kernel))
set_option maxRecDepth 20000 in
theorem gL_build_X2_put : GoodIn wsL_build (wsV RL 36 RX2 yX2_put wsX2_put) := goodIn_app (goodIn_of _ (by decide +kernel)) ggL_build_X2_put
set_option maxRecDepth 20000 in
theorem ggL_build_X3_with : GoodIn wsL_build wsX3_with := goodIn_r _ [75, 19] (by decide +kernel) (by decide +kernel)
set_option maxRecDepth 20000 in
theorem gL_build_X3_with : GoodIn wsL_build (va_wsS RL 59 yX3_with wsX3_with) := goodIn_app (goodIn_of _ (by decide +kernel)) ggL_build_X3_with
set_option maxRecDepth 20000 in
theorem ggL_build_X2_keep : GoodIn wsL_build wsX2_keep := goodIn_ca (goodIn_ca (goodIn_r _ [79, 80, 81, 38, 37, 82, 83, 84, 33, 85, 62, 63, 86, 87, 88, 89, 42, 90, 44, 49, 91, 69, 70, 71, 50, 51, 52, 53, 251, 252, 253, 254, 255, 256, 257, 258] (by decide +kernel) (by decide +kernel)) (goodIn_sub (fun _ h => List.mem_cons_of_mem _ (List.mem_append_right _ h)) (by decide +kernel))) (goodIn_sub (fun _ h => List.mem_cons_of_mem _ (List.mem_append_left _ (List.mem_append_right _ h))) (by decide +kernel))
set_option maxRecDepth 20000 in
theorem gL_build_X2_keep : GoodIn wsL_build (wsV RL 63 RX2 yX2_keep wsX2_keep) := goodIn_app (goodIn_of _ (by decide +kernel)) ggL_build_X2_keep
set_option maxRecDepth 20000 in
set_option maxRecDepth 20000 in
theorem dL_build_0 : decode cL_build 0 = .ok (.new 10, 3) := by decide +kernel
theorem dL_build_3 : decode cL_build 3 = .ok (.dup, 1) := by decide +kernel
theorem dL_build_4 : decode cL_build 4 = .ok (.invokespecial 82, 3) := by decide +kernel
theorem dL_build_7 : decode cL_build 7 = .ok (.astore_n 2, 1) := by decide +kernel
theorem dL_build_8 : decode cL_build 8 = .ok (.iconst 3, 1) := by decide +kernel
theorem dL_build_9 : decode cL_build 9 = .ok (.aload_n 1, 1) := by decide +kernel
theorem dL_build_10 : decode cL_build 10 = .ok (.iconst 0, 1) := by decide +kernel
theorem dL_build_11 : decode cL_build 11 = .ok (.invokestatic 83, 3) := by decide +kernel
theorem dL_build_14 : decode cL_build 14 = .ok (.bipush 10, 2) := by decide +kernel
theorem dL_build_16 : decode cL_build 16 = .ok (.invokestatic 15, 3) := by decide +kernel
theorem dL_build_19 : decode cL_build 19 = .ok (.iadd, 1) := by decide +kernel
theorem dL_build_20 : decode cL_build 20 = .ok (.istore_n 3, 1) := by decide +kernel
theorem dL_build_21 : decode cL_build 21 = .ok (.aload_n 2, 1) := by decide +kernel
theorem dL_build_22 : decode cL_build 22 = .ok (.iload_n 3, 1) := by decide +kernel
theorem dL_build_23 : decode cL_build 23 = .ok (.newarray .int, 2) := by decide +kernel
theorem dL_build_25 : decode cL_build 25 = .ok (.putfield 9, 3) := by decide +kernel
theorem dL_build_28 : decode cL_build 28 = .ok (.aload_n 0, 1) := by decide +kernel
theorem dL_build_29 : decode cL_build 29 = .ok (.iload_n 3, 1) := by decide +kernel
theorem dL_build_30 : decode cL_build 30 = .ok (.invokevirtual 26, 3) := by decide +kernel
theorem dL_build_33 : decode cL_build 33 = .ok (.bipush 6, 2) := by decide +kernel
theorem dL_build_35 : decode cL_build 35 = .ok (.if_icmp .eq 5, 3) := by decide +kernel
theorem dL_build_38 : decode cL_build 38 = .ok (.aconst_null, 1) := by decide +kernel
theorem dL_build_39 : decode cL_build 39 = .ok (.areturn, 1) := by decide +kernel
theorem dL_build_40 : decode cL_build 40 = .ok (.iconst 0, 1) := by decide +kernel
theorem dL_build_41 : decode cL_build 41 = .ok (.istore 4, 2) := by decide +kernel
theorem dL_build_43 : decode cL_build 43 = .ok (.iload 4, 2) := by decide +kernel
theorem dL_build_45 : decode cL_build 45 = .ok (.iload_n 3, 1) := by decide +kernel
theorem dL_build_46 : decode cL_build 46 = .ok (.if_icmp .ge 72, 3) := by decide +kernel
theorem dL_build_49 : decode cL_build 49 = .ok (.aload_n 2, 1) := by decide +kernel
theorem dL_build_50 : decode cL_build 50 = .ok (.getfield 9, 3) := by decide +kernel
theorem dL_build_53 : decode cL_build 53 = .ok (.iload 4, 2) := by decide +kernel
theorem dL_build_55 : decode cL_build 55 = .ok (.aload_n 1, 1) := by decide +kernel
theorem dL_build_56 : decode cL_build 56 = .ok (.iconst 1, 1) := by decide +kernel
theorem dL_build_57 : decode cL_build 57 = .ok (.iload 4, 2) := by decide +kernel
theorem dL_build_59 : decode cL_build 59 = .ok (.iadd, 1) := by decide +kernel
theorem dL_build_60 : decode cL_build 60 = .ok (.invokestatic 83, 3) := by decide +kernel
theorem dL_build_63 : decode cL_build 63 = .ok (.iconst 3, 1) := by decide +kernel
theorem dL_build_64 : decode cL_build 64 = .ok (.ishr, 1) := by decide +kernel
theorem dL_build_65 : decode cL_build 65 = .ok (.aload_n 1, 1) := by decide +kernel
theorem dL_build_66 : decode cL_build 66 = .ok (.iconst 1, 1) := by decide +kernel
theorem dL_build_67 : decode cL_build 67 = .ok (.iload 4, 2) := by decide +kernel
theorem dL_build_69 : decode cL_build 69 = .ok (.iadd, 1) := by decide +kernel
theorem dL_build_70 : decode cL_build 70 = .ok (.invokestatic 83, 3) := by decide +kernel
theorem dL_build_73 : decode cL_build 73 = .ok (.iconst 3, 1) := by decide +kernel
theorem dL_build_74 : decode cL_build 74 = .ok (.invokestatic 15, 3) := by decide +kernel
theorem dL_build_77 : decode cL_build 77 = .ok (.ifCond .ne 9, 3) := by decide +kernel
theorem dL_build_80 : decode cL_build 80 = .ok (.sipush 200, 3) := by decide +kernel
theorem dL_build_83 : decode cL_build 83 = .ok (.goto 5, 3) := by decide +kernel
theorem dL_build_86 : decode cL_build 86 = .ok (.bipush 12, 2) := by decide +kernel
theorem dL_build_88 : decode cL_build 88 = .ok (.invokestatic 15, 3) := by decide +kernel
theorem dL_build_91 : decode cL_build 91 = .ok (.iconst 4, 1) := by decide +kernel
theorem dL_build_92 : decode cL_build 92 = .ok (.isub, 1) := by decide +kernel
theorem dL_build_93 : decode cL_build 93 = .ok (.iastore, 1) := by decide +kernel
theorem dL_build_94 : decode cL_build 94 = .ok (.aload_n 0, 1) := by decide +kernel
theorem dL_build_95 : decode cL_build 95 = .ok (.iload 4, 2) := by decide +kernel
theorem dL_build_97 : decode cL_build 97 = .ok (.aload_n 2, 1) := by decide +kernel
theorem dL_build_98 : decode cL_build 98 = .ok (.getfield 9, 3) := by decide +kernel
theorem dL_build_101 : decode cL_build 101 = .ok (.iload 4, 2) := by decide +kernel
theorem dL_build_103 : decode cL_build 103 = .ok (.iaload, 1) := by decide +kernel
theorem dL_build_104 : decode cL_build 104 = .ok (.invokevirtual 36, 3) := by decide +kernel
theorem dL_build_107 : decode cL_build 107 = .ok (.ifCond .eq 5, 3) := by decide +kernel
theorem dL_build_110 : decode cL_build 110 = .ok (.aconst_null, 1) := by decide +kernel
theorem dL_build_111 : decode cL_build 111 = .ok (.areturn, 1) := by decide +kernel
theorem dL_build_112 : decode cL_build 112 = .ok (.iinc 4 1, 3) := by decide +kernel
theorem dL_build_115 : decode cL_build 115 = .ok (.goto (-72), 3) := by decide +kernel
theorem dL_build_118 : decode cL_build 118 = .ok (.aload_n 2, 1) := by decide +kernel
theorem dL_build_119 : decode cL_build 119 = .ok (.aload_n 2, 1) := by decide +kernel
theorem dL_build_120 : decode cL_build 120 = .ok (.getfield 22, 3) := by decide +kernel
theorem dL_build_123 : decode cL_build 123 = .ok (.aload_n 2, 1) := by decide +kernel
theorem dL_build_124 : decode cL_build 124 = .ok (.getfield 9, 3) := by decide +kernel
theorem dL_build_127 : decode cL_build 127 = .ok (.invokevirtual 32, 3) := by decide +kernel
theorem dL_build_130 : decode cL_build 130 = .ok (.checkcast 21, 3) := by decide +kernel
theorem dL_build_133 : decode cL_build 133 = .ok (.invokestatic 59, 3) := by decide +kernel
theorem dL_build_136 : decode cL_build 136 = .ok (.putfield 22, 3) := by decide +kernel
theorem dL_build_139 : decode cL_build 139 = .ok (.aload_n 0, 1) := by decide +kernel
theorem dL_build_140 : decode cL_build 140 = .ok (.invokevirtual 63, 3) := by decide +kernel
theorem dL_build_143 : decode cL_build 143 = .ok (.ifCond .eq 5, 3) := by decide +kernel
theorem dL_build_146 : decode cL_build 146 = .ok (.aconst_null, 1) := by decide +kernel
theorem dL_build_147 : decode cL_build 147 = .ok (.areturn, 1) := by decide +kernel
theorem dL_build_148 : decode cL_build 148 = .ok (.iconst 0, 1) := by decide +kernel
theorem dL_build_149 : decode cL_build 149 = .ok (.istore 4, 2) := by decide +kernel
theorem dL_build_151 : decode cL_build 151 = .ok (.iload 4, 2) := by decide +kernel
theorem dL_build_153 : decode cL_build 153 = .ok (.bipush 8, 2) := by decide +kernel
theorem dL_build_155 : decode cL_build 155 = .ok (.if_icmp .ge 33, 3) := by decide +kernel
theorem dL_build_158 : decode cL_build 158 = .ok (.aload_n 0, 1) := by decide +kernel
theorem dL_build_159 : decode cL_build 159 = .ok (.aload_n 2, 1) := by decide +kernel
theorem dL_build_160 : decode cL_build 160 = .ok (.aload_n 1, 1) := by decide +kernel
theorem dL_build_161 : decode cL_build 161 = .ok (.iload 4, 2) := by decide +kernel
theorem dL_build_163 : decode cL_build 163 = .ok (.invokestatic 83, 3) := by decide +kernel
theorem dL_build_166 : decode cL_build 166 = .ok (.iconst 4, 1) := by decide +kernel
theorem dL_build_167 : decode cL_build 167 = .ok (.ishr, 1) := by decide +kernel
theorem dL_build_168 : decode cL_build 168 = .ok (.bipush 41, 2) := by decide +kernel
theorem dL_build_170 : decode cL_build 170 = .ok (.iload 4, 2) := by decide +kernel
theorem dL_build_172 : decode cL_build 172 = .ok (.imul, 1) := by decide +kernel
theorem dL_build_173 : decode cL_build 173 = .ok (.iadd, 1) := by decide +kernel
theorem dL_build_174 : decode cL_build 174 = .ok (.invokestatic 87, 3) := by decide +kernel
theorem dL_build_177 : decode cL_build 177 = .ok (.ifCond .ne 5, 3) := by decide +kernel
theorem dL_build_180 : decode cL_build 180 = .ok (.aconst_null, 1) := by decide +kernel
theorem dL_build_181 : decode cL_build 181 = .ok (.areturn, 1) := by decide +kernel
theorem dL_build_182 : decode cL_build 182 = .ok (.iinc 4 1, 3) := by decide +kernel
theorem dL_build_185 : decode cL_build 185 = .ok (.goto (-34), 3) := by decide +kernel
theorem dL_build_188 : decode cL_build 188 = .ok (.aload_n 2, 1) := by decide +kernel
theorem dL_build_189 : decode cL_build 189 = .ok (.areturn, 1) := by decide +kernel
set_option maxRecDepth 20000 in
theorem ggL_law_X2_init : GoodIn wsL_law wsX2_init := goodIn_r _ [22, 23, 24, 25, 26, 27, 28, 29, 30, 31, 32, 33, 34, 35, 36, 37, 38, 39, 40, 41, 42, 43, 44, 45, 46, 47, 48, 491, 492, 482, 483, 484, 485, 486, 487, 493, 494] (by decide +kernel) (by decide +kernel)
set_option maxRecDepth 20000 in
theorem gL_law_X2_init : GoodIn wsL_law (wsX2_init) := ggL_law_X2_init
set_option maxRecDepth 20000 in
set_option maxRecDepth 20000 in
set_option maxRecDepth 20000 in
theorem ggL_law_L_cell : GoodIn wsL_law wsL_cell := goodIn_r _ [65, 66] (by decide +kernel) (by decide +kernel)
set_option maxRecDepth 20000 in
theorem gL_law_L_cell : GoodIn wsL_law (va_wsS RL 83 yL_cell wsL_cell) := goodIn_app (goodIn_of _ (by decide +kernel)) ggL_law_L_cell
set_option maxRecDepth 20000 in
set_option maxRecDepth 20000 in
set_option maxRecDepth 20000 in
theorem ggL_law_X2_digest : GoodIn wsL_law wsX2_digest := goodIn_ca (goodIn_ca (goodIn_r _ [272, 273, 274, 275, 276, 2, 277, 29, 76, 77, 78, 28, 79, 43, 278, 279, 280, 281, 282, 283, 284, 285, 31, 286, 287, 288, 289, 32, 290, 291, 292, 293, 294, 230, 231, 232, 124, 103, 104, 105, 42, 295, 296, 297, 298, 299, 234, 235, 236, 237, 238, 239, 240, 300, 301, 302, 303, 304, 305, 306, 307, 308, 11, 5, 12, 309, 310, 311, 312, 313, 314, 315, 316, 317, 318, 319, 320, 321, 322, 176, 177, 178, 151, 152, 153, 154, 323, 324, 325, 326, 327, 172, 173, 174, 175, 328, 329, 330, 331, 332, 333, 334, 335, 336, 337, 338, 339, 138, 4, 6, 340, 341, 342, 343, 116, 117, 118, 119, 96, 97, 30, 225, 226, 227, 228, 229, 233, 344, 345, 346, 347, 241, 242, 243, 244, 37, 245, 246, 247, 36, 248, 48, 47, 249, 250, 251, 252, 253, 254, 255, 256, 257, 258, 259, 260, 261, 262, 263, 264, 265, 266, 267, 268, 348, 349, 350, 351, 352, 353, 354, 355, 33, 120, 121, 122, 123, 84, 85, 86, 87, 167, 168, 169, 170, 171, 179, 144, 145, 146, 147, 148, 149, 150, 356, 357, 358, 359, 360, 361, 362, 363, 364, 365, 366, 367, 368, 143, 369, 370, 371, 372, 98, 99, 100, 101, 74, 75, 373, 374, 375, 376, 106, 377, 378, 379, 380, 102, 381, 382, 383, 384, 385, 386, 387, 388, 482, 483, 484, 485, 486, 487, 491, 492, 493, 494] (by decide +kernel) (by decide +kernel)) (goodIn_sub (fun _ h => List.mem_append_left _ (List.mem_append_right _ h)) (by decide +kernel))) (goodIn_sub (fun _ h => List.mem_append_left _ (List.mem_append_left _ (List.mem_append_right _ h))) (by decide +kernel))
set_option maxRecDepth 20000 in
theorem gL_law_X2_digest : GoodIn wsL_law (wsV RL 96 RX2 yX2_digest wsX2_digest) := goodIn_app (goodIn_of _ (by decide +kernel)) ggL_law_X2_digest
set_option maxRecDepth 20000 in
theorem ggL_law_X2_places : GoodIn wsL_law wsX2_places := goodIn_r _ [277, 29, 76, 77, 78, 28, 79, 43, 482, 483, 484, 485, 486, 487, 491, 492] (by decide +kernel) (by decide +kernel)
set_option maxRecDepth 20000 in
theorem gL_law_X2_places : GoodIn wsL_law (wsV RL 100 RX2 yX2_places wsX2_places) := goodIn_app (goodIn_of _ (by decide +kernel)) ggL_law_X2_places
set_option maxRecDepth 20000 in
theorem ggL_law_X2_targets : GoodIn wsL_law wsX2_targets := goodIn_r _ [285, 31, 482, 483, 484, 485, 486, 487] (by decide +kernel) (by decide +kernel)
set_option maxRecDepth 20000 in
theorem gL_law_X2_targets : GoodIn wsL_law (wsV RL 103 RX2 yX2_targets wsX2_targets) := goodIn_app (goodIn_of _ (by decide +kernel)) ggL_law_X2_targets
set_option maxRecDepth 20000 in
theorem ggL_law_X2_tilt : GoodIn wsL_law wsX2_tilt := goodIn_ca (goodIn_r _ [394, 29, 92, 93, 94, 2, 95, 96, 97, 76, 77, 78, 28, 79, 43, 332, 333, 334, 335, 151, 152, 153, 154, 124, 103, 104, 105, 42, 482, 483, 484, 485, 486, 487, 491, 492] (by decide +kernel) (by decide +kernel)) (goodIn_sub (fun _ h => List.mem_append_left _ (List.mem_append_right _ h)) (by decide +kernel))
set_option maxRecDepth 20000 in
theorem gL_law_X2_tilt : GoodIn wsL_law (wsV RL 105 RX2 yX2_tilt wsX2_tilt) := goodIn_app (goodIn_of _ (by decide +kernel)) ggL_law_X2_tilt
set_option maxRecDepth 20000 in
theorem ggL_law_X2_isSteep : GoodIn wsL_law wsX2_isSteep := goodIn_ca (goodIn_r _ [398, 29, 92, 93, 94, 2, 95, 96, 97, 76, 77, 78, 28, 79, 43, 322, 176, 177, 178, 124, 103, 104, 105, 42, 151, 152, 153, 154, 482, 483, 484, 485, 486, 487, 491, 492] (by decide +kernel) (by decide +kernel)) (goodIn_sub (fun _ h => List.mem_append_left _ (List.mem_append_right _ h)) (by decide +kernel))
set_option maxRecDepth 20000 in
theorem gL_law_X2_isSteep : GoodIn wsL_law (wsV RL 108 RX2 yX2_isSteep wsX2_isSteep) := goodIn_app (goodIn_of _ (by decide +kernel)) ggL_law_X2_isSteep
set_option maxRecDepth 20000 in
theorem ggL_law_X2_bestAxis : GoodIn wsL_law wsX2_bestAxis := goodIn_r _ [339, 29, 138, 4, 5, 6, 76, 77, 78, 28, 79, 43, 332, 333, 334, 335, 151, 152, 153, 154, 124, 103, 104, 105, 42, 482, 483, 484, 485, 486, 487, 491, 492] (by decide +kernel) (by decide +kernel)
set_option maxRecDepth 20000 in
theorem gL_law_X2_bestAxis : GoodIn wsL_law (wsV RL 112 RX2 yX2_bestAxis wsX2_bestAxis) := goodIn_app (goodIn_of _ (by decide +kernel)) ggL_law_X2_bestAxis
set_option maxRecDepth 20000 in
theorem ggL_law_X2_numberAt : GoodIn wsL_law wsX2_numberAt := goodIn_ca (goodIn_r _ [403, 29, 92, 93, 94, 2, 95, 96, 97, 76, 77, 78, 28, 79, 43, 102, 103, 104, 105, 42, 482, 483, 484, 485, 486, 487, 491, 492] (by decide +kernel) (by decide +kernel)) (goodIn_sub (fun _ h => List.mem_append_left _ (List.mem_append_right _ h)) (by decide +kernel))
set_option maxRecDepth 20000 in
theorem gL_law_X2_numberAt : GoodIn wsL_law (wsV RL 115 RX2 yX2_numberAt wsX2_numberAt) := goodIn_app (goodIn_of _ (by decide +kernel)) ggL_law_X2_numberAt
set_option maxRecDepth 20000 in
theorem ggL_law_X2_highest : GoodIn wsL_law wsX2_highest := goodIn_r _ [316, 29, 317, 310, 311, 28, 312, 43, 124, 103, 104, 105, 42, 482, 483, 484, 485, 486, 487, 491, 492] (by decide +kernel) (by decide +kernel)
set_option maxRecDepth 20000 in
theorem gL_law_X2_highest : GoodIn wsL_law (wsV RL 118 RX2 yX2_highest wsX2_highest) := goodIn_app (goodIn_of _ (by decide +kernel)) ggL_law_X2_highest
set_option maxRecDepth 20000 in
theorem ggL_law_X2_spread : GoodIn wsL_law wsX2_spread := goodIn_r _ [303, 29, 304, 305, 306, 28, 307, 43, 308, 11, 5, 12, 124, 103, 104, 105, 42, 309, 310, 311, 312, 482, 483, 484, 485, 486, 487, 491, 492] (by decide +kernel) (by decide +kernel)
set_option maxRecDepth 20000 in
theorem gL_law_X2_spread : GoodIn wsL_law (wsV RL 121 RX2 yX2_spread wsX2_spread) := goodIn_app (goodIn_of _ (by decide +kernel)) ggL_law_X2_spread
set_option maxRecDepth 20000 in
theorem ggL_law_X2_nextToTip : GoodIn wsL_law wsX2_nextToTip := goodIn_r _ [326, 29, 327, 172, 173, 28, 174, 43, 175, 176, 177, 178, 124, 103, 104, 105, 42, 151, 152, 153, 154, 482, 483, 484, 485, 486, 487, 491, 492] (by decide +kernel) (by decide +kernel)
set_option maxRecDepth 20000 in
theorem gL_law_X2_nextToTip : GoodIn wsL_law (wsV RL 124 RX2 yX2_nextToTip wsX2_nextToTip) := goodIn_app (goodIn_of _ (by decide +kernel)) ggL_law_X2_nextToTip
set_option maxRecDepth 20000 in
theorem ggL_law_X2_levelAxes : GoodIn wsL_law wsX2_levelAxes := goodIn_r _ [331, 29, 76, 77, 78, 28, 79, 43, 332, 333, 334, 335, 151, 152, 153, 154, 124, 103, 104, 105, 42, 482, 483, 484, 485, 486, 487, 491, 492] (by decide +kernel) (by decide +kernel)
set_option maxRecDepth 20000 in
theorem gL_law_X2_levelAxes : GoodIn wsL_law (wsV RL 127 RX2 yX2_levelAxes wsX2_levelAxes) := goodIn_app (goodIn_of _ (by decide +kernel)) ggL_law_X2_levelAxes
set_option maxRecDepth 20000 in
theorem ggL_law_X2_steepPlaces : GoodIn wsL_law wsX2_steepPlaces := goodIn_r _ [321, 29, 76, 77, 78, 28, 79, 43, 322, 176, 177, 178, 124, 103, 104, 105, 42, 151, 152, 153, 154, 482, 483, 484, 485, 486, 487, 491, 492] (by decide +kernel) (by decide +kernel)
set_option maxRecDepth 20000 in
theorem gL_law_X2_steepPlaces : GoodIn wsL_law (wsV RL 130 RX2 yX2_steepPlaces wsX2_steepPlaces) := goodIn_app (goodIn_of _ (by decide +kernel)) ggL_law_X2_steepPlaces
set_option maxRecDepth 20000 in
theorem ggL_law_X2_stepsToRest : GoodIn wsL_law wsX2_stepsToRest := goodIn_r _ [351, 352, 353, 354, 2, 355, 33, 29, 120, 121, 122, 28, 123, 43, 42, 124, 103, 104, 105, 84, 85, 86, 87, 167, 168, 169, 170, 171, 172, 173, 174, 175, 176, 177, 178, 151, 152, 153, 154, 179, 144, 145, 146, 147, 148, 149, 150, 327, 482, 483, 484, 485, 486, 487, 491, 492] (by decide +kernel) (by decide +kernel)
set_option maxRecDepth 20000 in
theorem gL_law_X2_stepsToRest : GoodIn wsL_law (wsV RL 133 RX2 yX2_stepsToRest wsX2_stepsToRest) := goodIn_app (goodIn_of _ (by decide +kernel)) ggL_law_X2_stepsToRest
set_option maxRecDepth 20000 in
theorem ggL_law_X2_canReach : GoodIn wsL_law wsX2_canReach := goodIn_ca (goodIn_r _ [413, 29, 116, 117, 118, 2, 119, 96, 97, 31, 30, 225, 226, 227, 28, 228, 229, 230, 231, 232, 43, 124, 103, 104, 105, 42, 233, 234, 235, 236, 237, 238, 239, 240, 482, 483, 484, 485, 486, 487, 491, 492] (by decide +kernel) (by decide +kernel)) (goodIn_sub (fun _ h => List.mem_append_left _ (List.mem_append_right _ h)) (by decide +kernel))
set_option maxRecDepth 20000 in
theorem gL_law_X2_canReach : GoodIn wsL_law (wsV RL 136 RX2 yX2_canReach wsX2_canReach) := goodIn_app (goodIn_of _ (by decide +kernel)) ggL_law_X2_canReach
set_option maxRecDepth 20000 in
theorem ggL_law_X2_differences : GoodIn wsL_law wsX2_differences := goodIn_ca (goodIn_r _ [417, 29, 116, 117, 118, 2, 119, 96, 97, 31, 30, 385, 386, 387, 28, 388, 43, 124, 103, 104, 105, 42, 482, 483, 484, 485, 486, 487, 491, 492] (by decide +kernel) (by decide +kernel)) (goodIn_sub (fun _ h => List.mem_append_left _ (List.mem_append_right _ h)) (by decide +kernel))
set_option maxRecDepth 20000 in
theorem gL_law_X2_differences : GoodIn wsL_law (wsV RL 139 RX2 yX2_differences wsX2_differences) := goodIn_app (goodIn_of _ (by decide +kernel)) ggL_law_X2_differences
set_option maxRecDepth 20000 in
theorem ggL_law_X2_fewestTips : GoodIn wsL_law wsX2_fewestTips := goodIn_ca (goodIn_r _ [421, 116, 117, 118, 2, 119, 96, 97, 31, 30, 241, 242, 243, 244, 29, 37, 225, 226, 227, 28, 228, 229, 230, 231, 232, 43, 124, 103, 104, 105, 42, 233, 234, 235, 236, 237, 238, 239, 240, 245, 246, 247, 36, 248, 48, 47, 249, 77, 78, 79, 250, 251, 252, 253, 254, 255, 256, 257, 258, 259, 11, 5, 12, 260, 261, 262, 263, 264, 265, 266, 267, 268, 4, 6, 482, 483, 484, 485, 486, 487, 491, 492, 493, 494] (by decide +kernel) (by decide +kernel)) (goodIn_sub (fun _ h => List.mem_append_left _ (List.mem_append_right _ h)) (by decide +kernel))
set_option maxRecDepth 20000 in
theorem gL_law_X2_fewestTips : GoodIn wsL_law (wsV RL 142 RX2 yX2_fewestTips wsX2_fewestTips) := goodIn_app (goodIn_of _ (by decide +kernel)) ggL_law_X2_fewestTips
set_option maxRecDepth 20000 in
theorem ggL_law_X2_nearestTarget : GoodIn wsL_law wsX2_nearestTarget := goodIn_ca (goodIn_r _ [347, 31, 116, 117, 118, 2, 119, 96, 97, 30, 241, 242, 243, 244, 29, 37, 225, 226, 227, 28, 228, 229, 230, 231, 232, 43, 124, 103, 104, 105, 42, 233, 234, 235, 236, 237, 238, 239, 240, 245, 246, 247, 36, 248, 48, 47, 249, 77, 78, 79, 250, 251, 252, 253, 254, 255, 256, 257, 258, 259, 11, 5, 12, 260, 261, 262, 263, 264, 265, 266, 267, 268, 4, 6, 482, 483, 484, 485, 486, 487, 491, 492, 493, 494] (by decide +kernel) (by decide +kernel)) (goodIn_sub (fun _ h => List.mem_append_left _ (List.mem_append_right _ h)) (by decide +kernel))
set_option maxRecDepth 20000 in
theorem gL_law_X2_nearestTarget : GoodIn wsL_law (wsV RL 145 RX2 yX2_nearestTarget wsX2_nearestTarget) := goodIn_app (goodIn_of _ (by decide +kernel)) ggL_law_X2_nearestTarget
set_option maxRecDepth 20000 in
theorem ggL_law_X2_tipsTo : GoodIn wsL_law wsX2_tipsTo := goodIn_ca (goodIn_ca (goodIn_r _ [426, 37, 29, 116, 117, 118, 2, 119, 96, 97, 31, 30, 92, 93, 94, 95, 76, 77, 78, 28, 79, 43, 221, 222, 223, 224, 114, 115, 225, 226, 227, 228, 229, 230, 231, 232, 124, 103, 104, 105, 42, 233, 234, 235, 236, 237, 238, 239, 240, 245, 246, 247, 36, 248, 48, 47, 249, 250, 251, 252, 253, 254, 427, 261, 262, 263, 482, 483, 484, 485, 486, 487, 491, 492, 493, 494] (by decide +kernel) (by decide +kernel)) (goodIn_sub (fun _ h => List.mem_append_left _ (List.mem_append_right _ h)) (by decide +kernel))) (goodIn_sub (fun _ h => List.mem_append_right _ h) (by decide +kernel))
set_option maxRecDepth 20000 in
theorem gL_law_X2_tipsTo : GoodIn wsL_law (wsV RL 150 RX2 yX2_tipsTo wsX2_tipsTo) := goodIn_app (goodIn_of _ (by decide +kernel)) ggL_law_X2_tipsTo
set_option maxRecDepth 20000 in
theorem ggL_law_X3_tipped : GoodIn wsL_law wsX3_tipped := goodIn_r _ [132, 133, 14, 15, 16, 17, 61] (by decide +kernel) (by decide +kernel)
set_option maxRecDepth 20000 in
theorem gL_law_X3_tipped : GoodIn wsL_law (wsV RL 39 RX3 yX3_tipped wsX3_tipped) := goodIn_app (goodIn_of _ (by decide +kernel)) ggL_law_X3_tipped
set_option maxRecDepth 20000 in
theorem ggL_law_X2_numberIn : GoodIn wsL_law wsX2_numberIn := goodIn_ca (goodIn_r _ [431, 116, 117, 118, 2, 119, 96, 97, 31, 30, 92, 93, 94, 95, 29, 76, 77, 78, 28, 79, 43, 102, 103, 104, 105, 42, 482, 483, 484, 485, 486, 487, 491, 492] (by decide +kernel) (by decide +kernel)) (goodIn_sub (fun _ h => List.mem_append_left _ (List.mem_append_right _ h)) (by decide +kernel))
set_option maxRecDepth 20000 in
theorem gL_law_X2_numberIn : GoodIn wsL_law (wsV RL 156 RX2 yX2_numberIn wsX2_numberIn) := goodIn_app (goodIn_of _ (by decide +kernel)) ggL_law_X2_numberIn
set_option maxRecDepth 20000 in
theorem ggL_law_X2_reachable : GoodIn wsL_law wsX2_reachable := goodIn_ca (goodIn_r _ [343, 31, 29, 116, 117, 118, 2, 119, 96, 97, 30, 225, 226, 227, 28, 228, 229, 230, 231, 232, 43, 124, 103, 104, 105, 42, 233, 234, 235, 236, 237, 238, 239, 240, 482, 483, 484, 485, 486, 487, 491, 492] (by decide +kernel) (by decide +kernel)) (goodIn_sub (fun _ h => List.mem_append_left _ (List.mem_append_right _ h)) (by decide +kernel))
set_option maxRecDepth 20000 in
theorem gL_law_X2_reachable : GoodIn wsL_law (wsV RL 159 RX2 yX2_reachable wsX2_reachable) := goodIn_app (goodIn_of _ (by decide +kernel)) ggL_law_X2_reachable
set_option maxRecDepth 20000 in
theorem ggL_law_X2_bestPlace : GoodIn wsL_law wsX2_bestPlace := goodIn_r _ [363, 29, 364, 11, 5, 12, 304, 305, 306, 28, 307, 43, 308, 124, 103, 104, 105, 42, 309, 310, 311, 312, 76, 77, 78, 79, 365, 366, 367, 2, 368, 33, 120, 121, 122, 123, 84, 85, 86, 87, 143, 144, 145, 146, 147, 148, 149, 150, 151, 152, 153, 154, 482, 483, 484, 485, 486, 487, 491, 492] (by decide +kernel) (by decide +kernel)
set_option maxRecDepth 20000 in
theorem gL_law_X2_bestPlace : GoodIn wsL_law (wsV RL 162 RX2 yX2_bestPlace wsX2_bestPlace) := goodIn_app (goodIn_of _ (by decide +kernel)) ggL_law_X2_bestPlace
set_option maxRecDepth 20000 in
theorem ggL_law_L_below : GoodIn wsL_law wsL_below := goodIn_r _ [69, 9] (by decide +kernel) (by decide +kernel)
set_option maxRecDepth 20000 in
theorem gL_law_L_below : GoodIn wsL_law (va_wsS RL 15 yL_below wsL_below) := goodIn_app (goodIn_of _ (by decide +kernel)) ggL_law_L_below
set_option maxRecDepth 20000 in
theorem ggL_law_X2_spreadWith : GoodIn wsL_law wsX2_spreadWith := goodIn_ca (goodIn_ca (goodIn_r _ [437, 92, 93, 94, 2, 95, 96, 97, 29, 76, 77, 78, 28, 79, 43, 139, 140, 141, 142, 74, 75, 365, 366, 367, 368, 33, 120, 121, 122, 123, 42, 124, 103, 104, 105, 84, 85, 86, 87, 143, 144, 145, 146, 147, 148, 149, 150, 151, 152, 153, 154, 304, 305, 306, 307, 308, 11, 5, 12, 309, 310, 311, 312, 482, 483, 484, 485, 486, 487, 491, 492] (by decide +kernel) (by decide +kernel)) (goodIn_sub (fun _ h => List.mem_append_left _ (List.mem_append_right _ h)) (by decide +kernel))) (goodIn_sub (fun _ h => List.mem_append_left _ (List.mem_append_left _ (List.mem_append_right _ h))) (by decide +kernel))
set_option maxRecDepth 20000 in
theorem gL_law_X2_spreadWith : GoodIn wsL_law (wsV RL 165 RX2 yX2_spreadWith wsX2_spreadWith) := goodIn_app (goodIn_of _ (by decide +kernel)) ggL_law_X2_spreadWith
set_option maxRecDepth 20000 in
theorem ggL_law_X2_placeFor : GoodIn wsL_law wsX2_placeFor := goodIn_ca (goodIn_ca (goodIn_r _ [372, 31, 98, 99, 100, 2, 101, 74, 75, 116, 117, 118, 119, 96, 97, 30, 373, 374, 375, 376, 29, 33, 76, 77, 78, 28, 79, 43, 120, 121, 122, 123, 42, 124, 103, 104, 105, 84, 85, 86, 87, 106, 225, 226, 227, 228, 229, 230, 231, 232, 233, 234, 235, 236, 237, 238, 239, 240, 482, 483, 484, 485, 486, 487, 491, 492] (by decide +kernel) (by decide +kernel)) (goodIn_sub (fun _ h => List.mem_append_left _ (List.mem_append_left _ (List.mem_append_right _ h))) (by decide +kernel))) (goodIn_sub (fun _ h => List.mem_append_left _ (List.mem_append_right _ h)) (by decide +kernel))
set_option maxRecDepth 20000 in
theorem gL_law_X2_placeFor : GoodIn wsL_law (wsV RL 168 RX2 yX2_placeFor wsX2_placeFor) := goodIn_app (goodIn_of _ (by decide +kernel)) ggL_law_X2_placeFor
set_option maxRecDepth 20000 in
theorem ggL_law_X3_can : GoodIn wsL_law wsX3_can := goodIn_r _ [201, 62, 202, 203, 55, 204, 205, 206, 207, 488, 489, 490] (by decide +kernel) (by decide +kernel)
set_option maxRecDepth 20000 in
theorem gL_law_X3_can : GoodIn wsL_law (wsV RL 70 RX3 yX3_can wsX3_can) := goodIn_app (goodIn_of _ (by decide +kernel)) ggL_law_X3_can
set_option maxRecDepth 20000 in
theorem ggL_law_X2_sum : GoodIn wsL_law wsX2_sum := goodIn_r _ [293, 29, 294, 230, 231, 28, 232, 43, 124, 103, 104, 105, 42, 482, 483, 484, 485, 486, 487, 491, 492] (by decide +kernel) (by decide +kernel)
set_option maxRecDepth 20000 in
theorem gL_law_X2_sum : GoodIn wsL_law (wsV RL 171 RX2 yX2_sum wsX2_sum) := goodIn_app (goodIn_of _ (by decide +kernel)) ggL_law_X2_sum
set_option maxRecDepth 20000 in
theorem ggL_law_X2_moment : GoodIn wsL_law wsX2_moment := goodIn_r _ [298, 29, 299, 234, 235, 28, 236, 43, 124, 103, 104, 105, 42, 237, 238, 239, 240, 482, 483, 484, 485, 486, 487, 491, 492] (by decide +kernel) (by decide +kernel)
set_option maxRecDepth 20000 in
theorem gL_law_X2_moment : GoodIn wsL_law (wsV RL 174 RX2 yX2_moment wsX2_moment) := goodIn_app (goodIn_of _ (by decide +kernel)) ggL_law_X2_moment
set_option maxRecDepth 20000 in
theorem ggL_law_X2_spreadAtRest : GoodIn wsL_law wsX2_spreadAtRest := goodIn_r _ [359, 33, 352, 353, 354, 2, 355, 29, 120, 121, 122, 28, 123, 43, 42, 124, 103, 104, 105, 84, 85, 86, 87, 167, 168, 169, 170, 171, 172, 173, 174, 175, 176, 177, 178, 151, 152, 153, 154, 179, 144, 145, 146, 147, 148, 149, 150, 327, 304, 305, 306, 307, 308, 11, 5, 12, 309, 310, 311, 312, 482, 483, 484, 485, 486, 487, 491, 492] (by decide +kernel) (by decide +kernel)
set_option maxRecDepth 20000 in
theorem gL_law_X2_spreadAtRest : GoodIn wsL_law (wsV RL 177 RX2 yX2_spreadAtRest wsX2_spreadAtRest) := goodIn_app (goodIn_of _ (by decide +kernel)) ggL_law_X2_spreadAtRest
set_option maxRecDepth 20000 in
theorem ggL_law_X2_settle : GoodIn wsL_law wsX2_settle := goodIn_ca (goodIn_r _ [166, 74, 75, 29, 32, 167, 168, 169, 28, 170, 171, 172, 173, 174, 43, 175, 176, 177, 178, 124, 103, 104, 105, 42, 151, 152, 153, 154, 179, 144, 145, 146, 147, 148, 149, 150, 84, 85, 86, 87, 482, 483, 484, 485, 486, 487, 491, 492] (by decide +kernel) (by decide +kernel)) (goodIn_sub (fun _ h => List.mem_append_left _ (List.mem_append_left _ (List.mem_append_right _ h))) (by decide +kernel))
set_option maxRecDepth 20000 in
theorem gL_law_X2_settle : GoodIn wsL_law (wsV RL 66 RX2 yX2_settle wsX2_settle) := goodIn_app (goodIn_of _ (by decide +kernel)) ggL_law_X2_settle
set_option maxRecDepth 20000 in
theorem ggL_law_X3_settle : GoodIn wsL_law wsX3_settle := goodIn_r _ [183, 60, 184, 185, 186, 187, 55, 188, 189, 190, 191, 192, 193, 194, 195, 196, 197, 130, 131, 132, 133, 14, 15, 16, 17, 61, 488, 489, 490] (by decide +kernel) (by decide +kernel)
set_option maxRecDepth 20000 in
theorem gL_law_X3_settle : GoodIn wsL_law (wsV RL 69 RX3 yX3_settle wsX3_settle) := goodIn_app (goodIn_of _ (by decide +kernel)) ggL_law_X3_settle
set_option maxRecDepth 20000 in
theorem ggL_law_X2_tip : GoodIn wsL_law wsX2_tip := goodIn_ca (goodIn_ca (goodIn_r _ [137, 29, 32, 138, 4, 5, 6, 92, 93, 94, 2, 95, 96, 97, 76, 77, 78, 28, 79, 43, 139, 140, 141, 142, 74, 75, 143, 144, 145, 146, 147, 148, 149, 150, 124, 103, 104, 105, 42, 84, 85, 86, 87, 151, 152, 153, 154, 102, 482, 483, 484, 485, 486, 487, 491, 492] (by decide +kernel) (by decide +kernel)) (goodIn_sub (fun _ h => List.mem_append_left _ (List.mem_append_right _ h)) (by decide +kernel))) (goodIn_sub (fun _ h => List.mem_append_left _ (List.mem_append_left _ (List.mem_append_right _ h))) (by decide +kernel))
set_option maxRecDepth 20000 in
theorem gL_law_X2_tip : GoodIn wsL_law (wsV RL 52 RX2 yX2_tip wsX2_tip) := goodIn_app (goodIn_of _ (by decide +kernel)) ggL_law_X2_tip
set_option maxRecDepth 20000 in
theorem ggL_law_X3_isSame : GoodIn wsL_law wsX3_isSame := goodIn_ca (goodIn_r _ [445, 60, 212, 4, 5, 6, 62, 184, 446, 447, 448, 55, 449, 193, 194, 195, 196, 189, 190, 191, 192, 450, 401, 402, 2, 403, 29, 92, 93, 94, 95, 96, 97, 76, 77, 78, 28, 79, 43, 102, 103, 104, 105, 42, 451, 396, 397, 398, 322, 176, 177, 178, 124, 151, 152, 153, 154, 452, 392, 393, 394, 332, 333, 334, 335, 453, 429, 430, 431, 116, 117, 118, 119, 31, 30, 454, 199, 200, 201, 202, 203, 204, 205, 206, 207, 455, 415, 416, 417, 385, 386, 387, 388, 456, 411, 412, 413, 225, 226, 227, 228, 229, 230, 231, 232, 233, 234, 235, 236, 237, 238, 239, 240, 457, 275, 276, 277, 458, 283, 284, 285, 459, 287, 288, 289, 32, 460, 291, 292, 293, 294, 461, 296, 297, 298, 299, 462, 301, 302, 303, 304, 305, 306, 307, 308, 11, 12, 309, 310, 311, 312, 463, 464, 465, 466, 467, 468, 469, 470, 471, 472, 314, 315, 316, 317, 473, 319, 320, 321, 474, 324, 325, 326, 327, 172, 173, 174, 175, 185, 186, 187, 188, 475, 329, 330, 331, 476, 337, 338, 339, 138, 477, 341, 342, 343, 478, 479, 480, 481, 488, 489, 490, 482, 483, 484, 485, 486, 487, 491, 492] (by decide +kernel) (by decide +kernel)) (goodIn_sub (fun _ h => List.mem_append_left _ (List.mem_append_right _ h)) (by decide +kernel))
set_option maxRecDepth 20000 in
theorem gL_law_X3_isSame : GoodIn wsL_law (wsV RL 180 RX3 yX3_isSame wsX3_isSame) := goodIn_app (goodIn_of _ (by decide +kernel)) ggL_law_X3_isSame
theorem dL_law_0 : decode cL_law 0 = .ok (.new 27, 3) := by decide +kernel
theorem dL_law_3 : decode cL_law 3 = .ok (.dup, 1) := by decide +kernel
theorem dL_law_4 : decode cL_law 4 = .ok (.invokespecial 91, 3) := by decide +kernel
theorem dL_law_7 : decode cL_law 7 = .ok (.astore_n 1, 1) := by decide +kernel
theorem dL_law_8 : decode cL_law 8 = .ok (.aload_n 1, 1) := by decide +kernel
theorem dL_law_9 : decode cL_law 9 = .ok (.aload_n 0, 1) := by decide +kernel
theorem dL_law_10 : decode cL_law 10 = .ok (.invokestatic 92, 3) := by decide +kernel
theorem dL_law_13 : decode cL_law 13 = .ok (.astore_n 2, 1) := by decide +kernel
theorem dL_law_14 : decode cL_law 14 = .ok (.aload_n 2, 1) := by decide +kernel
theorem dL_law_15 : decode cL_law 15 = .ok (.ifnonnull 5, 3) := by decide +kernel
theorem dL_law_18 : decode cL_law 18 = .ok (.iconst 0, 1) := by decide +kernel
theorem dL_law_19 : decode cL_law 19 = .ok (.ireturn, 1) := by decide +kernel
theorem dL_law_20 : decode cL_law 20 = .ok (.iconst 0, 1) := by decide +kernel
theorem dL_law_21 : decode cL_law 21 = .ok (.istore_n 3, 1) := by decide +kernel
theorem dL_law_22 : decode cL_law 22 = .ok (.iload_n 3, 1) := by decide +kernel
theorem dL_law_23 : decode cL_law 23 = .ok (.bipush 7, 2) := by decide +kernel
theorem dL_law_25 : decode cL_law 25 = .ok (.if_icmp .ge 1200, 3) := by decide +kernel
theorem dL_law_28 : decode cL_law 28 = .ok (.aload_n 0, 1) := by decide +kernel
theorem dL_law_29 : decode cL_law 29 = .ok (.iload_n 3, 1) := by decide +kernel
theorem dL_law_30 : decode cL_law 30 = .ok (.iconst 1, 1) := by decide +kernel
theorem dL_law_31 : decode cL_law 31 = .ok (.iadd, 1) := by decide +kernel
theorem dL_law_32 : decode cL_law 32 = .ok (.invokestatic 83, 3) := by decide +kernel
theorem dL_law_35 : decode cL_law 35 = .ok (.iconst 2, 1) := by decide +kernel
theorem dL_law_36 : decode cL_law 36 = .ok (.ishr, 1) := by decide +kernel
theorem dL_law_37 : decode cL_law 37 = .ok (.bipush 53, 2) := by decide +kernel
theorem dL_law_39 : decode cL_law 39 = .ok (.iload_n 3, 1) := by decide +kernel
theorem dL_law_40 : decode cL_law 40 = .ok (.imul, 1) := by decide +kernel
theorem dL_law_41 : decode cL_law 41 = .ok (.iadd, 1) := by decide +kernel
theorem dL_law_42 : decode cL_law 42 = .ok (.istore 4, 2) := by decide +kernel
theorem dL_law_44 : decode cL_law 44 = .ok (.iconst 0, 1) := by decide +kernel
theorem dL_law_45 : decode cL_law 45 = .ok (.istore 5, 2) := by decide +kernel
theorem dL_law_47 : decode cL_law 47 = .ok (.iload 5, 2) := by decide +kernel
theorem dL_law_49 : decode cL_law 49 = .ok (.iconst 3, 1) := by decide +kernel
theorem dL_law_50 : decode cL_law 50 = .ok (.if_icmp .ge 32, 3) := by decide +kernel
theorem dL_law_53 : decode cL_law 53 = .ok (.aload_n 1, 1) := by decide +kernel
theorem dL_law_54 : decode cL_law 54 = .ok (.aload_n 2, 1) := by decide +kernel
theorem dL_law_55 : decode cL_law 55 = .ok (.iload 4, 2) := by decide +kernel
theorem dL_law_57 : decode cL_law 57 = .ok (.iconst 3, 1) := by decide +kernel
theorem dL_law_58 : decode cL_law 58 = .ok (.iload 5, 2) := by decide +kernel
theorem dL_law_60 : decode cL_law 60 = .ok (.imul, 1) := by decide +kernel
theorem dL_law_61 : decode cL_law 61 = .ok (.ishr, 1) := by decide +kernel
theorem dL_law_62 : decode cL_law 62 = .ok (.bipush 29, 2) := by decide +kernel
theorem dL_law_64 : decode cL_law 64 = .ok (.iload 5, 2) := by decide +kernel
theorem dL_law_66 : decode cL_law 66 = .ok (.imul, 1) := by decide +kernel
theorem dL_law_67 : decode cL_law 67 = .ok (.iadd, 1) := by decide +kernel
theorem dL_law_68 : decode cL_law 68 = .ok (.invokestatic 87, 3) := by decide +kernel
theorem dL_law_71 : decode cL_law 71 = .ok (.ifCond .ne 5, 3) := by decide +kernel
theorem dL_law_74 : decode cL_law 74 = .ok (.iconst 0, 1) := by decide +kernel
theorem dL_law_75 : decode cL_law 75 = .ok (.ireturn, 1) := by decide +kernel
theorem dL_law_76 : decode cL_law 76 = .ok (.iinc 5 1, 3) := by decide +kernel
theorem dL_law_79 : decode cL_law 79 = .ok (.goto (-32), 3) := by decide +kernel
theorem dL_law_82 : decode cL_law 82 = .ok (.aload_n 1, 1) := by decide +kernel
theorem dL_law_83 : decode cL_law 83 = .ok (.invokevirtual 96, 3) := by decide +kernel
theorem dL_law_86 : decode cL_law 86 = .ok (.lstore 5, 2) := by decide +kernel
theorem dL_law_88 : decode cL_law 88 = .ok (.aload_n 1, 1) := by decide +kernel
theorem dL_law_89 : decode cL_law 89 = .ok (.invokevirtual 100, 3) := by decide +kernel
theorem dL_law_92 : decode cL_law 92 = .ok (.istore 7, 2) := by decide +kernel
theorem dL_law_94 : decode cL_law 94 = .ok (.aload_n 1, 1) := by decide +kernel
theorem dL_law_95 : decode cL_law 95 = .ok (.invokevirtual 103, 3) := by decide +kernel
theorem dL_law_98 : decode cL_law 98 = .ok (.istore 8, 2) := by decide +kernel
theorem dL_law_100 : decode cL_law 100 = .ok (.iconst 0, 1) := by decide +kernel
theorem dL_law_101 : decode cL_law 101 = .ok (.istore 9, 2) := by decide +kernel
theorem dL_law_103 : decode cL_law 103 = .ok (.iconst 0, 1) := by decide +kernel
theorem dL_law_104 : decode cL_law 104 = .ok (.istore 10, 2) := by decide +kernel
theorem dL_law_106 : decode cL_law 106 = .ok (.iconst 0, 1) := by decide +kernel
theorem dL_law_107 : decode cL_law 107 = .ok (.istore 11, 2) := by decide +kernel
theorem dL_law_109 : decode cL_law 109 = .ok (.iconst 0, 1) := by decide +kernel
theorem dL_law_110 : decode cL_law 110 = .ok (.istore 12, 2) := by decide +kernel
theorem dL_law_112 : decode cL_law 112 = .ok (.iload 12, 2) := by decide +kernel
theorem dL_law_114 : decode cL_law 114 = .ok (.iload 7, 2) := by decide +kernel
theorem dL_law_116 : decode cL_law 116 = .ok (.if_icmp .ge 140, 3) := by decide +kernel
theorem dL_law_119 : decode cL_law 119 = .ok (.iload 9, 2) := by decide +kernel
theorem dL_law_121 : decode cL_law 121 = .ok (.aload_n 1, 1) := by decide +kernel
theorem dL_law_122 : decode cL_law 122 = .ok (.iload 12, 2) := by decide +kernel
theorem dL_law_124 : decode cL_law 124 = .ok (.invokevirtual 105, 3) := by decide +kernel
theorem dL_law_127 : decode cL_law 127 = .ok (.iadd, 1) := by decide +kernel
theorem dL_law_128 : decode cL_law 128 = .ok (.istore 9, 2) := by decide +kernel
theorem dL_law_130 : decode cL_law 130 = .ok (.iload 10, 2) := by decide +kernel
theorem dL_law_132 : decode cL_law 132 = .ok (.aload_n 1, 1) := by decide +kernel
theorem dL_law_133 : decode cL_law 133 = .ok (.iload 12, 2) := by decide +kernel
theorem dL_law_135 : decode cL_law 135 = .ok (.invokevirtual 105, 3) := by decide +kernel
theorem dL_law_138 : decode cL_law 138 = .ok (.ifCond .ne 7, 3) := by decide +kernel
theorem dL_law_141 : decode cL_law 141 = .ok (.iconst 1, 1) := by decide +kernel
theorem dL_law_142 : decode cL_law 142 = .ok (.goto 4, 3) := by decide +kernel
theorem dL_law_145 : decode cL_law 145 = .ok (.iconst 0, 1) := by decide +kernel
theorem dL_law_146 : decode cL_law 146 = .ok (.iadd, 1) := by decide +kernel
theorem dL_law_147 : decode cL_law 147 = .ok (.istore 10, 2) := by decide +kernel
theorem dL_law_149 : decode cL_law 149 = .ok (.iload 11, 2) := by decide +kernel
theorem dL_law_151 : decode cL_law 151 = .ok (.aload_n 1, 1) := by decide +kernel
theorem dL_law_152 : decode cL_law 152 = .ok (.iload 12, 2) := by decide +kernel
theorem dL_law_154 : decode cL_law 154 = .ok (.invokevirtual 108, 3) := by decide +kernel
theorem dL_law_157 : decode cL_law 157 = .ok (.ifCond .eq 7, 3) := by decide +kernel
theorem dL_law_160 : decode cL_law 160 = .ok (.iconst 1, 1) := by decide +kernel
theorem dL_law_161 : decode cL_law 161 = .ok (.goto 4, 3) := by decide +kernel
theorem dL_law_164 : decode cL_law 164 = .ok (.iconst 0, 1) := by decide +kernel
theorem dL_law_165 : decode cL_law 165 = .ok (.iadd, 1) := by decide +kernel
theorem dL_law_166 : decode cL_law 166 = .ok (.istore 11, 2) := by decide +kernel
theorem dL_law_168 : decode cL_law 168 = .ok (.aload_n 1, 1) := by decide +kernel
theorem dL_law_169 : decode cL_law 169 = .ok (.iload 12, 2) := by decide +kernel
theorem dL_law_171 : decode cL_law 171 = .ok (.invokevirtual 105, 3) := by decide +kernel
theorem dL_law_174 : decode cL_law 174 = .ok (.invokestatic 47, 3) := by decide +kernel
theorem dL_law_177 : decode cL_law 177 = .ok (.aload_n 1, 1) := by decide +kernel
theorem dL_law_178 : decode cL_law 178 = .ok (.aload_n 1, 1) := by decide +kernel
theorem dL_law_179 : decode cL_law 179 = .ok (.invokevirtual 112, 3) := by decide +kernel
theorem dL_law_182 : decode cL_law 182 = .ok (.invokevirtual 105, 3) := by decide +kernel
theorem dL_law_185 : decode cL_law 185 = .ok (.invokestatic 47, 3) := by decide +kernel
theorem dL_law_188 : decode cL_law 188 = .ok (.if_icmp .lt 60, 3) := by decide +kernel
theorem dL_law_191 : decode cL_law 191 = .ok (.aload_n 1, 1) := by decide +kernel
theorem dL_law_192 : decode cL_law 192 = .ok (.iload 12, 2) := by decide +kernel
theorem dL_law_194 : decode cL_law 194 = .ok (.invokevirtual 115, 3) := by decide +kernel
theorem dL_law_197 : decode cL_law 197 = .ok (.aload_n 1, 1) := by decide +kernel
theorem dL_law_198 : decode cL_law 198 = .ok (.aload_n 1, 1) := by decide +kernel
theorem dL_law_199 : decode cL_law 199 = .ok (.invokevirtual 118, 3) := by decide +kernel
theorem dL_law_202 : decode cL_law 202 = .ok (.invokevirtual 115, 3) := by decide +kernel
theorem dL_law_205 : decode cL_law 205 = .ok (.if_icmp .gt 43, 3) := by decide +kernel
theorem dL_law_208 : decode cL_law 208 = .ok (.aload_n 1, 1) := by decide +kernel
theorem dL_law_209 : decode cL_law 209 = .ok (.iload 12, 2) := by decide +kernel
theorem dL_law_211 : decode cL_law 211 = .ok (.invokevirtual 115, 3) := by decide +kernel
theorem dL_law_214 : decode cL_law 214 = .ok (.aload_n 1, 1) := by decide +kernel
theorem dL_law_215 : decode cL_law 215 = .ok (.aload_n 1, 1) := by decide +kernel
theorem dL_law_216 : decode cL_law 216 = .ok (.invokevirtual 118, 3) := by decide +kernel
theorem dL_law_219 : decode cL_law 219 = .ok (.invokevirtual 115, 3) := by decide +kernel
theorem dL_law_222 : decode cL_law 222 = .ok (.aload_n 1, 1) := by decide +kernel
theorem dL_law_223 : decode cL_law 223 = .ok (.invokevirtual 121, 3) := by decide +kernel
theorem dL_law_226 : decode cL_law 226 = .ok (.isub, 1) := by decide +kernel
theorem dL_law_227 : decode cL_law 227 = .ok (.if_icmp .lt 21, 3) := by decide +kernel
theorem dL_law_230 : decode cL_law 230 = .ok (.aload_n 1, 1) := by decide +kernel
theorem dL_law_231 : decode cL_law 231 = .ok (.iload 12, 2) := by decide +kernel
theorem dL_law_233 : decode cL_law 233 = .ok (.invokevirtual 108, 3) := by decide +kernel
theorem dL_law_236 : decode cL_law 236 = .ok (.ifCond .eq 14, 3) := by decide +kernel
theorem dL_law_239 : decode cL_law 239 = .ok (.iload 12, 2) := by decide +kernel
theorem dL_law_241 : decode cL_law 241 = .ok (.aload_n 1, 1) := by decide +kernel
theorem dL_law_242 : decode cL_law 242 = .ok (.invokevirtual 124, 3) := by decide +kernel
theorem dL_law_245 : decode cL_law 245 = .ok (.if_icmp .ge 5, 3) := by decide +kernel
theorem dL_law_248 : decode cL_law 248 = .ok (.iconst 0, 1) := by decide +kernel
theorem dL_law_249 : decode cL_law 249 = .ok (.ireturn, 1) := by decide +kernel
theorem dL_law_250 : decode cL_law 250 = .ok (.iinc 12 1, 3) := by decide +kernel
theorem dL_law_253 : decode cL_law 253 = .ok (.goto (-141), 3) := by decide +kernel
theorem dL_law_256 : decode cL_law 256 = .ok (.iload 9, 2) := by decide +kernel
theorem dL_law_258 : decode cL_law 258 = .ok (.ifCond .ne 87, 3) := by decide +kernel
theorem dL_law_261 : decode cL_law 261 = .ok (.iload 10, 2) := by decide +kernel
theorem dL_law_263 : decode cL_law 263 = .ok (.aload_n 1, 1) := by decide +kernel
theorem dL_law_264 : decode cL_law 264 = .ok (.invokevirtual 127, 3) := by decide +kernel
theorem dL_law_267 : decode cL_law 267 = .ok (.if_icmp .ne 78, 3) := by decide +kernel
theorem dL_law_270 : decode cL_law 270 = .ok (.iload 11, 2) := by decide +kernel
theorem dL_law_272 : decode cL_law 272 = .ok (.aload_n 1, 1) := by decide +kernel
theorem dL_law_273 : decode cL_law 273 = .ok (.invokevirtual 130, 3) := by decide +kernel
theorem dL_law_276 : decode cL_law 276 = .ok (.if_icmp .ne 69, 3) := by decide +kernel
theorem dL_law_279 : decode cL_law 279 = .ok (.iload 11, 2) := by decide +kernel
theorem dL_law_281 : decode cL_law 281 = .ok (.ifCond .ne 7, 3) := by decide +kernel
theorem dL_law_284 : decode cL_law 284 = .ok (.iconst 1, 1) := by decide +kernel
theorem dL_law_285 : decode cL_law 285 = .ok (.goto 4, 3) := by decide +kernel
theorem dL_law_288 : decode cL_law 288 = .ok (.iconst 0, 1) := by decide +kernel
theorem dL_law_289 : decode cL_law 289 = .ok (.aload_n 1, 1) := by decide +kernel
theorem dL_law_290 : decode cL_law 290 = .ok (.invokevirtual 124, 3) := by decide +kernel
theorem dL_law_293 : decode cL_law 293 = .ok (.ifCond .ge 7, 3) := by decide +kernel
theorem dL_law_296 : decode cL_law 296 = .ok (.iconst 1, 1) := by decide +kernel
theorem dL_law_297 : decode cL_law 297 = .ok (.goto 4, 3) := by decide +kernel
theorem dL_law_300 : decode cL_law 300 = .ok (.iconst 0, 1) := by decide +kernel
theorem dL_law_301 : decode cL_law 301 = .ok (.if_icmp .ne 44, 3) := by decide +kernel
theorem dL_law_304 : decode cL_law 304 = .ok (.iload 11, 2) := by decide +kernel
theorem dL_law_306 : decode cL_law 306 = .ok (.ifCond .le 14, 3) := by decide +kernel
theorem dL_law_309 : decode cL_law 309 = .ok (.aload_n 1, 1) := by decide +kernel
theorem dL_law_310 : decode cL_law 310 = .ok (.aload_n 1, 1) := by decide +kernel
theorem dL_law_311 : decode cL_law 311 = .ok (.invokevirtual 124, 3) := by decide +kernel
theorem dL_law_314 : decode cL_law 314 = .ok (.invokevirtual 108, 3) := by decide +kernel
theorem dL_law_317 : decode cL_law 317 = .ok (.ifCond .eq 28, 3) := by decide +kernel
theorem dL_law_320 : decode cL_law 320 = .ok (.aload_n 1, 1) := by decide +kernel
theorem dL_law_321 : decode cL_law 321 = .ok (.invokevirtual 133, 3) := by decide +kernel
theorem dL_law_324 : decode cL_law 324 = .ok (.ifCond .ne 7, 3) := by decide +kernel
theorem dL_law_327 : decode cL_law 327 = .ok (.iconst 1, 1) := by decide +kernel
theorem dL_law_328 : decode cL_law 328 = .ok (.goto 4, 3) := by decide +kernel
theorem dL_law_331 : decode cL_law 331 = .ok (.iconst 0, 1) := by decide +kernel
theorem dL_law_332 : decode cL_law 332 = .ok (.iload 11, 2) := by decide +kernel
theorem dL_law_334 : decode cL_law 334 = .ok (.ifCond .ne 7, 3) := by decide +kernel
theorem dL_law_337 : decode cL_law 337 = .ok (.iconst 1, 1) := by decide +kernel
theorem dL_law_338 : decode cL_law 338 = .ok (.goto 4, 3) := by decide +kernel
theorem dL_law_341 : decode cL_law 341 = .ok (.iconst 0, 1) := by decide +kernel
theorem dL_law_342 : decode cL_law 342 = .ok (.if_icmp .eq 5, 3) := by decide +kernel
theorem dL_law_345 : decode cL_law 345 = .ok (.iconst 0, 1) := by decide +kernel
theorem dL_law_346 : decode cL_law 346 = .ok (.ireturn, 1) := by decide +kernel
theorem dL_law_347 : decode cL_law 347 = .ok (.iload 8, 2) := by decide +kernel
theorem dL_law_349 : decode cL_law 349 = .ok (.newarray .boolean, 2) := by decide +kernel
theorem dL_law_351 : decode cL_law 351 = .ok (.astore 12, 2) := by decide +kernel
theorem dL_law_353 : decode cL_law 353 = .ok (.iconst 0, 1) := by decide +kernel
theorem dL_law_354 : decode cL_law 354 = .ok (.istore 13, 2) := by decide +kernel
theorem dL_law_356 : decode cL_law 356 = .ok (.iconst 0, 1) := by decide +kernel
theorem dL_law_357 : decode cL_law 357 = .ok (.istore 14, 2) := by decide +kernel
theorem dL_law_359 : decode cL_law 359 = .ok (.iload 14, 2) := by decide +kernel
theorem dL_law_361 : decode cL_law 361 = .ok (.iload 8, 2) := by decide +kernel
theorem dL_law_363 : decode cL_law 363 = .ok (.if_icmp .ge 331, 3) := by decide +kernel
theorem dL_law_366 : decode cL_law 366 = .ok (.aload 12, 2) := by decide +kernel
theorem dL_law_368 : decode cL_law 368 = .ok (.iload 14, 2) := by decide +kernel
theorem dL_law_370 : decode cL_law 370 = .ok (.aload_n 1, 1) := by decide +kernel
theorem dL_law_371 : decode cL_law 371 = .ok (.iload 14, 2) := by decide +kernel
theorem dL_law_373 : decode cL_law 373 = .ok (.invokevirtual 136, 3) := by decide +kernel
theorem dL_law_376 : decode cL_law 376 = .ok (.bastore, 1) := by decide +kernel
theorem dL_law_377 : decode cL_law 377 = .ok (.aload_n 1, 1) := by decide +kernel
theorem dL_law_378 : decode cL_law 378 = .ok (.iload 14, 2) := by decide +kernel
theorem dL_law_380 : decode cL_law 380 = .ok (.invokevirtual 139, 3) := by decide +kernel
theorem dL_law_383 : decode cL_law 383 = .ok (.ifCond .lt 85, 3) := by decide +kernel
theorem dL_law_386 : decode cL_law 386 = .ok (.aload_n 1, 1) := by decide +kernel
theorem dL_law_387 : decode cL_law 387 = .ok (.iload 14, 2) := by decide +kernel
theorem dL_law_389 : decode cL_law 389 = .ok (.invokevirtual 139, 3) := by decide +kernel
theorem dL_law_392 : decode cL_law 392 = .ok (.iload 7, 2) := by decide +kernel
theorem dL_law_394 : decode cL_law 394 = .ok (.if_icmp .gt 74, 3) := by decide +kernel
theorem dL_law_397 : decode cL_law 397 = .ok (.aload_n 1, 1) := by decide +kernel
theorem dL_law_398 : decode cL_law 398 = .ok (.iload 14, 2) := by decide +kernel
theorem dL_law_400 : decode cL_law 400 = .ok (.invokevirtual 139, 3) := by decide +kernel
theorem dL_law_403 : decode cL_law 403 = .ok (.iconst 1, 1) := by decide +kernel
theorem dL_law_404 : decode cL_law 404 = .ok (.if_icmp .ne 11, 3) := by decide +kernel
theorem dL_law_407 : decode cL_law 407 = .ok (.aload 12, 2) := by decide +kernel
theorem dL_law_409 : decode cL_law 409 = .ok (.iload 14, 2) := by decide +kernel
theorem dL_law_411 : decode cL_law 411 = .ok (.baload, 1) := by decide +kernel
theorem dL_law_412 : decode cL_law 412 = .ok (.ifCond .ne 56, 3) := by decide +kernel
theorem dL_law_415 : decode cL_law 415 = .ok (.aload_n 1, 1) := by decide +kernel
theorem dL_law_416 : decode cL_law 416 = .ok (.iload 14, 2) := by decide +kernel
theorem dL_law_418 : decode cL_law 418 = .ok (.invokevirtual 142, 3) := by decide +kernel
theorem dL_law_421 : decode cL_law 421 = .ok (.ifCond .lt 7, 3) := by decide +kernel
theorem dL_law_424 : decode cL_law 424 = .ok (.iconst 1, 1) := by decide +kernel
theorem dL_law_425 : decode cL_law 425 = .ok (.goto 4, 3) := by decide +kernel
theorem dL_law_428 : decode cL_law 428 = .ok (.iconst 0, 1) := by decide +kernel
theorem dL_law_429 : decode cL_law 429 = .ok (.aload 12, 2) := by decide +kernel
theorem dL_law_431 : decode cL_law 431 = .ok (.iload 14, 2) := by decide +kernel
theorem dL_law_433 : decode cL_law 433 = .ok (.baload, 1) := by decide +kernel
theorem dL_law_434 : decode cL_law 434 = .ok (.if_icmp .ne 34, 3) := by decide +kernel
theorem dL_law_437 : decode cL_law 437 = .ok (.aload_n 1, 1) := by decide +kernel
theorem dL_law_438 : decode cL_law 438 = .ok (.iload 14, 2) := by decide +kernel
theorem dL_law_440 : decode cL_law 440 = .ok (.invokevirtual 142, 3) := by decide +kernel
theorem dL_law_443 : decode cL_law 443 = .ok (.ifCond .ne 7, 3) := by decide +kernel
theorem dL_law_446 : decode cL_law 446 = .ok (.iconst 1, 1) := by decide +kernel
theorem dL_law_447 : decode cL_law 447 = .ok (.goto 4, 3) := by decide +kernel
theorem dL_law_450 : decode cL_law 450 = .ok (.iconst 0, 1) := by decide +kernel
theorem dL_law_451 : decode cL_law 451 = .ok (.aload_n 1, 1) := by decide +kernel
theorem dL_law_452 : decode cL_law 452 = .ok (.iload 14, 2) := by decide +kernel
theorem dL_law_454 : decode cL_law 454 = .ok (.invokevirtual 139, 3) := by decide +kernel
theorem dL_law_457 : decode cL_law 457 = .ok (.ifCond .ne 7, 3) := by decide +kernel
theorem dL_law_460 : decode cL_law 460 = .ok (.iconst 1, 1) := by decide +kernel
theorem dL_law_461 : decode cL_law 461 = .ok (.goto 4, 3) := by decide +kernel
theorem dL_law_464 : decode cL_law 464 = .ok (.iconst 0, 1) := by decide +kernel
theorem dL_law_465 : decode cL_law 465 = .ok (.if_icmp .eq 5, 3) := by decide +kernel
theorem dL_law_468 : decode cL_law 468 = .ok (.iconst 0, 1) := by decide +kernel
theorem dL_law_469 : decode cL_law 469 = .ok (.ireturn, 1) := by decide +kernel
theorem dL_law_470 : decode cL_law 470 = .ok (.aload 12, 2) := by decide +kernel
theorem dL_law_472 : decode cL_law 472 = .ok (.iload 14, 2) := by decide +kernel
theorem dL_law_474 : decode cL_law 474 = .ok (.baload, 1) := by decide +kernel
theorem dL_law_475 : decode cL_law 475 = .ok (.ifCond .ne 6, 3) := by decide +kernel
theorem dL_law_478 : decode cL_law 478 = .ok (.goto 210, 3) := by decide +kernel
theorem dL_law_481 : decode cL_law 481 = .ok (.iinc 13 1, 3) := by decide +kernel
theorem dL_law_484 : decode cL_law 484 = .ok (.aload_n 1, 1) := by decide +kernel
theorem dL_law_485 : decode cL_law 485 = .ok (.invokevirtual 145, 3) := by decide +kernel
theorem dL_law_488 : decode cL_law 488 = .ok (.istore 15, 2) := by decide +kernel
theorem dL_law_490 : decode cL_law 490 = .ok (.iload 15, 2) := by decide +kernel
theorem dL_law_492 : decode cL_law 492 = .ok (.ifCond .lt 40, 3) := by decide +kernel
theorem dL_law_495 : decode cL_law 495 = .ok (.aload_n 1, 1) := by decide +kernel
theorem dL_law_496 : decode cL_law 496 = .ok (.iload 15, 2) := by decide +kernel
theorem dL_law_498 : decode cL_law 498 = .ok (.invokevirtual 142, 3) := by decide +kernel
theorem dL_law_501 : decode cL_law 501 = .ok (.aload_n 1, 1) := by decide +kernel
theorem dL_law_502 : decode cL_law 502 = .ok (.iload 14, 2) := by decide +kernel
theorem dL_law_504 : decode cL_law 504 = .ok (.invokevirtual 142, 3) := by decide +kernel
theorem dL_law_507 : decode cL_law 507 = .ok (.if_icmp .gt 25, 3) := by decide +kernel
theorem dL_law_510 : decode cL_law 510 = .ok (.aload_n 1, 1) := by decide +kernel
theorem dL_law_511 : decode cL_law 511 = .ok (.iload 15, 2) := by decide +kernel
theorem dL_law_513 : decode cL_law 513 = .ok (.invokevirtual 142, 3) := by decide +kernel
theorem dL_law_516 : decode cL_law 516 = .ok (.aload_n 1, 1) := by decide +kernel
theorem dL_law_517 : decode cL_law 517 = .ok (.iload 14, 2) := by decide +kernel
theorem dL_law_519 : decode cL_law 519 = .ok (.invokevirtual 142, 3) := by decide +kernel
theorem dL_law_522 : decode cL_law 522 = .ok (.if_icmp .ne 12, 3) := by decide +kernel
theorem dL_law_525 : decode cL_law 525 = .ok (.iload 14, 2) := by decide +kernel
theorem dL_law_527 : decode cL_law 527 = .ok (.iload 15, 2) := by decide +kernel
theorem dL_law_529 : decode cL_law 529 = .ok (.if_icmp .ge 5, 3) := by decide +kernel
theorem dL_law_532 : decode cL_law 532 = .ok (.iconst 0, 1) := by decide +kernel
theorem dL_law_533 : decode cL_law 533 = .ok (.ireturn, 1) := by decide +kernel
theorem dL_law_534 : decode cL_law 534 = .ok (.aload_n 2, 1) := by decide +kernel
theorem dL_law_535 : decode cL_law 535 = .ok (.getfield 9, 3) := by decide +kernel
theorem dL_law_538 : decode cL_law 538 = .ok (.astore 16, 2) := by decide +kernel
theorem dL_law_540 : decode cL_law 540 = .ok (.ldc 7, 2) := by decide +kernel
theorem dL_law_542 : decode cL_law 542 = .ok (.istore 17, 2) := by decide +kernel
theorem dL_law_544 : decode cL_law 544 = .ok (.iconst 0, 1) := by decide +kernel
theorem dL_law_545 : decode cL_law 545 = .ok (.istore 18, 2) := by decide +kernel
theorem dL_law_547 : decode cL_law 547 = .ok (.iload 18, 2) := by decide +kernel
theorem dL_law_549 : decode cL_law 549 = .ok (.iload 7, 2) := by decide +kernel
theorem dL_law_551 : decode cL_law 551 = .ok (.if_icmp .ge 80, 3) := by decide +kernel
theorem dL_law_554 : decode cL_law 554 = .ok (.aload_n 2, 1) := by decide +kernel
theorem dL_law_555 : decode cL_law 555 = .ok (.aload 16, 2) := by decide +kernel
theorem dL_law_557 : decode cL_law 557 = .ok (.iload 18, 2) := by decide +kernel
theorem dL_law_559 : decode cL_law 559 = .ok (.aload_n 1, 1) := by decide +kernel
theorem dL_law_560 : decode cL_law 560 = .ok (.iload 14, 2) := by decide +kernel
theorem dL_law_562 : decode cL_law 562 = .ok (.iload 18, 2) := by decide +kernel
theorem dL_law_564 : decode cL_law 564 = .ok (.invokevirtual 150, 3) := by decide +kernel
theorem dL_law_567 : decode cL_law 567 = .ok (.invokevirtual 39, 3) := by decide +kernel
theorem dL_law_570 : decode cL_law 570 = .ok (.astore 16, 2) := by decide +kernel
theorem dL_law_572 : decode cL_law 572 = .ok (.iconst 0, 1) := by decide +kernel
theorem dL_law_573 : decode cL_law 573 = .ok (.istore 19, 2) := by decide +kernel
theorem dL_law_575 : decode cL_law 575 = .ok (.iconst 0, 1) := by decide +kernel
theorem dL_law_576 : decode cL_law 576 = .ok (.istore 20, 2) := by decide +kernel
theorem dL_law_578 : decode cL_law 578 = .ok (.iload 20, 2) := by decide +kernel
theorem dL_law_580 : decode cL_law 580 = .ok (.iload 7, 2) := by decide +kernel
theorem dL_law_582 : decode cL_law 582 = .ok (.if_icmp .ge 34, 3) := by decide +kernel
theorem dL_law_585 : decode cL_law 585 = .ok (.iload 19, 2) := by decide +kernel
theorem dL_law_587 : decode cL_law 587 = .ok (.aload_n 1, 1) := by decide +kernel
theorem dL_law_588 : decode cL_law 588 = .ok (.iload 14, 2) := by decide +kernel
theorem dL_law_590 : decode cL_law 590 = .ok (.iload 20, 2) := by decide +kernel
theorem dL_law_592 : decode cL_law 592 = .ok (.invokevirtual 150, 3) := by decide +kernel
theorem dL_law_595 : decode cL_law 595 = .ok (.aload_n 1, 1) := by decide +kernel
theorem dL_law_596 : decode cL_law 596 = .ok (.iload 14, 2) := by decide +kernel
theorem dL_law_598 : decode cL_law 598 = .ok (.iload 18, 2) := by decide +kernel
theorem dL_law_600 : decode cL_law 600 = .ok (.invokevirtual 150, 3) := by decide +kernel
theorem dL_law_603 : decode cL_law 603 = .ok (.isub, 1) := by decide +kernel
theorem dL_law_604 : decode cL_law 604 = .ok (.invokestatic 47, 3) := by decide +kernel
theorem dL_law_607 : decode cL_law 607 = .ok (.iadd, 1) := by decide +kernel
theorem dL_law_608 : decode cL_law 608 = .ok (.istore 19, 2) := by decide +kernel
theorem dL_law_610 : decode cL_law 610 = .ok (.iinc 20 1, 3) := by decide +kernel
theorem dL_law_613 : decode cL_law 613 = .ok (.goto (-35), 3) := by decide +kernel
theorem dL_law_616 : decode cL_law 616 = .ok (.iload 17, 2) := by decide +kernel
theorem dL_law_618 : decode cL_law 618 = .ok (.iload 19, 2) := by decide +kernel
theorem dL_law_620 : decode cL_law 620 = .ok (.invokestatic 153, 3) := by decide +kernel
theorem dL_law_623 : decode cL_law 623 = .ok (.istore 17, 2) := by decide +kernel
theorem dL_law_625 : decode cL_law 625 = .ok (.iinc 18 1, 3) := by decide +kernel
theorem dL_law_628 : decode cL_law 628 = .ok (.goto (-81), 3) := by decide +kernel
theorem dL_law_631 : decode cL_law 631 = .ok (.aload_n 1, 1) := by decide +kernel
theorem dL_law_632 : decode cL_law 632 = .ok (.iload 14, 2) := by decide +kernel
theorem dL_law_634 : decode cL_law 634 = .ok (.iconst 0, 1) := by decide +kernel
theorem dL_law_635 : decode cL_law 635 = .ok (.invokevirtual 150, 3) := by decide +kernel
theorem dL_law_638 : decode cL_law 638 = .ok (.ifCond .ne 14, 3) := by decide +kernel
theorem dL_law_641 : decode cL_law 641 = .ok (.aload_n 1, 1) := by decide +kernel
theorem dL_law_642 : decode cL_law 642 = .ok (.iload 14, 2) := by decide +kernel
theorem dL_law_644 : decode cL_law 644 = .ok (.invokevirtual 142, 3) := by decide +kernel
theorem dL_law_647 : decode cL_law 647 = .ok (.iload 17, 2) := by decide +kernel
theorem dL_law_649 : decode cL_law 649 = .ok (.if_icmp .eq 5, 3) := by decide +kernel
theorem dL_law_652 : decode cL_law 652 = .ok (.iconst 0, 1) := by decide +kernel
theorem dL_law_653 : decode cL_law 653 = .ok (.ireturn, 1) := by decide +kernel
theorem dL_law_654 : decode cL_law 654 = .ok (.iconst 0, 1) := by decide +kernel
theorem dL_law_655 : decode cL_law 655 = .ok (.istore 18, 2) := by decide +kernel
theorem dL_law_657 : decode cL_law 657 = .ok (.iload 18, 2) := by decide +kernel
theorem dL_law_659 : decode cL_law 659 = .ok (.iload 7, 2) := by decide +kernel
theorem dL_law_661 : decode cL_law 661 = .ok (.if_icmp .ge 27, 3) := by decide +kernel
theorem dL_law_664 : decode cL_law 664 = .ok (.aload 16, 2) := by decide +kernel
theorem dL_law_666 : decode cL_law 666 = .ok (.iload 18, 2) := by decide +kernel
theorem dL_law_668 : decode cL_law 668 = .ok (.iaload, 1) := by decide +kernel
theorem dL_law_669 : decode cL_law 669 = .ok (.aload_n 1, 1) := by decide +kernel
theorem dL_law_670 : decode cL_law 670 = .ok (.iload 14, 2) := by decide +kernel
theorem dL_law_672 : decode cL_law 672 = .ok (.iload 18, 2) := by decide +kernel
theorem dL_law_674 : decode cL_law 674 = .ok (.invokevirtual 156, 3) := by decide +kernel
theorem dL_law_677 : decode cL_law 677 = .ok (.if_icmp .eq 5, 3) := by decide +kernel
theorem dL_law_680 : decode cL_law 680 = .ok (.iconst 0, 1) := by decide +kernel
theorem dL_law_681 : decode cL_law 681 = .ok (.ireturn, 1) := by decide +kernel
theorem dL_law_682 : decode cL_law 682 = .ok (.iinc 18 1, 3) := by decide +kernel
theorem dL_law_685 : decode cL_law 685 = .ok (.goto (-28), 3) := by decide +kernel
theorem dL_law_688 : decode cL_law 688 = .ok (.iinc 14 1, 3) := by decide +kernel
theorem dL_law_691 : decode cL_law 691 = .ok (.goto (-332), 3) := by decide +kernel
theorem dL_law_694 : decode cL_law 694 = .ok (.iload 13, 2) := by decide +kernel
theorem dL_law_696 : decode cL_law 696 = .ok (.aload_n 1, 1) := by decide +kernel
theorem dL_law_697 : decode cL_law 697 = .ok (.invokevirtual 159, 3) := by decide +kernel
theorem dL_law_700 : decode cL_law 700 = .ok (.if_icmp .ne 16, 3) := by decide +kernel
theorem dL_law_703 : decode cL_law 703 = .ok (.iload 13, 2) := by decide +kernel
theorem dL_law_705 : decode cL_law 705 = .ok (.ifCond .ne 13, 3) := by decide +kernel
theorem dL_law_708 : decode cL_law 708 = .ok (.aload_n 1, 1) := by decide +kernel
theorem dL_law_709 : decode cL_law 709 = .ok (.invokevirtual 145, 3) := by decide +kernel
theorem dL_law_712 : decode cL_law 712 = .ok (.iconst (-1), 1) := by decide +kernel
theorem dL_law_713 : decode cL_law 713 = .ok (.if_icmp .eq 5, 3) := by decide +kernel
theorem dL_law_716 : decode cL_law 716 = .ok (.iconst 0, 1) := by decide +kernel
theorem dL_law_717 : decode cL_law 717 = .ok (.ireturn, 1) := by decide +kernel
theorem dL_law_718 : decode cL_law 718 = .ok (.aload_n 1, 1) := by decide +kernel
theorem dL_law_719 : decode cL_law 719 = .ok (.invokevirtual 162, 3) := by decide +kernel
theorem dL_law_722 : decode cL_law 722 = .ok (.istore 14, 2) := by decide +kernel
theorem dL_law_724 : decode cL_law 724 = .ok (.iload 4, 2) := by decide +kernel
theorem dL_law_726 : decode cL_law 726 = .ok (.iconst 4, 1) := by decide +kernel
theorem dL_law_727 : decode cL_law 727 = .ok (.ishr, 1) := by decide +kernel
theorem dL_law_728 : decode cL_law 728 = .ok (.iload 7, 2) := by decide +kernel
theorem dL_law_730 : decode cL_law 730 = .ok (.invokestatic 15, 3) := by decide +kernel
theorem dL_law_733 : decode cL_law 733 = .ok (.istore 15, 2) := by decide +kernel
theorem dL_law_735 : decode cL_law 735 = .ok (.iload 14, 2) := by decide +kernel
theorem dL_law_737 : decode cL_law 737 = .ok (.ifCond .ge 10, 3) := by decide +kernel
theorem dL_law_740 : decode cL_law 740 = .ok (.aload_n 1, 1) := by decide +kernel
theorem dL_law_741 : decode cL_law 741 = .ok (.invokevirtual 121, 3) := by decide +kernel
theorem dL_law_744 : decode cL_law 744 = .ok (.goto 20, 3) := by decide +kernel
theorem dL_law_747 : decode cL_law 747 = .ok (.aload_n 1, 1) := by decide +kernel
theorem dL_law_748 : decode cL_law 748 = .ok (.iload 14, 2) := by decide +kernel
theorem dL_law_750 : decode cL_law 750 = .ok (.iconst 1, 1) := by decide +kernel
theorem dL_law_751 : decode cL_law 751 = .ok (.invokevirtual 165, 3) := by decide +kernel
theorem dL_law_754 : decode cL_law 754 = .ok (.aload_n 1, 1) := by decide +kernel
theorem dL_law_755 : decode cL_law 755 = .ok (.iload 14, 2) := by decide +kernel
theorem dL_law_757 : decode cL_law 757 = .ok (.iconst (-1), 1) := by decide +kernel
theorem dL_law_758 : decode cL_law 758 = .ok (.invokevirtual 165, 3) := by decide +kernel
theorem dL_law_761 : decode cL_law 761 = .ok (.invokestatic 153, 3) := by decide +kernel
theorem dL_law_764 : decode cL_law 764 = .ok (.istore 16, 2) := by decide +kernel
theorem dL_law_766 : decode cL_law 766 = .ok (.iload 14, 2) := by decide +kernel
theorem dL_law_768 : decode cL_law 768 = .ok (.ifCond .lt 12, 3) := by decide +kernel
theorem dL_law_771 : decode cL_law 771 = .ok (.iload 16, 2) := by decide +kernel
theorem dL_law_773 : decode cL_law 773 = .ok (.aload_n 1, 1) := by decide +kernel
theorem dL_law_774 : decode cL_law 774 = .ok (.invokevirtual 121, 3) := by decide +kernel
theorem dL_law_777 : decode cL_law 777 = .ok (.if_icmp .ge 41, 3) := by decide +kernel
theorem dL_law_780 : decode cL_law 780 = .ok (.aload_n 1, 1) := by decide +kernel
theorem dL_law_781 : decode cL_law 781 = .ok (.iload 15, 2) := by decide +kernel
theorem dL_law_783 : decode cL_law 783 = .ok (.iconst 1, 1) := by decide +kernel
theorem dL_law_784 : decode cL_law 784 = .ok (.invokevirtual 165, 3) := by decide +kernel
theorem dL_law_787 : decode cL_law 787 = .ok (.iload 16, 2) := by decide +kernel
theorem dL_law_789 : decode cL_law 789 = .ok (.if_icmp .lt 29, 3) := by decide +kernel
theorem dL_law_792 : decode cL_law 792 = .ok (.aload_n 1, 1) := by decide +kernel
theorem dL_law_793 : decode cL_law 793 = .ok (.iload 15, 2) := by decide +kernel
theorem dL_law_795 : decode cL_law 795 = .ok (.iconst (-1), 1) := by decide +kernel
theorem dL_law_796 : decode cL_law 796 = .ok (.invokevirtual 165, 3) := by decide +kernel
theorem dL_law_799 : decode cL_law 799 = .ok (.iload 16, 2) := by decide +kernel
theorem dL_law_801 : decode cL_law 801 = .ok (.if_icmp .lt 17, 3) := by decide +kernel
theorem dL_law_804 : decode cL_law 804 = .ok (.aload_n 1, 1) := by decide +kernel
theorem dL_law_805 : decode cL_law 805 = .ok (.iload 15, 2) := by decide +kernel
theorem dL_law_807 : decode cL_law 807 = .ok (.iconst 0, 1) := by decide +kernel
theorem dL_law_808 : decode cL_law 808 = .ok (.invokevirtual 165, 3) := by decide +kernel
theorem dL_law_811 : decode cL_law 811 = .ok (.aload_n 1, 1) := by decide +kernel
theorem dL_law_812 : decode cL_law 812 = .ok (.invokevirtual 121, 3) := by decide +kernel
theorem dL_law_815 : decode cL_law 815 = .ok (.if_icmp .eq 5, 3) := by decide +kernel
theorem dL_law_818 : decode cL_law 818 = .ok (.iconst 0, 1) := by decide +kernel
theorem dL_law_819 : decode cL_law 819 = .ok (.ireturn, 1) := by decide +kernel
theorem dL_law_820 : decode cL_law 820 = .ok (.aload_n 1, 1) := by decide +kernel
theorem dL_law_821 : decode cL_law 821 = .ok (.invokevirtual 96, 3) := by decide +kernel
theorem dL_law_824 : decode cL_law 824 = .ok (.lload 5, 2) := by decide +kernel
theorem dL_law_826 : decode cL_law 826 = .ok (.lcmp, 1) := by decide +kernel
theorem dL_law_827 : decode cL_law 827 = .ok (.ifCond .eq 5, 3) := by decide +kernel
theorem dL_law_830 : decode cL_law 830 = .ok (.iconst 0, 1) := by decide +kernel
theorem dL_law_831 : decode cL_law 831 = .ok (.ireturn, 1) := by decide +kernel
theorem dL_law_832 : decode cL_law 832 = .ok (.iload 4, 2) := by decide +kernel
theorem dL_law_834 : decode cL_law 834 = .ok (.iconst 5, 1) := by decide +kernel
theorem dL_law_835 : decode cL_law 835 = .ok (.ishr, 1) := by decide +kernel
theorem dL_law_836 : decode cL_law 836 = .ok (.bipush 41, 2) := by decide +kernel
theorem dL_law_838 : decode cL_law 838 = .ok (.invokestatic 15, 3) := by decide +kernel
theorem dL_law_841 : decode cL_law 841 = .ok (.bipush 20, 2) := by decide +kernel
theorem dL_law_843 : decode cL_law 843 = .ok (.isub, 1) := by decide +kernel
theorem dL_law_844 : decode cL_law 844 = .ok (.istore 17, 2) := by decide +kernel
theorem dL_law_846 : decode cL_law 846 = .ok (.aload_n 1, 1) := by decide +kernel
theorem dL_law_847 : decode cL_law 847 = .ok (.iload 17, 2) := by decide +kernel
theorem dL_law_849 : decode cL_law 849 = .ok (.invokevirtual 168, 3) := by decide +kernel
theorem dL_law_852 : decode cL_law 852 = .ok (.istore 18, 2) := by decide +kernel
theorem dL_law_854 : decode cL_law 854 = .ok (.iconst 0, 1) := by decide +kernel
theorem dL_law_855 : decode cL_law 855 = .ok (.istore 19, 2) := by decide +kernel
theorem dL_law_857 : decode cL_law 857 = .ok (.iload 19, 2) := by decide +kernel
theorem dL_law_859 : decode cL_law 859 = .ok (.iload 7, 2) := by decide +kernel
theorem dL_law_861 : decode cL_law 861 = .ok (.if_icmp .ge 69, 3) := by decide +kernel
theorem dL_law_864 : decode cL_law 864 = .ok (.iload 8, 2) := by decide +kernel
theorem dL_law_866 : decode cL_law 866 = .ok (.ifCond .le 64, 3) := by decide +kernel
theorem dL_law_869 : decode cL_law 869 = .ok (.aload_n 2, 1) := by decide +kernel
theorem dL_law_870 : decode cL_law 870 = .ok (.getfield 9, 3) := by decide +kernel
theorem dL_law_873 : decode cL_law 873 = .ok (.invokevirtual 32, 3) := by decide +kernel
theorem dL_law_876 : decode cL_law 876 = .ok (.checkcast 21, 3) := by decide +kernel
theorem dL_law_879 : decode cL_law 879 = .ok (.astore 20, 2) := by decide +kernel
theorem dL_law_881 : decode cL_law 881 = .ok (.aload 20, 2) := by decide +kernel
theorem dL_law_883 : decode cL_law 883 = .ok (.iload 19, 2) := by decide +kernel
theorem dL_law_885 : decode cL_law 885 = .ok (.iload 17, 2) := by decide +kernel
theorem dL_law_887 : decode cL_law 887 = .ok (.iastore, 1) := by decide +kernel
theorem dL_law_888 : decode cL_law 888 = .ok (.aload_n 2, 1) := by decide +kernel
theorem dL_law_889 : decode cL_law 889 = .ok (.aload 20, 2) := by decide +kernel
theorem dL_law_891 : decode cL_law 891 = .ok (.iconst 0, 1) := by decide +kernel
theorem dL_law_892 : decode cL_law 892 = .ok (.invokevirtual 70, 3) := by decide +kernel
theorem dL_law_895 : decode cL_law 895 = .ok (.iload 19, 2) := by decide +kernel
theorem dL_law_897 : decode cL_law 897 = .ok (.iload 18, 2) := by decide +kernel
theorem dL_law_899 : decode cL_law 899 = .ok (.if_icmp .ne 7, 3) := by decide +kernel
theorem dL_law_902 : decode cL_law 902 = .ok (.iconst 1, 1) := by decide +kernel
theorem dL_law_903 : decode cL_law 903 = .ok (.goto 4, 3) := by decide +kernel
theorem dL_law_906 : decode cL_law 906 = .ok (.iconst 0, 1) := by decide +kernel
theorem dL_law_907 : decode cL_law 907 = .ok (.if_icmp .eq 17, 3) := by decide +kernel
theorem dL_law_910 : decode cL_law 910 = .ok (.iload 19, 2) := by decide +kernel
theorem dL_law_912 : decode cL_law 912 = .ok (.iload 18, 2) := by decide +kernel
theorem dL_law_914 : decode cL_law 914 = .ok (.if_icmp .le 8, 3) := by decide +kernel
theorem dL_law_917 : decode cL_law 917 = .ok (.iload 18, 2) := by decide +kernel
theorem dL_law_919 : decode cL_law 919 = .ok (.ifCond .ge 5, 3) := by decide +kernel
theorem dL_law_922 : decode cL_law 922 = .ok (.iconst 0, 1) := by decide +kernel
theorem dL_law_923 : decode cL_law 923 = .ok (.ireturn, 1) := by decide +kernel
theorem dL_law_924 : decode cL_law 924 = .ok (.iinc 19 1, 3) := by decide +kernel
theorem dL_law_927 : decode cL_law 927 = .ok (.goto (-70), 3) := by decide +kernel
theorem dL_law_930 : decode cL_law 930 = .ok (.iload 8, 2) := by decide +kernel
theorem dL_law_932 : decode cL_law 932 = .ok (.ifCond .ne 11, 3) := by decide +kernel
theorem dL_law_935 : decode cL_law 935 = .ok (.iload 18, 2) := by decide +kernel
theorem dL_law_937 : decode cL_law 937 = .ok (.iconst (-1), 1) := by decide +kernel
theorem dL_law_938 : decode cL_law 938 = .ok (.if_icmp .eq 5, 3) := by decide +kernel
theorem dL_law_941 : decode cL_law 941 = .ok (.iconst 0, 1) := by decide +kernel
theorem dL_law_942 : decode cL_law 942 = .ok (.ireturn, 1) := by decide +kernel
theorem dL_law_943 : decode cL_law 943 = .ok (.aload_n 1, 1) := by decide +kernel
theorem dL_law_944 : decode cL_law 944 = .ok (.invokevirtual 171, 3) := by decide +kernel
theorem dL_law_947 : decode cL_law 947 = .ok (.istore 19, 2) := by decide +kernel
theorem dL_law_949 : decode cL_law 949 = .ok (.aload_n 1, 1) := by decide +kernel
theorem dL_law_950 : decode cL_law 950 = .ok (.invokevirtual 174, 3) := by decide +kernel
theorem dL_law_953 : decode cL_law 953 = .ok (.istore 20, 2) := by decide +kernel
theorem dL_law_955 : decode cL_law 955 = .ok (.aload_n 1, 1) := by decide +kernel
theorem dL_law_956 : decode cL_law 956 = .ok (.invokevirtual 133, 3) := by decide +kernel
theorem dL_law_959 : decode cL_law 959 = .ok (.istore 21, 2) := by decide +kernel
theorem dL_law_961 : decode cL_law 961 = .ok (.aload_n 1, 1) := by decide +kernel
theorem dL_law_962 : decode cL_law 962 = .ok (.invokevirtual 177, 3) := by decide +kernel
theorem dL_law_965 : decode cL_law 965 = .ok (.istore 22, 2) := by decide +kernel
theorem dL_law_967 : decode cL_law 967 = .ok (.iconst 1, 1) := by decide +kernel
theorem dL_law_968 : decode cL_law 968 = .ok (.iload 4, 2) := by decide +kernel
theorem dL_law_970 : decode cL_law 970 = .ok (.bipush 6, 2) := by decide +kernel
theorem dL_law_972 : decode cL_law 972 = .ok (.ishr, 1) := by decide +kernel
theorem dL_law_973 : decode cL_law 973 = .ok (.bipush 120, 2) := by decide +kernel
theorem dL_law_975 : decode cL_law 975 = .ok (.invokestatic 15, 3) := by decide +kernel
theorem dL_law_978 : decode cL_law 978 = .ok (.iadd, 1) := by decide +kernel
theorem dL_law_979 : decode cL_law 979 = .ok (.istore 23, 2) := by decide +kernel
theorem dL_law_981 : decode cL_law 981 = .ok (.aload_n 1, 1) := by decide +kernel
theorem dL_law_982 : decode cL_law 982 = .ok (.iload 23, 2) := by decide +kernel
theorem dL_law_984 : decode cL_law 984 = .ok (.invokevirtual 66, 3) := by decide +kernel
theorem dL_law_987 : decode cL_law 987 = .ok (.istore 24, 2) := by decide +kernel
theorem dL_law_989 : decode cL_law 989 = .ok (.iload 24, 2) := by decide +kernel
theorem dL_law_991 : decode cL_law 991 = .ok (.aload_n 2, 1) := by decide +kernel
theorem dL_law_992 : decode cL_law 992 = .ok (.iload 23, 2) := by decide +kernel
theorem dL_law_994 : decode cL_law 994 = .ok (.invokevirtual 69, 3) := by decide +kernel
theorem dL_law_997 : decode cL_law 997 = .ok (.if_icmp .ne 106, 3) := by decide +kernel
theorem dL_law_1000 : decode cL_law 1000 = .ok (.iload 24, 2) := by decide +kernel
theorem dL_law_1002 : decode cL_law 1002 = .ok (.iload 23, 2) := by decide +kernel
theorem dL_law_1004 : decode cL_law 1004 = .ok (.if_icmp .gt 99, 3) := by decide +kernel
theorem dL_law_1007 : decode cL_law 1007 = .ok (.iload 21, 2) := by decide +kernel
theorem dL_law_1009 : decode cL_law 1009 = .ok (.ifCond .lt 15, 3) := by decide +kernel
theorem dL_law_1012 : decode cL_law 1012 = .ok (.iload 24, 2) := by decide +kernel
theorem dL_law_1014 : decode cL_law 1014 = .ok (.iload 21, 2) := by decide +kernel
theorem dL_law_1016 : decode cL_law 1016 = .ok (.iload 23, 2) := by decide +kernel
theorem dL_law_1018 : decode cL_law 1018 = .ok (.invokestatic 153, 3) := by decide +kernel
theorem dL_law_1021 : decode cL_law 1021 = .ok (.if_icmp .ne 82, 3) := by decide +kernel
theorem dL_law_1024 : decode cL_law 1024 = .ok (.iload 24, 2) := by decide +kernel
theorem dL_law_1026 : decode cL_law 1026 = .ok (.iload 23, 2) := by decide +kernel
theorem dL_law_1028 : decode cL_law 1028 = .ok (.if_icmp .ge 7, 3) := by decide +kernel
theorem dL_law_1031 : decode cL_law 1031 = .ok (.iconst 1, 1) := by decide +kernel
theorem dL_law_1032 : decode cL_law 1032 = .ok (.goto 4, 3) := by decide +kernel
theorem dL_law_1035 : decode cL_law 1035 = .ok (.iconst 0, 1) := by decide +kernel
theorem dL_law_1036 : decode cL_law 1036 = .ok (.iload 21, 2) := by decide +kernel
theorem dL_law_1038 : decode cL_law 1038 = .ok (.ifCond .lt 14, 3) := by decide +kernel
theorem dL_law_1041 : decode cL_law 1041 = .ok (.iload 21, 2) := by decide +kernel
theorem dL_law_1043 : decode cL_law 1043 = .ok (.iload 23, 2) := by decide +kernel
theorem dL_law_1045 : decode cL_law 1045 = .ok (.if_icmp .ge 7, 3) := by decide +kernel
theorem dL_law_1048 : decode cL_law 1048 = .ok (.iconst 1, 1) := by decide +kernel
theorem dL_law_1049 : decode cL_law 1049 = .ok (.goto 4, 3) := by decide +kernel
theorem dL_law_1052 : decode cL_law 1052 = .ok (.iconst 0, 1) := by decide +kernel
theorem dL_law_1053 : decode cL_law 1053 = .ok (.if_icmp .ne 50, 3) := by decide +kernel
theorem dL_law_1056 : decode cL_law 1056 = .ok (.iload 21, 2) := by decide +kernel
theorem dL_law_1058 : decode cL_law 1058 = .ok (.ifCond .lt 24, 3) := by decide +kernel
theorem dL_law_1061 : decode cL_law 1061 = .ok (.aload_n 1, 1) := by decide +kernel
theorem dL_law_1062 : decode cL_law 1062 = .ok (.invokevirtual 133, 3) := by decide +kernel
theorem dL_law_1065 : decode cL_law 1065 = .ok (.iload 21, 2) := by decide +kernel
theorem dL_law_1067 : decode cL_law 1067 = .ok (.iload 24, 2) := by decide +kernel
theorem dL_law_1069 : decode cL_law 1069 = .ok (.isub, 1) := by decide +kernel
theorem dL_law_1070 : decode cL_law 1070 = .ok (.if_icmp .ne 33, 3) := by decide +kernel
theorem dL_law_1073 : decode cL_law 1073 = .ok (.aload_n 1, 1) := by decide +kernel
theorem dL_law_1074 : decode cL_law 1074 = .ok (.invokevirtual 177, 3) := by decide +kernel
theorem dL_law_1077 : decode cL_law 1077 = .ok (.iload 22, 2) := by decide +kernel
theorem dL_law_1079 : decode cL_law 1079 = .ok (.if_icmp .ne 24, 3) := by decide +kernel
theorem dL_law_1082 : decode cL_law 1082 = .ok (.iload 21, 2) := by decide +kernel
theorem dL_law_1084 : decode cL_law 1084 = .ok (.ifCond .lt 21, 3) := by decide +kernel
theorem dL_law_1087 : decode cL_law 1087 = .ok (.iload 21, 2) := by decide +kernel
theorem dL_law_1089 : decode cL_law 1089 = .ok (.iload 23, 2) := by decide +kernel
theorem dL_law_1091 : decode cL_law 1091 = .ok (.if_icmp .gt 14, 3) := by decide +kernel
theorem dL_law_1094 : decode cL_law 1094 = .ok (.aload_n 1, 1) := by decide +kernel
theorem dL_law_1095 : decode cL_law 1095 = .ok (.invokevirtual 121, 3) := by decide +kernel
theorem dL_law_1098 : decode cL_law 1098 = .ok (.iload 22, 2) := by decide +kernel
theorem dL_law_1100 : decode cL_law 1100 = .ok (.if_icmp .eq 5, 3) := by decide +kernel
theorem dL_law_1103 : decode cL_law 1103 = .ok (.iconst 0, 1) := by decide +kernel
theorem dL_law_1104 : decode cL_law 1104 = .ok (.ireturn, 1) := by decide +kernel
theorem dL_law_1105 : decode cL_law 1105 = .ok (.iload 4, 2) := by decide +kernel
theorem dL_law_1107 : decode cL_law 1107 = .ok (.iconst 3, 1) := by decide +kernel
theorem dL_law_1108 : decode cL_law 1108 = .ok (.ishr, 1) := by decide +kernel
theorem dL_law_1109 : decode cL_law 1109 = .ok (.bipush 101, 2) := by decide +kernel
theorem dL_law_1111 : decode cL_law 1111 = .ok (.invokestatic 15, 3) := by decide +kernel
theorem dL_law_1114 : decode cL_law 1114 = .ok (.bipush 50, 2) := by decide +kernel
theorem dL_law_1116 : decode cL_law 1116 = .ok (.isub, 1) := by decide +kernel
theorem dL_law_1117 : decode cL_law 1117 = .ok (.istore 25, 2) := by decide +kernel
theorem dL_law_1119 : decode cL_law 1119 = .ok (.aload_n 2, 1) := by decide +kernel
theorem dL_law_1120 : decode cL_law 1120 = .ok (.aload_n 2, 1) := by decide +kernel
theorem dL_law_1121 : decode cL_law 1121 = .ok (.aload_n 2, 1) := by decide +kernel
theorem dL_law_1122 : decode cL_law 1122 = .ok (.getfield 9, 3) := by decide +kernel
theorem dL_law_1125 : decode cL_law 1125 = .ok (.iload 15, 2) := by decide +kernel
theorem dL_law_1127 : decode cL_law 1127 = .ok (.iload 25, 2) := by decide +kernel
theorem dL_law_1129 : decode cL_law 1129 = .ok (.invokevirtual 39, 3) := by decide +kernel
theorem dL_law_1132 : decode cL_law 1132 = .ok (.putfield 9, 3) := by decide +kernel
theorem dL_law_1135 : decode cL_law 1135 = .ok (.aload_n 2, 1) := by decide +kernel
theorem dL_law_1136 : decode cL_law 1136 = .ok (.dup, 1) := by decide +kernel
theorem dL_law_1137 : decode cL_law 1137 = .ok (.getfield 43, 3) := by decide +kernel
theorem dL_law_1140 : decode cL_law 1140 = .ok (.iload 25, 2) := by decide +kernel
theorem dL_law_1142 : decode cL_law 1142 = .ok (.invokestatic 47, 3) := by decide +kernel
theorem dL_law_1145 : decode cL_law 1145 = .ok (.iadd, 1) := by decide +kernel
theorem dL_law_1146 : decode cL_law 1146 = .ok (.putfield 43, 3) := by decide +kernel
theorem dL_law_1149 : decode cL_law 1149 = .ok (.aload_n 1, 1) := by decide +kernel
theorem dL_law_1150 : decode cL_law 1150 = .ok (.iload 15, 2) := by decide +kernel
theorem dL_law_1152 : decode cL_law 1152 = .ok (.iload 25, 2) := by decide +kernel
theorem dL_law_1154 : decode cL_law 1154 = .ok (.invokevirtual 52, 3) := by decide +kernel
theorem dL_law_1157 : decode cL_law 1157 = .ok (.aload_n 2, 1) := by decide +kernel
theorem dL_law_1158 : decode cL_law 1158 = .ok (.getfield 9, 3) := by decide +kernel
theorem dL_law_1161 : decode cL_law 1161 = .ok (.iload 15, 2) := by decide +kernel
theorem dL_law_1163 : decode cL_law 1163 = .ok (.iaload, 1) := by decide +kernel
theorem dL_law_1164 : decode cL_law 1164 = .ok (.if_icmp .ne 21, 3) := by decide +kernel
theorem dL_law_1167 : decode cL_law 1167 = .ok (.aload_n 1, 1) := by decide +kernel
theorem dL_law_1168 : decode cL_law 1168 = .ok (.invokevirtual 171, 3) := by decide +kernel
theorem dL_law_1171 : decode cL_law 1171 = .ok (.iload 19, 2) := by decide +kernel
theorem dL_law_1173 : decode cL_law 1173 = .ok (.if_icmp .ne 12, 3) := by decide +kernel
theorem dL_law_1176 : decode cL_law 1176 = .ok (.aload_n 1, 1) := by decide +kernel
theorem dL_law_1177 : decode cL_law 1177 = .ok (.invokevirtual 174, 3) := by decide +kernel
theorem dL_law_1180 : decode cL_law 1180 = .ok (.iload 20, 2) := by decide +kernel
theorem dL_law_1182 : decode cL_law 1182 = .ok (.if_icmp .eq 5, 3) := by decide +kernel
theorem dL_law_1185 : decode cL_law 1185 = .ok (.iconst 0, 1) := by decide +kernel
theorem dL_law_1186 : decode cL_law 1186 = .ok (.ireturn, 1) := by decide +kernel
theorem dL_law_1187 : decode cL_law 1187 = .ok (.iconst 0, 1) := by decide +kernel
theorem dL_law_1188 : decode cL_law 1188 = .ok (.istore 26, 2) := by decide +kernel
theorem dL_law_1190 : decode cL_law 1190 = .ok (.iload 26, 2) := by decide +kernel
theorem dL_law_1192 : decode cL_law 1192 = .ok (.iload 8, 2) := by decide +kernel
theorem dL_law_1194 : decode cL_law 1194 = .ok (.if_icmp .ge 25, 3) := by decide +kernel
theorem dL_law_1197 : decode cL_law 1197 = .ok (.aload_n 1, 1) := by decide +kernel
theorem dL_law_1198 : decode cL_law 1198 = .ok (.iload 26, 2) := by decide +kernel
theorem dL_law_1200 : decode cL_law 1200 = .ok (.invokevirtual 136, 3) := by decide +kernel
theorem dL_law_1203 : decode cL_law 1203 = .ok (.aload 12, 2) := by decide +kernel
theorem dL_law_1205 : decode cL_law 1205 = .ok (.iload 26, 2) := by decide +kernel
theorem dL_law_1207 : decode cL_law 1207 = .ok (.baload, 1) := by decide +kernel
theorem dL_law_1208 : decode cL_law 1208 = .ok (.if_icmp .eq 5, 3) := by decide +kernel
theorem dL_law_1211 : decode cL_law 1211 = .ok (.iconst 0, 1) := by decide +kernel
theorem dL_law_1212 : decode cL_law 1212 = .ok (.ireturn, 1) := by decide +kernel
theorem dL_law_1213 : decode cL_law 1213 = .ok (.iinc 26 1, 3) := by decide +kernel
theorem dL_law_1216 : decode cL_law 1216 = .ok (.goto (-26), 3) := by decide +kernel
theorem dL_law_1219 : decode cL_law 1219 = .ok (.iinc 3 1, 3) := by decide +kernel
theorem dL_law_1222 : decode cL_law 1222 = .ok (.goto (-1200), 3) := by decide +kernel
theorem dL_law_1225 : decode cL_law 1225 = .ok (.aload_n 2, 1) := by decide +kernel
theorem dL_law_1226 : decode cL_law 1226 = .ok (.aload_n 1, 1) := by decide +kernel
theorem dL_law_1227 : decode cL_law 1227 = .ok (.invokevirtual 180, 3) := by decide +kernel
theorem dL_law_1230 : decode cL_law 1230 = .ok (.ireturn, 1) := by decide +kernel
abbrev vwCl : List vw_C := [(RX0, TX0, 2), (RX1, TX1, 2), (RX2, TX2, 6), (RX3, TX3, 3)]
