set_option maxRecDepth 20000 in
theorem ggL_law_L_build_h : GoodIn wsL_law [.code yL_build cL_build 5 (some (.object "RingSeesawLaw$Sim"))] := goodIn_r _ [52] (by first | rfl | decide +kernel) (by decide +kernel)
set_option maxRecDepth 20000 in
theorem ggL_law_L_build_r1 : GoodIn wsL_law wsL_build_r1 := goodIn_r _ [53, 54, 55, 41, 8, 56, 13, 14, 15, 16, 17, 18, 57, 58, 59, 24, 25, 60, 61, 62, 63, 64, 51, 65] (by decide +kernel) (by decide +kernel)
set_option maxRecDepth 20000 in
theorem ggL_law_L_build_r2 : GoodIn wsL_law wsL_build_r2 := goodIn_r _ [66, 67, 68, 69, 9, 70, 71, 72, 2, 73, 74, 75, 29, 31, 76, 77, 78, 28, 79, 43, 80, 81, 82, 83] (by decide +kernel) (by decide +kernel)
set_option maxRecDepth 20000 in
theorem ggL_law_L_build_r3 : GoodIn wsL_law wsL_build_r3 := goodIn_r _ [42, 84, 85, 86, 87, 88, 89, 90, 91, 92, 93, 94, 95, 96, 97, 98, 99, 100, 101, 102, 103, 104, 105, 106] (by decide +kernel) (by decide +kernel)
set_option maxRecDepth 20000 in
theorem ggL_law_L_build_r4_0 : GoodIn wsL_law [Cond.methodLink RL 59 yX3_with, Cond.static yX3_with, Cond.code yX3_with cX3_with 4 (some (.array (.array .int))), Cond.methodLink RL 63 yX2_keep] := goodIn_r _ [107, 108, 109, 110] (by decide +kernel) (by decide +kernel)
set_option maxRecDepth 20000 in
theorem ggL_law_L_build_r4_4 : GoodIn wsL_law [Cond.instanceMethod yX2_keep, Cond.selects RX2 yX2_keep yX2_keep, Cond.code yX2_keep cX2_keep 2 (some .int), Cond.classLink RX2 80 "java/lang/IllegalStateException"] := goodIn_r _ [111, 112, 113, 114] (by decide +kernel) (by decide +kernel)
set_option maxRecDepth 20000 in
theorem ggL_law_L_build_r4_8 : GoodIn wsL_law [Cond.initialized "java/lang/IllegalStateException", Cond.methodLink RX2 85 yX2_keptRing, Cond.instanceMethod yX2_keptRing, Cond.selects RX2 yX2_keptRing yX2_keptRing] := goodIn_r _ [115, 116, 117, 118] (by decide +kernel) (by decide +kernel)
set_option maxRecDepth 20000 in
theorem ggL_law_L_build_r4_12 : GoodIn wsL_law [Cond.code yX2_keptRing cX2_keptRing 3 (some (.object "RingSeesaw$Ring")), Cond.fieldLink RX2 16 "RingSeesaw" "kept" "[LRingSeesaw$Ring;", Cond.methodLink RX2 89 yX0_copyFrom, Cond.instanceMethod yX0_copyFrom] := goodIn_r _ [119, 30, 120, 121] (by decide +kernel) (by decide +kernel)
set_option maxRecDepth 20000 in
theorem ggL_law_L_build_r4_16 : GoodIn wsL_law [Cond.selects RX0 yX0_copyFrom yX0_copyFrom, Cond.code yX0_copyFrom cX0_copyFrom 3 none, Cond.methodLink RX0 23 yX0_at, Cond.methodLink RL 87 yL_act] := goodIn_r _ [122, 123, 124, 125] (by decide +kernel) (by decide +kernel)
set_option maxRecDepth 20000 in
theorem ggL_law_L_build_r4_20 : GoodIn wsL_law [Cond.static yL_act, Cond.codeWith yL_act cL_act 8 (some .boolean) [(18, 99, 616, 80), (100, 143, 616, 80), (144, 234, 616, 80), (235, 332, 616, 80), (333, 391, 616, 80), (392, 458, 616, 80), (459, 508, 616, 80), (509, 518, 616, 80), (519, 615, 616, 80)], Cond.classLink RL 80 "java/lang/IllegalStateException", Cond.fieldLink RL 43 "RingSeesawLaw$Sim" "tips" "I"] := goodIn_r _ [126, 127, 128, 19] (by first | rfl | decide +kernel) (by decide +kernel)
set_option maxRecDepth 20000 in
theorem ggL_law_L_build_r4 : GoodIn wsL_law wsL_build_r4 := (goodIn_app ggL_law_L_build_r4_0 (goodIn_app ggL_law_L_build_r4_4 (goodIn_app ggL_law_L_build_r4_8 (goodIn_app ggL_law_L_build_r4_12 (goodIn_app ggL_law_L_build_r4_16 ggL_law_L_build_r4_20)))))
set_option maxRecDepth 20000 in
theorem ggL_law_L_build_r5 : GoodIn wsL_law wsL_build_r5 := goodIn_r _ [3, 4, 5, 6, 129, 130, 131, 132, 133, 134, 135, 136, 137, 32, 138, 139, 140, 141, 142, 143, 144, 145, 146, 147] (by decide +kernel) (by decide +kernel)
set_option maxRecDepth 20000 in
theorem ggL_law_L_build_r6 : GoodIn wsL_law wsL_build_r6 := goodIn_r _ [148, 149, 150, 151, 152, 153, 154, 155, 156, 157, 158, 159, 160, 161, 162, 163, 164, 165, 166, 167, 168, 169, 170, 171] (by decide +kernel) (by decide +kernel)
set_option maxRecDepth 20000 in
theorem ggL_law_L_build_r7 : GoodIn wsL_law wsL_build_r7 := goodIn_r _ [172, 173, 174, 175, 176, 177, 178, 179, 180, 181, 182, 183, 184, 185, 186, 187, 188, 189, 190, 191, 192, 193, 194, 195] (by decide +kernel) (by decide +kernel)
set_option maxRecDepth 20000 in
theorem ggL_law_L_build_r8 : GoodIn wsL_law wsL_build_r8 := goodIn_r _ [196, 197, 198, 199, 200, 201, 202, 203, 204, 205, 206, 207, 208, 209, 210, 211, 212, 213, 214, 215, 216, 217, 218, 219] (by decide +kernel) (by decide +kernel)
set_option maxRecDepth 20000 in
theorem ggL_law_L_build_r9 : GoodIn wsL_law wsL_build_r9 := goodIn_r _ [220, 221, 222, 223, 224, 225, 226, 227, 228, 229, 230, 231, 232, 233, 234, 235, 236, 237, 238, 239, 240, 241, 242, 243] (by decide +kernel) (by decide +kernel)
set_option maxRecDepth 20000 in
theorem ggL_law_L_build_r10 : GoodIn wsL_law wsL_build_r10 := goodIn_r _ [244, 37, 245, 246, 247, 36, 248, 48, 47, 249, 250, 251, 252, 253, 254, 255, 256, 257, 258, 259, 11, 12, 260, 261] (by decide +kernel) (by decide +kernel)
set_option maxRecDepth 20000 in
theorem ggL_law_L_build_r11 : GoodIn wsL_law wsL_build_r11 := goodIn_r _ [262, 263, 264, 265, 266, 267, 268] (by decide +kernel) (by decide +kernel)
set_option maxRecDepth 20000 in
theorem ggL_law_L_build_wsX30 : GoodIn wsL_law wsX30 := goodIn_r _ [488, 489, 490] (by decide +kernel) (by decide +kernel)
set_option maxRecDepth 20000 in
theorem ggL_law_L_build_wsX20 : GoodIn wsL_law wsX20 := goodIn_r _ [482, 483, 484, 485, 486, 487] (by decide +kernel) (by decide +kernel)
set_option maxRecDepth 20000 in
theorem ggL_law_L_build_wsX00 : GoodIn wsL_law wsX00 := goodIn_r _ [491, 492] (by decide +kernel) (by decide +kernel)
set_option maxRecDepth 20000 in
theorem ggL_law_L_build_wsX10 : GoodIn wsL_law wsX10 := goodIn_r _ [493, 494] (by decide +kernel) (by decide +kernel)
set_option maxRecDepth 20000 in
theorem ggL_law_L_build : GoodIn wsL_law wsL_build := goodIn_ca (goodIn_ca (goodIn_ca (goodIn_ca (goodIn_ca (goodIn_ca (goodIn_ca (goodIn_ca (a := []) ggL_law_L_build_h (goodIn_app ggL_law_L_build_r1 (goodIn_app ggL_law_L_build_r2 (goodIn_app ggL_law_L_build_r3 (goodIn_app ggL_law_L_build_r4 (goodIn_app ggL_law_L_build_r5 (goodIn_app ggL_law_L_build_r6 (goodIn_app ggL_law_L_build_r7 (goodIn_app ggL_law_L_build_r8 (goodIn_app ggL_law_L_build_r9 (goodIn_app ggL_law_L_build_r10 ggL_law_L_build_r11))))))))))) ggL_law_L_build_wsX30) ggL_law_L_build_wsX20) ggL_law_L_build_wsX00) ggL_law_L_build_wsX10) (goodIn_sub (fun _ h => List.mem_append_left _ (List.mem_append_left _ (List.mem_append_right _ h))) (by decide +kernel))) (goodIn_sub (fun _ h => List.mem_append_left _ (List.mem_append_right _ h)) (by decide +kernel))) (goodIn_sub (fun _ h => List.mem_append_right _ h) (by decide +kernel))
theorem gL_law_L_build : GoodIn wsL_law (va_wsS RL 92 yL_build wsL_build) := goodIn_app (goodIn_of _ (by decide +kernel)) ggL_law_L_build
