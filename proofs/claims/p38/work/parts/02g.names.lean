set_option maxRecDepth 20000 in
theorem ggL_law_L_act_h : GoodIn wsL_law [.codeWith yL_act cL_act 8 (some .boolean) [(18, 99, 616, 80), (100, 143, 616, 80), (144, 234, 616, 80), (235, 332, 616, 80), (333, 391, 616, 80), (392, 458, 616, 80), (459, 508, 616, 80), (509, 518, 616, 80), (519, 615, 616, 80)]] := goodIn_r _ [127] (by first | rfl | decide +kernel) (by decide +kernel)
set_option maxRecDepth 20000 in
theorem ggL_law_L_act_r1 : GoodIn wsL_law wsL_act_r1 := goodIn_r _ [128, 8, 41, 18, 56, 13, 14, 15, 16, 17, 19, 3, 4, 5, 6, 67, 68, 51, 69, 9, 70, 71, 72, 2] (by decide +kernel) (by decide +kernel)
set_option maxRecDepth 20000 in
theorem ggL_law_L_act_r2 : GoodIn wsL_law wsL_act_r2 := goodIn_r _ [73, 74, 75, 29, 31, 76, 77, 78, 28, 79, 43, 80, 81, 82, 83, 42, 84, 85, 86, 87, 88, 89, 90, 91] (by decide +kernel) (by decide +kernel)
set_option maxRecDepth 20000 in
theorem ggL_law_L_act_r3 : GoodIn wsL_law wsL_act_r3 := goodIn_r _ [92, 93, 94, 95, 96, 97, 98, 99, 100, 101, 102, 103, 104, 105, 106, 129, 130, 131, 55, 132, 133, 61, 134, 135] (by decide +kernel) (by decide +kernel)
set_option maxRecDepth 20000 in
theorem ggL_law_L_act_r4 : GoodIn wsL_law wsL_act_r4 := goodIn_r _ [136, 137, 32, 138, 139, 140, 141, 142, 143, 144, 145, 146, 147, 148, 149, 150, 124, 151, 152, 153, 154, 155, 156, 157] (by decide +kernel) (by decide +kernel)
set_option maxRecDepth 20000 in
theorem ggL_law_L_act_r5 : GoodIn wsL_law wsL_act_r5 := goodIn_r _ [158, 159, 160, 161, 162, 107, 108, 109, 110, 111, 112, 113, 114, 115, 116, 117, 118, 119, 30, 120, 121, 122, 123, 163] (by decide +kernel) (by decide +kernel)
set_option maxRecDepth 20000 in
theorem ggL_law_L_act_r6 : GoodIn wsL_law wsL_act_r6 := goodIn_r _ [164, 165, 166, 167, 168, 169, 170, 171, 172, 173, 174, 175, 176, 177, 178, 179, 180, 181, 182, 183, 60, 184, 185, 186] (by decide +kernel) (by decide +kernel)
set_option maxRecDepth 20000 in
theorem ggL_law_L_act_r7 : GoodIn wsL_law wsL_act_r7 := goodIn_r _ [187, 188, 189, 190, 191, 192, 193, 194, 195, 196, 197, 198, 199, 200, 201, 62, 202, 203, 204, 205, 206, 207, 208, 209] (by decide +kernel) (by decide +kernel)
set_option maxRecDepth 20000 in
theorem ggL_law_L_act_r8 : GoodIn wsL_law wsL_act_r8 := goodIn_r _ [210, 211, 212, 213, 214, 215, 216, 217, 218, 219, 220, 221, 222, 223, 224, 225, 226, 227, 228, 229, 230, 231, 232, 233] (by decide +kernel) (by decide +kernel)
set_option maxRecDepth 20000 in
theorem ggL_law_L_act_r9 : GoodIn wsL_law wsL_act_r9 := goodIn_r _ [234, 235, 236, 237, 238, 239, 240, 241, 242, 243, 244, 37, 245, 246, 247, 36, 248, 48, 47, 249, 250, 251, 252, 253] (by decide +kernel) (by decide +kernel)
set_option maxRecDepth 20000 in
theorem ggL_law_L_act_r10 : GoodIn wsL_law wsL_act_r10 := goodIn_r _ [254, 255, 256, 257, 258, 259, 11, 12, 260, 261, 262, 263, 264, 265, 266, 267, 268] (by decide +kernel) (by decide +kernel)
set_option maxRecDepth 20000 in
theorem ggL_law_L_act_wsX30 : GoodIn wsL_law wsX30 := goodIn_r _ [488, 489, 490] (by decide +kernel) (by decide +kernel)
set_option maxRecDepth 20000 in
theorem ggL_law_L_act_wsX20 : GoodIn wsL_law wsX20 := goodIn_r _ [482, 483, 484, 485, 486, 487] (by decide +kernel) (by decide +kernel)
set_option maxRecDepth 20000 in
theorem ggL_law_L_act_wsX00 : GoodIn wsL_law wsX00 := goodIn_r _ [491, 492] (by decide +kernel) (by decide +kernel)
set_option maxRecDepth 20000 in
theorem ggL_law_L_act_wsX10 : GoodIn wsL_law wsX10 := goodIn_r _ [493, 494] (by decide +kernel) (by decide +kernel)
set_option maxRecDepth 20000 in
theorem ggL_law_L_act : GoodIn wsL_law wsL_act := goodIn_ca (goodIn_ca (goodIn_ca (goodIn_ca (goodIn_ca (goodIn_ca (goodIn_ca (goodIn_ca (a := []) ggL_law_L_act_h (goodIn_app ggL_law_L_act_r1 (goodIn_app ggL_law_L_act_r2 (goodIn_app ggL_law_L_act_r3 (goodIn_app ggL_law_L_act_r4 (goodIn_app ggL_law_L_act_r5 (goodIn_app ggL_law_L_act_r6 (goodIn_app ggL_law_L_act_r7 (goodIn_app ggL_law_L_act_r8 (goodIn_app ggL_law_L_act_r9 ggL_law_L_act_r10)))))))))) ggL_law_L_act_wsX30) ggL_law_L_act_wsX20) ggL_law_L_act_wsX00) ggL_law_L_act_wsX10) (goodIn_sub (fun _ h => List.mem_append_left _ (List.mem_append_left _ (List.mem_append_right _ h))) (by decide +kernel))) (goodIn_sub (fun _ h => List.mem_append_left _ (List.mem_append_right _ h)) (by decide +kernel))) (goodIn_sub (fun _ h => List.mem_append_right _ h) (by decide +kernel))
theorem gL_law_L_act : GoodIn wsL_law (va_wsS RL 87 yL_act wsL_act) := goodIn_app (goodIn_of _ (by decide +kernel)) ggL_law_L_act
