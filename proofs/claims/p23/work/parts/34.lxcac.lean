/-! own rows: words of the law's calls (2) -/
set_option maxRecDepth 20000 in
theorem ggL_law_L_isParted_r1 : GoodIn wsL_law wsL_isParted_r1 := goodIn_r _ [366, 367, 368, 6, 369, 24, 16, 304, 305, 306, 307, 308, 309, 310, 311, 312, 266, 267, 263, 264, 265, 370, 371, 372] (by decide +kernel) (by decide +kernel)
set_option maxRecDepth 20000 in
theorem ggL_law_L_isParted_r2 : GoodIn wsL_law wsL_isParted_r2 := goodIn_r _ [23, 373, 77, 74, 374, 375, 376, 377, 136, 137, 378, 379, 380, 381, 382, 383, 384, 385, 75, 76, 386, 387, 388, 389] (by decide +kernel) (by decide +kernel)
set_option maxRecDepth 20000 in
theorem ggL_law_L_isParted_r3 : GoodIn wsL_law wsL_isParted_r3 := goodIn_r _ [390, 391, 392, 393, 394, 290, 291, 15, 292, 293, 294, 295, 296, 41, 297, 233, 234, 235, 42, 49, 43, 48, 395, 396] (by decide +kernel) (by decide +kernel)
set_option maxRecDepth 20000 in
theorem ggL_law_L_isParted_r4 : GoodIn wsL_law wsL_isParted_r4 := goodIn_r _ [397, 398, 399, 400, 139, 140, 141, 401, 269, 270, 271, 272, 273, 274, 402, 403, 404, 405, 406, 143, 144, 145, 407, 408] (by decide +kernel) (by decide +kernel)
set_option maxRecDepth 20000 in
theorem ggL_law_L_isParted_r5 : GoodIn wsL_law wsL_isParted_r5 := goodIn_r _ [409, 410, 411, 412, 413, 414, 415, 168, 169, 170, 416, 339, 340, 341, 342, 20, 32, 36, 343, 268, 344, 345, 346, 347] (by decide +kernel) (by decide +kernel)
set_option maxRecDepth 20000 in
theorem ggL_law_L_isParted_r6 : GoodIn wsL_law wsL_isParted_r6 := goodIn_r _ [19, 348, 68, 63, 167, 349, 350, 417, 418, 419, 420, 421, 422, 423, 155, 156, 157, 158, 259, 260, 261, 262, 28, 37] (by decide +kernel) (by decide +kernel)
set_option maxRecDepth 20000 in
theorem ggL_law_L_isParted_r7 : GoodIn wsL_law wsL_isParted_r7 := goodIn_r _ [275, 276, 277, 35, 278, 103, 105, 279, 280, 281, 282, 283, 284, 285, 286, 287, 288, 230, 185, 231, 289, 424, 425, 2] (by decide +kernel) (by decide +kernel)
set_option maxRecDepth 20000 in
theorem ggL_law_L_isParted_r8 : GoodIn wsL_law wsL_isParted_r8 := goodIn_r _ [426] (by decide +kernel) (by decide +kernel)
set_option maxRecDepth 20000 in
theorem ggL_law_L_isParted_wsX60 : GoodIn wsL_law wsX60 := goodIn_r _ [536, 537, 538, 539, 540, 541, 542] (by decide +kernel) (by decide +kernel)
set_option maxRecDepth 20000 in
theorem ggL_law_L_isParted_wsX50 : GoodIn wsL_law wsX50 := goodIn_r _ [543, 544, 545, 546, 547, 548, 549, 550] (by decide +kernel) (by decide +kernel)
set_option maxRecDepth 20000 in
theorem ggL_law_L_isParted_wsX40 : GoodIn wsL_law wsX40 := goodIn_r _ [566, 567, 568, 569] (by decide +kernel) (by decide +kernel)
set_option maxRecDepth 20000 in
theorem ggL_law_L_isParted_wsX10 : GoodIn wsL_law wsX10 := goodIn_r _ [551, 552, 553, 554, 555, 556, 557, 558, 559, 560, 561, 562, 563, 564, 565] (by decide +kernel) (by decide +kernel)
set_option maxRecDepth 20000 in
theorem ggL_law_L_isParted_wsX30 : GoodIn wsL_law wsX30 := goodIn_r _ [575, 576, 577] (by decide +kernel) (by decide +kernel)
set_option maxRecDepth 20000 in
theorem ggL_law_L_isParted_wsX00 : GoodIn wsL_law wsX00 := goodIn_r _ [578, 579, 580, 581, 582] (by decide +kernel) (by decide +kernel)
set_option maxRecDepth 20000 in
theorem ggL_law_L_isParted_wsX20 : GoodIn wsL_law wsX20 := goodIn_r _ [570, 571, 572, 573, 574] (by decide +kernel) (by decide +kernel)
set_option maxRecDepth 20000 in
theorem ggL_law_L_isParted_c : GoodIn wsL_law [.code yL_isParted cL_isParted 11 (some .boolean)] := goodIn_r _ [365] (by decide +kernel) (by decide +kernel)
set_option maxRecDepth 20000 in
theorem ggL_law_L_isParted : GoodIn wsL_law wsL_isParted := goodIn_ca (goodIn_ca (goodIn_c1 ggL_law_L_isParted_c (goodIn_app (goodIn_app (goodIn_app (goodIn_app (goodIn_app (goodIn_app (goodIn_app (goodIn_app ggL_law_L_isParted_r1 (goodIn_app ggL_law_L_isParted_r2 (goodIn_app ggL_law_L_isParted_r3 (goodIn_app ggL_law_L_isParted_r4 (goodIn_app ggL_law_L_isParted_r5 (goodIn_app ggL_law_L_isParted_r6 (goodIn_app ggL_law_L_isParted_r7 ggL_law_L_isParted_r8))))))) ggL_law_L_isParted_wsX60) ggL_law_L_isParted_wsX50) ggL_law_L_isParted_wsX40) ggL_law_L_isParted_wsX10) ggL_law_L_isParted_wsX30) ggL_law_L_isParted_wsX00) ggL_law_L_isParted_wsX20)) (goodIn_sub (fun _ h => List.mem_append_right _ h) (by decide +kernel))) (goodIn_sub (fun _ h => List.mem_append_left _ (List.mem_append_right _ h)) (by decide +kernel))
set_option maxRecDepth 20000 in
theorem gL_law_L_isParted : GoodIn wsL_law (va_wsS RL 69 yL_isParted wsL_isParted) := goodIn_app (goodIn_of _ (by decide +kernel)) ggL_law_L_isParted
