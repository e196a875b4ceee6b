/-! own rows: words of the law's calls (6) -/
set_option maxRecDepth 20000 in
theorem ggL_law_X6_isSound_r1 : GoodIn wsL_law wsX6_isSound_r1 := goodIn_r _ [501, 502, 503, 6, 504, 16, 505, 506, 507, 508, 24, 370, 371, 372, 23, 373, 77, 74, 374, 375, 376, 377, 136, 137] (by decide +kernel) (by decide +kernel)
set_option maxRecDepth 20000 in
theorem ggL_law_X6_isSound_r2 : GoodIn wsL_law wsX6_isSound_r2 := goodIn_r _ [378, 379, 380, 381, 382, 383, 384, 385, 75, 76, 386, 387, 388, 389, 390, 391, 392, 393, 395, 396, 397, 398, 399, 233] (by decide +kernel) (by decide +kernel)
set_option maxRecDepth 20000 in
theorem ggL_law_X6_isSound_r3 : GoodIn wsL_law wsX6_isSound_r3 := goodIn_r _ [234, 15, 235, 42, 49, 43, 48, 400, 139, 140, 141, 41, 401, 269, 270, 271, 272, 273, 274, 402, 403, 404, 405, 406] (by decide +kernel) (by decide +kernel)
set_option maxRecDepth 20000 in
theorem ggL_law_X6_isSound_r4 : GoodIn wsL_law wsX6_isSound_r4 := goodIn_r _ [143, 144, 145, 268, 407, 408, 409, 410, 411, 412, 413, 414, 415, 168, 169, 170, 416, 280, 281, 282, 283, 20, 36, 275] (by decide +kernel) (by decide +kernel)
set_option maxRecDepth 20000 in
theorem ggL_law_X6_isSound_r5 : GoodIn wsL_law wsX6_isSound_r5 := goodIn_r _ [276, 277, 35, 278, 103, 105, 279, 509, 510, 511, 512, 28, 481, 482, 483, 27, 484, 485, 486, 487, 488, 84, 88, 489] (by decide +kernel) (by decide +kernel)
set_option maxRecDepth 20000 in
theorem ggL_law_X6_isSound_r6 : GoodIn wsL_law wsX6_isSound_r6 := goodIn_r _ [490, 491, 492, 493, 494, 495, 496, 513, 514, 515, 516, 32, 344, 517, 518, 519, 520, 521, 522, 523, 19, 524, 68, 63] (by decide +kernel) (by decide +kernel)
set_option maxRecDepth 20000 in
theorem ggL_law_X6_isSound_wsX60 : GoodIn wsL_law wsX60 := goodIn_r _ [536, 537, 538, 539, 540, 541, 542] (by decide +kernel) (by decide +kernel)
set_option maxRecDepth 20000 in
theorem ggL_law_X6_isSound_wsX50 : GoodIn wsL_law wsX50 := goodIn_r _ [543, 544, 545, 546, 547, 548, 549, 550] (by decide +kernel) (by decide +kernel)
set_option maxRecDepth 20000 in
theorem ggL_law_X6_isSound_wsX40 : GoodIn wsL_law wsX40 := goodIn_r _ [566, 567, 568, 569] (by decide +kernel) (by decide +kernel)
set_option maxRecDepth 20000 in
theorem ggL_law_X6_isSound_wsX10 : GoodIn wsL_law wsX10 := goodIn_r _ [551, 552, 553, 554, 555, 556, 557, 558, 559, 560, 561, 562, 563, 564, 565] (by decide +kernel) (by decide +kernel)
set_option maxRecDepth 20000 in
theorem ggL_law_X6_isSound_wsX00 : GoodIn wsL_law wsX00 := goodIn_r _ [578, 579, 580, 581, 582] (by decide +kernel) (by decide +kernel)
set_option maxRecDepth 20000 in
theorem ggL_law_X6_isSound_wsX20 : GoodIn wsL_law wsX20 := goodIn_r _ [570, 571, 572, 573, 574] (by decide +kernel) (by decide +kernel)
set_option maxRecDepth 20000 in
theorem ggL_law_X6_isSound_wsX30 : GoodIn wsL_law wsX30 := goodIn_r _ [575, 576, 577] (by decide +kernel) (by decide +kernel)
set_option maxRecDepth 20000 in
theorem ggL_law_X6_isSound_c : GoodIn wsL_law [.code yX6_isSound cX6_isSound 1 (some .boolean)] := goodIn_r _ [500] (by decide +kernel) (by decide +kernel)
set_option maxRecDepth 20000 in
theorem ggL_law_X6_isSound : GoodIn wsL_law wsX6_isSound := goodIn_c1 ggL_law_X6_isSound_c (goodIn_app (goodIn_app (goodIn_app (goodIn_app (goodIn_app (goodIn_app (goodIn_app (goodIn_app ggL_law_X6_isSound_r1 (goodIn_app ggL_law_X6_isSound_r2 (goodIn_app ggL_law_X6_isSound_r3 (goodIn_app ggL_law_X6_isSound_r4 (goodIn_app ggL_law_X6_isSound_r5 ggL_law_X6_isSound_r6))))) ggL_law_X6_isSound_wsX60) ggL_law_X6_isSound_wsX50) ggL_law_X6_isSound_wsX40) ggL_law_X6_isSound_wsX10) ggL_law_X6_isSound_wsX00) ggL_law_X6_isSound_wsX20) ggL_law_X6_isSound_wsX30)
set_option maxRecDepth 20000 in
theorem gL_law_X6_isSound : GoodIn wsL_law (wsV RL 81 RX6 yX6_isSound wsX6_isSound) := goodIn_app (goodIn_of _ (by decide +kernel)) ggL_law_X6_isSound
