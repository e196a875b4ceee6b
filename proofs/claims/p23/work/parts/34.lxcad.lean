/-! own rows: words of the law's calls (3) -/
set_option maxRecDepth 20000 in
theorem ggL_law_X6_digest_r1 : GoodIn wsL_law wsX6_digest_r1 := goodIn_r _ [431, 16, 20, 432, 260, 261, 6, 262, 28, 32, 36, 37, 263, 264, 265, 266, 267, 268, 269, 270, 271, 272, 273, 274] (by decide +kernel) (by decide +kernel)
set_option maxRecDepth 20000 in
theorem ggL_law_X6_digest_r2 : GoodIn wsL_law wsX6_digest_r2 := goodIn_r _ [275, 276, 277, 35, 278, 103, 105, 279, 168, 169, 15, 170, 49, 43, 280, 281, 282, 283, 284, 285, 286, 287, 41, 288] (by decide +kernel) (by decide +kernel)
set_option maxRecDepth 20000 in
theorem ggL_law_X6_digest_r3 : GoodIn wsL_law wsX6_digest_r3 := goodIn_r _ [230, 185, 231, 289, 290, 291, 292, 136, 137, 293, 294, 295, 296, 297, 233, 234, 235, 42, 48, 433, 434, 435, 436, 437] (by decide +kernel) (by decide +kernel)
set_option maxRecDepth 20000 in
theorem ggL_law_X6_digest_r4 : GoodIn wsL_law wsX6_digest_r4 := goodIn_r _ [438, 439, 440, 441, 340, 341, 342, 304, 305, 306, 307, 308, 309, 343, 344, 345, 346, 347, 19, 348, 68, 63, 167, 349] (by decide +kernel) (by decide +kernel)
set_option maxRecDepth 20000 in
theorem ggL_law_X6_digest_r5 : GoodIn wsL_law wsX6_digest_r5 := goodIn_r _ [350, 442, 443, 444, 445, 446, 447, 448, 449, 102, 450, 451, 360, 361, 362, 101, 252, 253, 254, 255, 452, 241, 242, 243] (by decide +kernel) (by decide +kernel)
set_option maxRecDepth 20000 in
theorem ggL_law_X6_digest_r6 : GoodIn wsL_law wsX6_digest_r6 := goodIn_r _ [104, 244, 245, 246, 247, 248, 249, 250, 251, 453, 367, 368, 369, 24, 310, 311, 312, 370, 371, 372, 23, 373, 77, 74] (by decide +kernel) (by decide +kernel)
set_option maxRecDepth 20000 in
theorem ggL_law_X6_digest_r7 : GoodIn wsL_law wsX6_digest_r7 := goodIn_r _ [374, 375, 376, 377, 378, 379, 380, 381, 382, 383, 384, 385, 75, 76, 386, 387, 388, 389, 390, 391, 392, 393, 394, 395] (by decide +kernel) (by decide +kernel)
set_option maxRecDepth 20000 in
theorem ggL_law_X6_digest_r8 : GoodIn wsL_law wsX6_digest_r8 := goodIn_r _ [396, 397, 398, 399, 400, 139, 140, 141, 401, 402, 403, 404, 405, 406, 143, 144, 145, 407, 408, 409, 410, 411, 412, 413] (by decide +kernel) (by decide +kernel)
set_option maxRecDepth 20000 in
theorem ggL_law_X6_digest_r9 : GoodIn wsL_law wsX6_digest_r9 := goodIn_r _ [414, 415, 416, 454, 455, 456, 457, 328, 329, 330, 331, 458, 459, 460, 461, 462, 463, 464, 465, 466, 467, 468, 58, 65] (by decide +kernel) (by decide +kernel)
set_option maxRecDepth 20000 in
theorem ggL_law_X6_digest_r10 : GoodIn wsL_law wsX6_digest_r10 := goodIn_r _ [64, 469, 470, 471, 472, 473, 474, 475, 476, 59, 67, 66, 477, 478, 479, 480, 481, 482, 483, 27, 484, 485, 486, 487] (by decide +kernel) (by decide +kernel)
set_option maxRecDepth 20000 in
theorem ggL_law_X6_digest_r11 : GoodIn wsL_law wsX6_digest_r11 := goodIn_r _ [488, 84, 88, 489, 490, 491, 492, 493, 494, 495, 496, 497, 498, 499, 500, 501, 502, 503, 504, 505, 506, 507, 508, 509] (by decide +kernel) (by decide +kernel)
set_option maxRecDepth 20000 in
theorem ggL_law_X6_digest_r12 : GoodIn wsL_law wsX6_digest_r12 := goodIn_r _ [510, 511, 512, 513, 514, 515, 516, 517, 518, 519, 520, 521, 522, 523, 524] (by decide +kernel) (by decide +kernel)
set_option maxRecDepth 20000 in
theorem ggL_law_X6_digest_wsX60 : GoodIn wsL_law wsX60 := goodIn_r _ [536, 537, 538, 539, 540, 541, 542] (by decide +kernel) (by decide +kernel)
set_option maxRecDepth 20000 in
theorem ggL_law_X6_digest_wsX50 : GoodIn wsL_law wsX50 := goodIn_r _ [543, 544, 545, 546, 547, 548, 549, 550] (by decide +kernel) (by decide +kernel)
set_option maxRecDepth 20000 in
theorem ggL_law_X6_digest_wsX10 : GoodIn wsL_law wsX10 := goodIn_r _ [551, 552, 553, 554, 555, 556, 557, 558, 559, 560, 561, 562, 563, 564, 565] (by decide +kernel) (by decide +kernel)
set_option maxRecDepth 20000 in
theorem ggL_law_X6_digest_wsX20 : GoodIn wsL_law wsX20 := goodIn_r _ [570, 571, 572, 573, 574] (by decide +kernel) (by decide +kernel)
set_option maxRecDepth 20000 in
theorem ggL_law_X6_digest_wsX30 : GoodIn wsL_law wsX30 := goodIn_r _ [575, 576, 577] (by decide +kernel) (by decide +kernel)
set_option maxRecDepth 20000 in
theorem ggL_law_X6_digest_wsX00 : GoodIn wsL_law wsX00 := goodIn_r _ [578, 579, 580, 581, 582] (by decide +kernel) (by decide +kernel)
set_option maxRecDepth 20000 in
theorem ggL_law_X6_digest_wsX40 : GoodIn wsL_law wsX40 := goodIn_r _ [566, 567, 568, 569] (by decide +kernel) (by decide +kernel)
set_option maxRecDepth 20000 in
theorem ggL_law_X6_digest_c : GoodIn wsL_law [.code yX6_digest cX6_digest 5 (some .long)] := goodIn_r _ [430] (by decide +kernel) (by decide +kernel)
set_option maxRecDepth 20000 in
theorem ggL_law_X6_digest : GoodIn wsL_law wsX6_digest := goodIn_ca (goodIn_ca (goodIn_c1 ggL_law_X6_digest_c (goodIn_app (goodIn_app (goodIn_app (goodIn_app (goodIn_app (goodIn_app (goodIn_app (goodIn_app ggL_law_X6_digest_r1 (goodIn_app ggL_law_X6_digest_r2 (goodIn_app ggL_law_X6_digest_r3 (goodIn_app ggL_law_X6_digest_r4 (goodIn_app ggL_law_X6_digest_r5 (goodIn_app ggL_law_X6_digest_r6 (goodIn_app ggL_law_X6_digest_r7 (goodIn_app ggL_law_X6_digest_r8 (goodIn_app ggL_law_X6_digest_r9 (goodIn_app ggL_law_X6_digest_r10 (goodIn_app ggL_law_X6_digest_r11 ggL_law_X6_digest_r12))))))))))) ggL_law_X6_digest_wsX60) ggL_law_X6_digest_wsX50) ggL_law_X6_digest_wsX10) ggL_law_X6_digest_wsX20) ggL_law_X6_digest_wsX30) ggL_law_X6_digest_wsX00) ggL_law_X6_digest_wsX40)) (goodIn_sub (fun _ h => List.mem_append_left _ (List.mem_append_right _ h)) (by decide +kernel))) (goodIn_sub (fun _ h => List.mem_append_right _ h) (by decide +kernel))
set_option maxRecDepth 20000 in
theorem gL_law_X6_digest : GoodIn wsL_law (wsV RL 73 RX6 yX6_digest wsX6_digest) := goodIn_app (goodIn_of _ (by decide +kernel)) ggL_law_X6_digest
