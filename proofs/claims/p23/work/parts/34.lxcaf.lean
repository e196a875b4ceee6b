/-! own rows: words of the law's calls (5) -/
set_option maxRecDepth 20000 in
theorem ggL_law_L_isDone_r1 : GoodIn wsL_law wsL_isDone_r1 := goodIn_r _ [528, 529, 530, 230, 185, 231, 259, 260, 261, 6, 262, 16, 20, 28, 32, 36, 37, 263, 264, 265, 266, 267, 268, 269] (by decide +kernel) (by decide +kernel)
set_option maxRecDepth 20000 in
theorem ggL_law_L_isDone_r2 : GoodIn wsL_law wsL_isDone_r2 := goodIn_r _ [270, 271, 272, 273, 274, 275, 276, 277, 35, 278, 103, 105, 279, 168, 169, 15, 170, 49, 43, 280, 281, 282, 283, 284] (by decide +kernel) (by decide +kernel)
set_option maxRecDepth 20000 in
theorem ggL_law_L_isDone_r3 : GoodIn wsL_law wsL_isDone_r3 := goodIn_r _ [285, 286, 287, 41, 288, 289, 290, 291, 292, 136, 137, 293, 294, 295, 296, 297, 233, 234, 235, 42, 48, 110, 111, 2] (by decide +kernel) (by decide +kernel)
set_option maxRecDepth 20000 in
theorem ggL_law_L_isDone_r4 : GoodIn wsL_law wsL_isDone_r4 := goodIn_r _ [112, 113, 114, 115, 116, 117, 118, 119, 120, 121, 122, 123, 124, 125, 126, 127, 128, 129, 130, 19, 131, 132, 133, 134] (by decide +kernel) (by decide +kernel)
set_option maxRecDepth 20000 in
theorem ggL_law_L_isDone_r5 : GoodIn wsL_law wsL_isDone_r5 := goodIn_r _ [135, 54, 68, 138, 139, 140, 141, 142, 143, 144, 145, 146, 147, 148, 149, 60, 61, 150, 151, 152, 153, 55, 154, 155] (by decide +kernel) (by decide +kernel)
set_option maxRecDepth 20000 in
theorem ggL_law_L_isDone_r6 : GoodIn wsL_law wsL_isDone_r6 := goodIn_r _ [156, 157, 158, 159, 160, 161, 162, 56, 163, 164, 165, 166, 62, 167, 171, 172, 173, 174, 175, 176, 177, 178, 45, 46] (by decide +kernel) (by decide +kernel)
set_option maxRecDepth 20000 in
theorem ggL_law_L_isDone_r7 : GoodIn wsL_law wsL_isDone_r7 := goodIn_r _ [179, 180, 181, 182, 183, 184, 186, 187, 188, 189, 190, 57, 63, 191, 192, 193, 194, 58, 64, 65, 195, 196, 197, 198] (by decide +kernel) (by decide +kernel)
set_option maxRecDepth 20000 in
theorem ggL_law_L_isDone_r8 : GoodIn wsL_law wsL_isDone_r8 := goodIn_r _ [199, 200, 201, 202, 59, 66, 67, 203, 204, 205, 206, 207, 208, 209, 27, 210, 85, 86, 88, 211, 212, 213, 214, 215] (by decide +kernel) (by decide +kernel)
set_option maxRecDepth 20000 in
theorem ggL_law_L_isDone_r9 : GoodIn wsL_law wsL_isDone_r9 := goodIn_r _ [216, 87, 217, 218, 219, 220, 221, 222, 223, 31, 224, 95, 93, 225, 226, 227, 228, 94, 229, 232, 236, 237, 238, 239] (by decide +kernel) (by decide +kernel)
set_option maxRecDepth 20000 in
theorem ggL_law_L_isDone_r10 : GoodIn wsL_law wsL_isDone_r10 := goodIn_r _ [240, 241, 242, 243, 104, 244, 245, 246, 247, 102, 101, 248, 249, 250, 251, 252, 253, 254, 255, 298, 299, 300, 301, 302] (by decide +kernel) (by decide +kernel)
set_option maxRecDepth 20000 in
theorem ggL_law_L_isDone_r11 : GoodIn wsL_law wsL_isDone_r11 := goodIn_r _ [303, 304, 305, 306, 307, 308, 309, 310, 311, 312, 313, 314, 315, 316, 317, 318, 319, 47, 320, 321, 322, 323, 324, 325] (by decide +kernel) (by decide +kernel)
set_option maxRecDepth 20000 in
theorem ggL_law_L_isDone_r12 : GoodIn wsL_law wsL_isDone_r12 := goodIn_r _ [326, 327, 328, 329, 330, 331, 332, 333, 334, 335, 531, 532, 533, 534, 336, 337, 338, 339, 340, 341, 342, 343, 344, 345] (by decide +kernel) (by decide +kernel)
set_option maxRecDepth 20000 in
theorem ggL_law_L_isDone_r13 : GoodIn wsL_law wsL_isDone_r13 := goodIn_r _ [346, 347, 348, 349, 350, 351, 352, 353, 354, 355, 356, 357, 358, 359, 360, 361, 362] (by decide +kernel) (by decide +kernel)
set_option maxRecDepth 20000 in
theorem ggL_law_L_isDone_wsX60 : GoodIn wsL_law wsX60 := goodIn_r _ [536, 537, 538, 539, 540, 541, 542] (by decide +kernel) (by decide +kernel)
set_option maxRecDepth 20000 in
theorem ggL_law_L_isDone_wsX50 : GoodIn wsL_law wsX50 := goodIn_r _ [543, 544, 545, 546, 547, 548, 549, 550] (by decide +kernel) (by decide +kernel)
set_option maxRecDepth 20000 in
theorem ggL_law_L_isDone_wsX10 : GoodIn wsL_law wsX10 := goodIn_r _ [551, 552, 553, 554, 555, 556, 557, 558, 559, 560, 561, 562, 563, 564, 565] (by decide +kernel) (by decide +kernel)
set_option maxRecDepth 20000 in
theorem ggL_law_L_isDone_wsX20 : GoodIn wsL_law wsX20 := goodIn_r _ [570, 571, 572, 573, 574] (by decide +kernel) (by decide +kernel)
set_option maxRecDepth 20000 in
theorem ggL_law_L_isDone_wsX30 : GoodIn wsL_law wsX30 := goodIn_r _ [575, 576, 577] (by decide +kernel) (by decide +kernel)
set_option maxRecDepth 20000 in
theorem ggL_law_L_isDone_wsX00 : GoodIn wsL_law wsX00 := goodIn_r _ [578, 579, 580, 581, 582] (by decide +kernel) (by decide +kernel)
set_option maxRecDepth 20000 in
theorem ggL_law_L_isDone_c : GoodIn wsL_law [.codeWith yL_isDone cL_isDone 4 (some .boolean) [(16, 179, 180, 59), (16, 179, 183, 61)]] := goodIn_r _ [527] (by decide +kernel) (by decide +kernel)
set_option maxRecDepth 20000 in
theorem ggL_law_L_isDone : GoodIn wsL_law wsL_isDone := goodIn_ca (goodIn_ca (goodIn_ca (goodIn_c1 ggL_law_L_isDone_c (goodIn_app (goodIn_app (goodIn_app (goodIn_app (goodIn_app (goodIn_app (goodIn_app ggL_law_L_isDone_r1 (goodIn_app ggL_law_L_isDone_r2 (goodIn_app ggL_law_L_isDone_r3 (goodIn_app ggL_law_L_isDone_r4 (goodIn_app ggL_law_L_isDone_r5 (goodIn_app ggL_law_L_isDone_r6 (goodIn_app ggL_law_L_isDone_r7 (goodIn_app ggL_law_L_isDone_r8 (goodIn_app ggL_law_L_isDone_r9 (goodIn_app ggL_law_L_isDone_r10 (goodIn_app ggL_law_L_isDone_r11 (goodIn_app ggL_law_L_isDone_r12 ggL_law_L_isDone_r13)))))))))))) ggL_law_L_isDone_wsX60) ggL_law_L_isDone_wsX50) ggL_law_L_isDone_wsX10) ggL_law_L_isDone_wsX20) ggL_law_L_isDone_wsX30) ggL_law_L_isDone_wsX00)) (goodIn_sub (fun _ h => List.mem_append_left _ (List.mem_append_right _ h)) (by decide +kernel))) (goodIn_sub (fun _ h => List.mem_append_left _ (List.mem_append_left _ (List.mem_append_right _ h))) (by decide +kernel))) (goodIn_sub (fun _ h => List.mem_append_right _ h) (by decide +kernel))
set_option maxRecDepth 20000 in
theorem gL_law_L_isDone : GoodIn wsL_law (va_wsS RL 77 yL_isDone wsL_isDone) := goodIn_app (goodIn_of _ (by decide +kernel)) ggL_law_L_isDone
