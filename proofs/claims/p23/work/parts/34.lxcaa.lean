/-! own rows: words of the law's calls (0) -/
theorem goodIn_c1 {big b : List Cond} {c : Cond} (h1 : GoodIn big [c]) (h2 : GoodIn big b) : GoodIn big (c :: b) := fun w h => (List.mem_cons.mp h).elim (fun e => h1 w (by rw [e]; exact List.mem_cons_self)) (h2 w)
set_option maxRecDepth 20000 in
theorem ggL_law_L_net_r1 : GoodIn wsL_law wsL_net_r1 := goodIn_r _ [4, 5, 6, 7, 8, 9, 10, 11, 12, 13, 14, 15, 16, 17, 18, 19, 20, 21, 22, 23, 24, 25, 26, 27] (by decide +kernel) (by decide +kernel)
set_option maxRecDepth 20000 in
theorem ggL_law_L_net_r2 : GoodIn wsL_law wsL_net_r2 := goodIn_r _ [28, 29, 30, 31, 32, 33, 34, 35, 36, 37, 38, 39, 40, 41, 42, 43, 44, 45, 46, 47, 48, 49, 50, 51] (by decide +kernel) (by decide +kernel)
set_option maxRecDepth 20000 in
theorem ggL_law_L_net_r3 : GoodIn wsL_law wsL_net_r3 := goodIn_r _ [52, 53, 54, 55, 56, 57, 58, 59, 60, 61, 62, 63, 64, 65, 66, 67, 68, 69, 70, 71, 72, 73, 74, 75] (by decide +kernel) (by decide +kernel)
set_option maxRecDepth 20000 in
theorem ggL_law_L_net_r4 : GoodIn wsL_law wsL_net_r4 := goodIn_r _ [76, 77, 78, 79, 80, 81, 82, 83, 84, 85, 86, 87, 88, 89, 90, 91, 92, 93, 94, 95, 96, 97, 98, 99] (by decide +kernel) (by decide +kernel)
set_option maxRecDepth 20000 in
theorem ggL_law_L_net_r5 : GoodIn wsL_law wsL_net_r5 := goodIn_r _ [100, 101, 102, 103, 104, 105, 106, 107, 2, 108, 109, 110, 111, 112, 113, 114, 115, 116, 117, 118, 119, 120, 121, 122] (by decide +kernel) (by decide +kernel)
set_option maxRecDepth 20000 in
theorem ggL_law_L_net_r6 : GoodIn wsL_law wsL_net_r6 := goodIn_r _ [123, 124, 125, 126, 127, 128, 129, 130, 131, 132, 133, 134, 135, 136, 137, 138, 139, 140, 141, 142, 143, 144, 145, 146] (by decide +kernel) (by decide +kernel)
set_option maxRecDepth 20000 in
theorem ggL_law_L_net_r7 : GoodIn wsL_law wsL_net_r7 := goodIn_r _ [147, 148, 149, 150, 151, 152, 153, 154, 155, 156, 157, 158, 159, 160, 161, 162, 163, 164, 165, 166, 167, 168, 169, 170] (by decide +kernel) (by decide +kernel)
set_option maxRecDepth 20000 in
theorem ggL_law_L_net_r8 : GoodIn wsL_law wsL_net_r8 := goodIn_r _ [171, 172, 173, 174, 175, 176, 177, 178, 179, 180, 181, 182, 183, 184, 185, 186, 187, 188, 189, 190, 191, 192, 193, 194] (by decide +kernel) (by decide +kernel)
set_option maxRecDepth 20000 in
theorem ggL_law_L_net_r9 : GoodIn wsL_law wsL_net_r9 := goodIn_r _ [195, 196, 197, 198, 199, 200, 201, 202, 203, 204, 205, 206, 207, 208, 209, 210, 211, 212, 213, 214, 215, 216, 217, 218] (by decide +kernel) (by decide +kernel)
set_option maxRecDepth 20000 in
theorem ggL_law_L_net_r10 : GoodIn wsL_law wsL_net_r10 := goodIn_r _ [219, 220, 221, 222, 223, 224, 225, 226, 227, 228, 229, 230, 231, 232, 233, 234, 235, 236, 237, 238, 239, 240, 241, 242] (by decide +kernel) (by decide +kernel)
set_option maxRecDepth 20000 in
theorem ggL_law_L_net_r11 : GoodIn wsL_law wsL_net_r11 := goodIn_r _ [243, 244, 245, 246, 247, 248, 249, 250, 251, 252, 253, 254, 255, 256, 257, 258, 259, 260, 261, 262, 263, 264, 265, 266] (by decide +kernel) (by decide +kernel)
set_option maxRecDepth 20000 in
theorem ggL_law_L_net_r12 : GoodIn wsL_law wsL_net_r12 := goodIn_r _ [267, 268, 269, 270, 271, 272, 273, 274, 275, 276, 277, 278, 279, 280, 281, 282, 283, 284, 285, 286, 287, 288, 289, 290] (by decide +kernel) (by decide +kernel)
set_option maxRecDepth 20000 in
theorem ggL_law_L_net_r13 : GoodIn wsL_law wsL_net_r13 := goodIn_r _ [291, 292, 293, 294, 295, 296, 297, 298, 299, 300, 301, 302, 303, 304, 305, 306, 307, 308, 309, 310, 311, 312, 313, 314] (by decide +kernel) (by decide +kernel)
set_option maxRecDepth 20000 in
theorem ggL_law_L_net_r14 : GoodIn wsL_law wsL_net_r14 := goodIn_r _ [315, 316, 317, 318, 319, 320, 321, 322, 323, 324, 325, 326, 327, 328, 329, 330, 331, 332, 333, 334, 335, 336, 337, 338] (by decide +kernel) (by decide +kernel)
set_option maxRecDepth 20000 in
theorem ggL_law_L_net_r15 : GoodIn wsL_law wsL_net_r15 := goodIn_r _ [339, 340, 341, 342, 343, 344, 345, 346, 347, 348, 349, 350, 351, 352, 353, 354, 355, 356, 357, 358, 359, 360, 361, 362] (by decide +kernel) (by decide +kernel)
set_option maxRecDepth 20000 in
theorem ggL_law_L_net_wsX60 : GoodIn wsL_law wsX60 := goodIn_r _ [536, 537, 538, 539, 540, 541, 542] (by decide +kernel) (by decide +kernel)
set_option maxRecDepth 20000 in
theorem ggL_law_L_net_wsX50 : GoodIn wsL_law wsX50 := goodIn_r _ [543, 544, 545, 546, 547, 548, 549, 550] (by decide +kernel) (by decide +kernel)
set_option maxRecDepth 20000 in
theorem ggL_law_L_net_wsX10 : GoodIn wsL_law wsX10 := goodIn_r _ [551, 552, 553, 554, 555, 556, 557, 558, 559, 560, 561, 562, 563, 564, 565] (by decide +kernel) (by decide +kernel)
set_option maxRecDepth 20000 in
theorem ggL_law_L_net_wsX40 : GoodIn wsL_law wsX40 := goodIn_r _ [566, 567, 568, 569] (by decide +kernel) (by decide +kernel)
set_option maxRecDepth 20000 in
theorem ggL_law_L_net_wsX20 : GoodIn wsL_law wsX20 := goodIn_r _ [570, 571, 572, 573, 574] (by decide +kernel) (by decide +kernel)
set_option maxRecDepth 20000 in
theorem ggL_law_L_net_wsX30 : GoodIn wsL_law wsX30 := goodIn_r _ [575, 576, 577] (by decide +kernel) (by decide +kernel)
set_option maxRecDepth 20000 in
theorem ggL_law_L_net_wsX00 : GoodIn wsL_law wsX00 := goodIn_r _ [578, 579, 580, 581, 582] (by decide +kernel) (by decide +kernel)
set_option maxRecDepth 20000 in
theorem ggL_law_L_net_c : GoodIn wsL_law [.code yL_net cL_net 5 (some (.object "Twincuts"))] := goodIn_r _ [3] (by decide +kernel) (by decide +kernel)
set_option maxRecDepth 20000 in
theorem ggL_law_L_net : GoodIn wsL_law wsL_net := goodIn_ca (goodIn_ca (goodIn_ca (goodIn_c1 ggL_law_L_net_c (goodIn_app (goodIn_app (goodIn_app (goodIn_app (goodIn_app (goodIn_app (goodIn_app (goodIn_app ggL_law_L_net_r1 (goodIn_app ggL_law_L_net_r2 (goodIn_app ggL_law_L_net_r3 (goodIn_app ggL_law_L_net_r4 (goodIn_app ggL_law_L_net_r5 (goodIn_app ggL_law_L_net_r6 (goodIn_app ggL_law_L_net_r7 (goodIn_app ggL_law_L_net_r8 (goodIn_app ggL_law_L_net_r9 (goodIn_app ggL_law_L_net_r10 (goodIn_app ggL_law_L_net_r11 (goodIn_app ggL_law_L_net_r12 (goodIn_app ggL_law_L_net_r13 (goodIn_app ggL_law_L_net_r14 ggL_law_L_net_r15)))))))))))))) ggL_law_L_net_wsX60) ggL_law_L_net_wsX50) ggL_law_L_net_wsX10) ggL_law_L_net_wsX40) ggL_law_L_net_wsX20) ggL_law_L_net_wsX30) ggL_law_L_net_wsX00)) (goodIn_sub (fun _ h => List.mem_append_left _ (List.mem_append_left _ (List.mem_append_right _ h))) (by decide +kernel))) (goodIn_sub (fun _ h => List.mem_append_left _ (List.mem_append_right _ h)) (by decide +kernel))) (goodIn_sub (fun _ h => List.mem_append_right _ h) (by decide +kernel))
set_option maxRecDepth 20000 in
theorem gL_law_L_net : GoodIn wsL_law (va_wsS RL 66 yL_net wsL_net) := goodIn_app (goodIn_of _ (by decide +kernel)) ggL_law_L_net
