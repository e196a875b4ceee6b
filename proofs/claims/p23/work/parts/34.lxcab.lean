/-! own rows: words of the law's calls (1) -/
set_option maxRecDepth 20000 in
theorem ggL_law_X6_net_r1 : GoodIn wsL_law wsX6_net_r1 := goodIn_r _ [16, 20, 28, 32, 36, 37, 263, 264, 6, 265, 266, 267, 268, 269, 270, 271, 272, 273, 274, 275, 276, 277, 35, 278] (by decide +kernel) (by decide +kernel)
set_option maxRecDepth 20000 in
theorem ggL_law_X6_net_r2 : GoodIn wsL_law wsX6_net_r2 := goodIn_r _ [103, 105, 279, 168, 169, 15, 170, 49, 43, 280, 281, 282, 283, 284, 285, 286, 287, 41, 288, 230, 185, 231, 289, 290] (by decide +kernel) (by decide +kernel)
set_option maxRecDepth 20000 in
theorem ggL_law_X6_net_r3 : GoodIn wsL_law wsX6_net_r3 := goodIn_r _ [291, 292, 136, 137, 293, 294, 295, 296, 297, 233, 234, 235, 42, 48] (by decide +kernel) (by decide +kernel)
set_option maxRecDepth 20000 in
theorem ggL_law_X6_net_wsX60 : GoodIn wsL_law wsX60 := goodIn_r _ [536, 537, 538, 539, 540, 541, 542] (by decide +kernel) (by decide +kernel)
set_option maxRecDepth 20000 in
theorem ggL_law_X6_net_wsX50 : GoodIn wsL_law wsX50 := goodIn_r _ [543, 544, 545, 546, 547, 548, 549, 550] (by decide +kernel) (by decide +kernel)
set_option maxRecDepth 20000 in
theorem ggL_law_X6_net_wsX10 : GoodIn wsL_law wsX10 := goodIn_r _ [551, 552, 553, 554, 555, 556, 557, 558, 559, 560, 561, 562, 563, 564, 565] (by decide +kernel) (by decide +kernel)
set_option maxRecDepth 20000 in
theorem ggL_law_X6_net_wsX20 : GoodIn wsL_law wsX20 := goodIn_r _ [570, 571, 572, 573, 574] (by decide +kernel) (by decide +kernel)
set_option maxRecDepth 20000 in
theorem ggL_law_X6_net_wsX30 : GoodIn wsL_law wsX30 := goodIn_r _ [575, 576, 577] (by decide +kernel) (by decide +kernel)
set_option maxRecDepth 20000 in
theorem ggL_law_X6_net_wsX00 : GoodIn wsL_law wsX00 := goodIn_r _ [578, 579, 580, 581, 582] (by decide +kernel) (by decide +kernel)
set_option maxRecDepth 20000 in
theorem ggL_law_X6_net_c : GoodIn wsL_law [.code yX6_net cX6_net 2 (some .int)] := goodIn_r _ [262] (by decide +kernel) (by decide +kernel)
set_option maxRecDepth 20000 in
theorem ggL_law_X6_net : GoodIn wsL_law wsX6_net := goodIn_ca (goodIn_c1 ggL_law_X6_net_c (goodIn_app (goodIn_app (goodIn_app (goodIn_app (goodIn_app (goodIn_app (goodIn_app ggL_law_X6_net_r1 (goodIn_app ggL_law_X6_net_r2 ggL_law_X6_net_r3)) ggL_law_X6_net_wsX60) ggL_law_X6_net_wsX50) ggL_law_X6_net_wsX10) ggL_law_X6_net_wsX20) ggL_law_X6_net_wsX30) ggL_law_X6_net_wsX00)) (goodIn_sub (fun _ h => List.mem_append_left _ (List.mem_append_right _ h)) (by decide +kernel))
set_option maxRecDepth 20000 in
theorem gL_law_X6_net : GoodIn wsL_law (wsV RL 37 RX6 yX6_net wsX6_net) := goodIn_app (goodIn_of _ (by decide +kernel)) ggL_law_X6_net
