/-! own rows: words of the law's calls (14) -/
set_option maxRecDepth 20000 in
theorem ggL_areOff_X6_ofPoint_r1 : GoodIn wsL_areOff wsX6_ofPoint_r1 := goodIn_r _ [7, 6, 9, 10, 71, 72, 73, 4, 74, 75, 76, 12, 13, 14, 15, 16, 77, 32, 33, 34, 35, 36, 37, 17] (by decide +kernel) (by decide +kernel)
set_option maxRecDepth 20000 in
theorem ggL_areOff_X6_ofPoint_r2 : GoodIn wsL_areOff wsX6_ofPoint_r2 := goodIn_r _ [18, 19, 20, 21, 22, 23, 78, 55, 56, 79, 80, 81, 82, 83, 84, 85, 86, 87, 88, 62, 63, 64, 65, 66] (by decide +kernel) (by decide +kernel)
set_option maxRecDepth 20000 in
theorem ggL_areOff_X6_ofPoint_wsX60 : GoodIn wsL_areOff wsX60 := goodIn_r _ [89, 90, 91, 92, 93, 94, 95] (by decide +kernel) (by decide +kernel)
set_option maxRecDepth 20000 in
theorem ggL_areOff_X6_ofPoint_wsX10 : GoodIn wsL_areOff wsX10 := goodIn_r _ [104, 105, 106, 107, 108, 109, 110, 111, 112, 113, 114, 115, 116, 117, 118] (by decide +kernel) (by decide +kernel)
set_option maxRecDepth 20000 in
theorem ggL_areOff_X6_ofPoint_wsX30 : GoodIn wsL_areOff wsX30 := goodIn_r _ [124, 125, 126] (by decide +kernel) (by decide +kernel)
set_option maxRecDepth 20000 in
theorem ggL_areOff_X6_ofPoint_wsX00 : GoodIn wsL_areOff wsX00 := goodIn_r _ [127, 128, 129, 130, 131] (by decide +kernel) (by decide +kernel)
set_option maxRecDepth 20000 in
theorem ggL_areOff_X6_ofPoint_wsX50 : GoodIn wsL_areOff wsX50 := goodIn_r _ [96, 97, 98, 99, 100, 101, 102, 103] (by decide +kernel) (by decide +kernel)
set_option maxRecDepth 20000 in
theorem ggL_areOff_X6_ofPoint_c : GoodIn wsL_areOff [.code yX6_ofPoint cX6_ofPoint 3 (some .int)] := goodIn_r _ [70] (by decide +kernel) (by decide +kernel)
set_option maxRecDepth 20000 in
theorem ggL_areOff_X6_ofPoint : GoodIn wsL_areOff wsX6_ofPoint := goodIn_ca (goodIn_ca (goodIn_c1 ggL_areOff_X6_ofPoint_c (goodIn_app (goodIn_app (goodIn_app (goodIn_app (goodIn_app (goodIn_app ggL_areOff_X6_ofPoint_r1 ggL_areOff_X6_ofPoint_r2) ggL_areOff_X6_ofPoint_wsX60) ggL_areOff_X6_ofPoint_wsX10) ggL_areOff_X6_ofPoint_wsX30) ggL_areOff_X6_ofPoint_wsX00) ggL_areOff_X6_ofPoint_wsX50)) (goodIn_sub (fun _ h => List.mem_cons_of_mem _ (List.mem_append_right _ h)) (by decide +kernel))) (goodIn_sub (fun _ h => List.mem_cons_of_mem _ (List.mem_append_left _ (List.mem_append_right _ h))) (by decide +kernel))
set_option maxRecDepth 20000 in
theorem gL_areOff_X6_ofPoint : GoodIn wsL_areOff (wsV RL 45 RX6 yX6_ofPoint wsX6_ofPoint) := goodIn_app (goodIn_of _ (by decide +kernel)) ggL_areOff_X6_ofPoint
