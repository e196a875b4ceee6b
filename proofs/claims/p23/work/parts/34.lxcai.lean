/-! own rows: words of the law's calls (8) -/
set_option maxRecDepth 20000 in
theorem ggL_isParted_X6_ofPoint_r1 : GoodIn wsL_isParted wsX6_ofPoint_r1 := goodIn_r _ [112, 7, 113, 114, 8, 9, 10, 4, 11, 12, 13, 19, 20, 21, 17, 18, 115, 104, 105, 56, 106, 68, 69, 116] (by decide +kernel) (by decide +kernel)
set_option maxRecDepth 20000 in
theorem ggL_isParted_X6_ofPoint_r2 : GoodIn wsL_isParted wsX6_ofPoint_r2 := goodIn_r _ [81, 82, 83, 84, 85, 86, 117, 33, 34, 118, 119, 120, 121, 122, 123, 124, 125, 126, 127, 64, 65, 66, 67, 70] (by decide +kernel) (by decide +kernel)
set_option maxRecDepth 20000 in
theorem ggL_isParted_X6_ofPoint_wsX60 : GoodIn wsL_isParted wsX60 := goodIn_r _ [170, 171, 172, 173, 174, 175, 176] (by decide +kernel) (by decide +kernel)
set_option maxRecDepth 20000 in
theorem ggL_isParted_X6_ofPoint_wsX10 : GoodIn wsL_isParted wsX10 := goodIn_r _ [189, 190, 191, 192, 193, 194, 195, 196, 197, 198, 199, 200, 201, 202, 203] (by decide +kernel) (by decide +kernel)
set_option maxRecDepth 20000 in
theorem ggL_isParted_X6_ofPoint_wsX30 : GoodIn wsL_isParted wsX30 := goodIn_r _ [204, 205, 206] (by decide +kernel) (by decide +kernel)
set_option maxRecDepth 20000 in
theorem ggL_isParted_X6_ofPoint_wsX00 : GoodIn wsL_isParted wsX00 := goodIn_r _ [207, 208, 209, 210, 211] (by decide +kernel) (by decide +kernel)
set_option maxRecDepth 20000 in
theorem ggL_isParted_X6_ofPoint_wsX50 : GoodIn wsL_isParted wsX50 := goodIn_r _ [177, 178, 179, 180, 181, 182, 183, 184] (by decide +kernel) (by decide +kernel)
set_option maxRecDepth 20000 in
theorem ggL_isParted_X6_ofPoint_c : GoodIn wsL_isParted [.code yX6_ofPoint cX6_ofPoint 3 (some .int)] := goodIn_r _ [111] (by decide +kernel) (by decide +kernel)
set_option maxRecDepth 20000 in
theorem ggL_isParted_X6_ofPoint : GoodIn wsL_isParted wsX6_ofPoint := goodIn_ca (goodIn_ca (goodIn_c1 ggL_isParted_X6_ofPoint_c (goodIn_app (goodIn_app (goodIn_app (goodIn_app (goodIn_app (goodIn_app ggL_isParted_X6_ofPoint_r1 ggL_isParted_X6_ofPoint_r2) ggL_isParted_X6_ofPoint_wsX60) ggL_isParted_X6_ofPoint_wsX10) ggL_isParted_X6_ofPoint_wsX30) ggL_isParted_X6_ofPoint_wsX00) ggL_isParted_X6_ofPoint_wsX50)) (goodIn_sub (fun _ h => List.mem_cons_of_mem _ (List.mem_append_left _ (List.mem_append_right _ h))) (by decide +kernel))) (goodIn_sub (fun _ h => List.mem_cons_of_mem _ (List.mem_append_right _ h)) (by decide +kernel))
set_option maxRecDepth 20000 in
theorem gL_isParted_X6_ofPoint : GoodIn wsL_isParted (wsV RL 45 RX6 yX6_ofPoint wsX6_ofPoint) := goodIn_app (goodIn_of _ (by decide +kernel)) ggL_isParted_X6_ofPoint
