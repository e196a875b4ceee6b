/-! own rows: words of the law's calls (7) -/
set_option maxRecDepth 20000 in
theorem ggL_isParted_X6_between_r1 : GoodIn wsL_isParted wsX6_between_r1 := goodIn_r _ [6, 7, 8, 9, 10, 4, 11, 12, 13, 14, 15, 16, 17, 18, 19, 20, 21, 22, 23, 24, 25, 26, 27, 28] (by decide +kernel) (by decide +kernel)
set_option maxRecDepth 20000 in
theorem ggL_isParted_X6_between_r2 : GoodIn wsL_isParted wsX6_between_r2 := goodIn_r _ [29, 30, 31, 32, 33, 34, 35, 36, 37, 38, 39, 40, 41, 42, 43, 44, 45, 46, 47, 48, 49, 50, 51, 52] (by decide +kernel) (by decide +kernel)
set_option maxRecDepth 20000 in
theorem ggL_isParted_X6_between_r3 : GoodIn wsL_isParted wsX6_between_r3 := goodIn_r _ [53, 54, 55, 56, 57, 58, 59, 60, 61, 62, 63, 64, 65, 66, 67, 68, 69, 70, 71, 72, 73, 74, 75, 76] (by decide +kernel) (by decide +kernel)
set_option maxRecDepth 20000 in
theorem ggL_isParted_X6_between_r4 : GoodIn wsL_isParted wsX6_between_r4 := goodIn_r _ [77, 78, 79, 80, 81, 82, 83, 84, 85, 86, 87, 88, 89, 90, 91, 92, 93, 94, 95, 96, 97, 98, 99, 100] (by decide +kernel) (by decide +kernel)
set_option maxRecDepth 20000 in
theorem ggL_isParted_X6_between_r5 : GoodIn wsL_isParted wsX6_between_r5 := goodIn_r _ [101, 102, 103, 104, 105, 106, 107] (by decide +kernel) (by decide +kernel)
set_option maxRecDepth 20000 in
theorem ggL_isParted_X6_between_wsX60 : GoodIn wsL_isParted wsX60 := goodIn_r _ [170, 171, 172, 173, 174, 175, 176] (by decide +kernel) (by decide +kernel)
set_option maxRecDepth 20000 in
theorem ggL_isParted_X6_between_wsX50 : GoodIn wsL_isParted wsX50 := goodIn_r _ [177, 178, 179, 180, 181, 182, 183, 184] (by decide +kernel) (by decide +kernel)
set_option maxRecDepth 20000 in
theorem ggL_isParted_X6_between_wsX40 : GoodIn wsL_isParted wsX40 := goodIn_r _ [185, 186, 187, 188] (by decide +kernel) (by decide +kernel)
set_option maxRecDepth 20000 in
theorem ggL_isParted_X6_between_c : GoodIn wsL_isParted [.code yX6_between cX6_between 4 (some .int)] := goodIn_r _ [5] (by decide +kernel) (by decide +kernel)
set_option maxRecDepth 20000 in
theorem ggL_isParted_X6_between : GoodIn wsL_isParted wsX6_between := goodIn_ca (goodIn_ca (goodIn_c1 ggL_isParted_X6_between_c (goodIn_app (goodIn_app (goodIn_app (goodIn_app ggL_isParted_X6_between_r1 (goodIn_app ggL_isParted_X6_between_r2 (goodIn_app ggL_isParted_X6_between_r3 (goodIn_app ggL_isParted_X6_between_r4 ggL_isParted_X6_between_r5)))) ggL_isParted_X6_between_wsX60) ggL_isParted_X6_between_wsX50) ggL_isParted_X6_between_wsX40)) (goodIn_sub (fun _ h => List.mem_cons_of_mem _ (List.mem_append_left _ (List.mem_append_right _ h))) (by decide +kernel))) (goodIn_sub (fun _ h => List.mem_cons_of_mem _ (List.mem_append_right _ h)) (by decide +kernel))
set_option maxRecDepth 20000 in
theorem gL_isParted_X6_between : GoodIn wsL_isParted (wsV RL 85 RX6 yX6_between wsX6_between) := goodIn_app (goodIn_of _ (by decide +kernel)) ggL_isParted_X6_between
