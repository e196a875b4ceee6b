/-! own rows: words of the law's calls (11) -/
set_option maxRecDepth 20000 in
theorem ggL_isParted_X6_net_r1 : GoodIn wsL_isParted wsX6_net_r1 := goodIn_r _ [7, 112, 143, 113, 114, 144, 19, 20, 4, 21, 17, 18, 116, 81, 82, 83, 84, 85, 86, 145, 146, 147, 148, 149] (by decide +kernel) (by decide +kernel)
set_option maxRecDepth 20000 in
theorem ggL_isParted_X6_net_r2 : GoodIn wsL_isParted wsX6_net_r2 := goodIn_r _ [150, 151, 152, 104, 105, 56, 106, 68, 69, 153, 154, 155, 156, 157, 158, 159, 160, 62, 161, 162, 163, 164, 165, 54] (by decide +kernel) (by decide +kernel)
set_option maxRecDepth 20000 in
theorem ggL_isParted_X6_net_r3 : GoodIn wsL_isParted wsX6_net_r3 := goodIn_r _ [55, 57, 33, 34, 58, 59, 60, 61, 63, 64, 65, 66, 67, 70] (by decide +kernel) (by decide +kernel)
set_option maxRecDepth 20000 in
theorem ggL_isParted_X6_net_wsX60 : GoodIn wsL_isParted wsX60 := goodIn_r _ [170, 171, 172, 173, 174, 175, 176] (by decide +kernel) (by decide +kernel)
set_option maxRecDepth 20000 in
theorem ggL_isParted_X6_net_wsX50 : GoodIn wsL_isParted wsX50 := goodIn_r _ [177, 178, 179, 180, 181, 182, 183, 184] (by decide +kernel) (by decide +kernel)
set_option maxRecDepth 20000 in
theorem ggL_isParted_X6_net_wsX10 : GoodIn wsL_isParted wsX10 := goodIn_r _ [189, 190, 191, 192, 193, 194, 195, 196, 197, 198, 199, 200, 201, 202, 203] (by decide +kernel) (by decide +kernel)
set_option maxRecDepth 20000 in
theorem ggL_isParted_X6_net_wsX20 : GoodIn wsL_isParted wsX20 := goodIn_r _ [212, 213, 214, 215, 216] (by decide +kernel) (by decide +kernel)
set_option maxRecDepth 20000 in
theorem ggL_isParted_X6_net_wsX30 : GoodIn wsL_isParted wsX30 := goodIn_r _ [204, 205, 206] (by decide +kernel) (by decide +kernel)
set_option maxRecDepth 20000 in
theorem ggL_isParted_X6_net_wsX00 : GoodIn wsL_isParted wsX00 := goodIn_r _ [207, 208, 209, 210, 211] (by decide +kernel) (by decide +kernel)
set_option maxRecDepth 20000 in
theorem ggL_isParted_X6_net_c : GoodIn wsL_isParted [.code yX6_net cX6_net 2 (some .int)] := goodIn_r _ [142] (by decide +kernel) (by decide +kernel)
set_option maxRecDepth 20000 in
theorem ggL_isParted_X6_net : GoodIn wsL_isParted wsX6_net := goodIn_ca (goodIn_c1 ggL_isParted_X6_net_c (goodIn_app (goodIn_app (goodIn_app (goodIn_app (goodIn_app (goodIn_app (goodIn_app ggL_isParted_X6_net_r1 (goodIn_app ggL_isParted_X6_net_r2 ggL_isParted_X6_net_r3)) ggL_isParted_X6_net_wsX60) ggL_isParted_X6_net_wsX50) ggL_isParted_X6_net_wsX10) ggL_isParted_X6_net_wsX20) ggL_isParted_X6_net_wsX30) ggL_isParted_X6_net_wsX00)) (goodIn_sub (fun _ h => List.mem_cons_of_mem _ (List.mem_append_right _ h)) (by decide +kernel))
set_option maxRecDepth 20000 in
theorem gL_isParted_X6_net : GoodIn wsL_isParted (wsV RL 37 RX6 yX6_net wsX6_net) := goodIn_app (goodIn_of _ (by decide +kernel)) ggL_isParted_X6_net
