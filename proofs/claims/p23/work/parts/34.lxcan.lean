/-! own rows: words of the law's calls (13) -/
set_option maxRecDepth 20000 in
theorem ggL_areOff_X6_net_r1 : GoodIn wsL_areOff wsX6_net_r1 := goodIn_r _ [6, 7, 8, 9, 10, 11, 12, 13, 4, 14, 15, 16, 17, 18, 19, 20, 21, 22, 23, 24, 25, 26, 27, 28] (by decide +kernel) (by decide +kernel)
set_option maxRecDepth 20000 in
theorem ggL_areOff_X6_net_r2 : GoodIn wsL_areOff wsX6_net_r2 := goodIn_r _ [29, 30, 31, 32, 33, 34, 35, 36, 37, 38, 39, 40, 41, 42, 43, 44, 45, 46, 47, 48, 49, 50, 51, 52] (by decide +kernel) (by decide +kernel)
set_option maxRecDepth 20000 in
theorem ggL_areOff_X6_net_r3 : GoodIn wsL_areOff wsX6_net_r3 := goodIn_r _ [53, 54, 55, 56, 57, 58, 59, 60, 61, 62, 63, 64, 65, 66] (by decide +kernel) (by decide +kernel)
set_option maxRecDepth 20000 in
theorem ggL_areOff_X6_net_wsX60 : GoodIn wsL_areOff wsX60 := goodIn_r _ [89, 90, 91, 92, 93, 94, 95] (by decide +kernel) (by decide +kernel)
set_option maxRecDepth 20000 in
theorem ggL_areOff_X6_net_wsX50 : GoodIn wsL_areOff wsX50 := goodIn_r _ [96, 97, 98, 99, 100, 101, 102, 103] (by decide +kernel) (by decide +kernel)
set_option maxRecDepth 20000 in
theorem ggL_areOff_X6_net_wsX10 : GoodIn wsL_areOff wsX10 := goodIn_r _ [104, 105, 106, 107, 108, 109, 110, 111, 112, 113, 114, 115, 116, 117, 118] (by decide +kernel) (by decide +kernel)
set_option maxRecDepth 20000 in
theorem ggL_areOff_X6_net_wsX20 : GoodIn wsL_areOff wsX20 := goodIn_r _ [119, 120, 121, 122, 123] (by decide +kernel) (by decide +kernel)
set_option maxRecDepth 20000 in
theorem ggL_areOff_X6_net_wsX30 : GoodIn wsL_areOff wsX30 := goodIn_r _ [124, 125, 126] (by decide +kernel) (by decide +kernel)
set_option maxRecDepth 20000 in
theorem ggL_areOff_X6_net_wsX00 : GoodIn wsL_areOff wsX00 := goodIn_r _ [127, 128, 129, 130, 131] (by decide +kernel) (by decide +kernel)
set_option maxRecDepth 20000 in
theorem ggL_areOff_X6_net_c : GoodIn wsL_areOff [.code yX6_net cX6_net 2 (some .int)] := goodIn_r _ [5] (by decide +kernel) (by decide +kernel)
set_option maxRecDepth 20000 in
theorem ggL_areOff_X6_net : GoodIn wsL_areOff wsX6_net := goodIn_ca (goodIn_c1 ggL_areOff_X6_net_c (goodIn_app (goodIn_app (goodIn_app (goodIn_app (goodIn_app (goodIn_app (goodIn_app ggL_areOff_X6_net_r1 (goodIn_app ggL_areOff_X6_net_r2 ggL_areOff_X6_net_r3)) ggL_areOff_X6_net_wsX60) ggL_areOff_X6_net_wsX50) ggL_areOff_X6_net_wsX10) ggL_areOff_X6_net_wsX20) ggL_areOff_X6_net_wsX30) ggL_areOff_X6_net_wsX00)) (goodIn_sub (fun _ h => List.mem_cons_of_mem _ (List.mem_append_left _ (List.mem_append_right _ h))) (by decide +kernel))
set_option maxRecDepth 20000 in
theorem gL_areOff_X6_net : GoodIn wsL_areOff (wsV RL 37 RX6 yX6_net wsX6_net) := goodIn_app (goodIn_of _ (by decide +kernel)) ggL_areOff_X6_net
