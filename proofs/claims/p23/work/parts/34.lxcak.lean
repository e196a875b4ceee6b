/-! own rows: words of the law's calls (10) -/
set_option maxRecDepth 20000 in
theorem ggL_isParted_X6_without : GoodIn wsL_isParted wsX6_without := goodIn_ca (goodIn_r _ [132, 17, 18, 7, 133, 77, 78, 56, 79, 62, 134, 135, 136, 137, 33, 4, 34, 138, 92, 93, 94, 67, 70, 170, 171, 172, 173, 174, 175, 176, 177, 178, 179, 180, 181, 182, 183, 184] (by decide +kernel) (by decide +kernel)) (goodIn_sub (fun _ h => List.mem_cons_of_mem _ (List.mem_append_right _ h)) (by decide +kernel))
set_option maxRecDepth 20000 in
theorem gL_isParted_X6_without : GoodIn wsL_isParted (wsV RL 93 RX6 yX6_without wsX6_without) := goodIn_app (goodIn_of _ (by decide +kernel)) ggL_isParted_X6_without
