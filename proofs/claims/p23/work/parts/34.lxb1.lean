/-! own rows: the law and its helpers: instructions, words (11) -/
set_option maxRecDepth 20000 in
theorem ggL_turned_X6_net : GoodIn wsL_turned wsX6_net := goodIn_ca (goodIn_r _ [5, 6, 7, 8, 9, 10, 11, 12, 13, 4, 14, 15, 16, 17, 18, 19, 20, 21, 22, 23, 24, 25, 26, 27, 28, 29, 30, 31, 32, 33, 34, 35, 36, 37, 38, 39, 40, 41, 42, 43, 44, 45, 46, 47, 48, 49, 50, 51, 52, 53, 54, 55, 56, 57, 58, 59, 60, 61, 62, 63, 64, 65, 66, 125, 126, 127, 128, 129, 130, 131, 132, 133, 134, 135, 136, 137, 138, 139, 140, 141, 142, 143, 144, 145, 146, 147, 148, 149, 150, 151, 152, 153, 154, 155, 156, 157, 158, 159, 160, 161, 162, 163, 164, 165, 166, 167] (by decide +kernel) (by decide +kernel)) (goodIn_sub (fun _ h => List.mem_cons_of_mem _ (List.mem_append_left _ (List.mem_append_right _ h))) (by decide +kernel))
set_option maxRecDepth 20000 in
theorem gL_turned_X6_net : GoodIn wsL_turned (wsV RL 37 RX6 yX6_net wsX6_net) := goodIn_app (goodIn_of _ (by decide +kernel)) ggL_turned_X6_net
set_option maxRecDepth 20000 in
theorem ggL_turned_L_below : GoodIn wsL_turned wsL_below := goodIn_r _ [70, 71] (by decide +kernel) (by decide +kernel)
set_option maxRecDepth 20000 in
theorem gL_turned_L_below : GoodIn wsL_turned (va_wsS RL 18 yL_below wsL_below) := goodIn_app (goodIn_of _ (by decide +kernel)) ggL_turned_L_below
set_option maxRecDepth 20000 in
theorem ggL_turned_X6_ofPoint : GoodIn wsL_turned wsX6_ofPoint := goodIn_ca (goodIn_ca (goodIn_r _ [75, 7, 6, 9, 10, 76, 77, 78, 4, 79, 80, 81, 12, 13, 14, 15, 16, 82, 32, 33, 34, 35, 36, 37, 17, 18, 19, 20, 21, 22, 23, 83, 55, 56, 84, 85, 86, 87, 88, 89, 90, 91, 92, 93, 62, 63, 64, 65, 66, 125, 126, 127, 128, 129, 130, 131, 140, 141, 142, 143, 144, 145, 146, 147, 148, 149, 150, 151, 152, 153, 154, 160, 161, 162, 163, 164, 165, 166, 167, 132, 133, 134, 135, 136, 137, 138, 139] (by decide +kernel) (by decide +kernel)) (goodIn_sub (fun _ h => List.mem_cons_of_mem _ (List.mem_append_right _ h)) (by decide +kernel))) (goodIn_sub (fun _ h => List.mem_cons_of_mem _ (List.mem_append_left _ (List.mem_append_right _ h))) (by decide +kernel))
set_option maxRecDepth 20000 in
theorem gL_turned_X6_ofPoint : GoodIn wsL_turned (wsV RL 45 RX6 yX6_ofPoint wsX6_ofPoint) := goodIn_app (goodIn_of _ (by decide +kernel)) ggL_turned_X6_ofPoint
set_option maxRecDepth 20000 in
theorem ggL_turned_X6_turn : GoodIn wsL_turned wsX6_turn := goodIn_ca (goodIn_r _ [97, 10, 76, 77, 78, 4, 79, 80, 81, 6, 98, 99, 100, 101, 102, 103, 104, 27, 105, 106, 107, 108, 109, 110, 111, 112, 113, 114, 115, 29, 116, 30, 55, 56, 117, 118, 119, 120, 121, 122, 123, 124, 24, 25, 26, 28, 31, 32, 33, 34, 35, 36, 37, 125, 126, 127, 128, 129, 130, 131, 132, 133, 134, 135, 136, 137, 138, 139, 163, 164, 165, 166, 167] (by decide +kernel) (by decide +kernel)) (goodIn_sub (fun _ h => List.mem_cons_of_mem _ (List.mem_append_right _ h)) (by decide +kernel))
set_option maxRecDepth 20000 in
theorem gL_turned_X6_turn : GoodIn wsL_turned (wsV RL 48 RX6 yX6_turn wsX6_turn) := goodIn_app (goodIn_of _ (by decide +kernel)) ggL_turned_X6_turn
