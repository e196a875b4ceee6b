/-! own rows: the law and its helpers: instructions, words (20) -/
set_option maxRecDepth 20000 in
theorem ggL_isParted_J6_bitCount_0f7a4 : GoodIn wsL_isParted wsJ6_bitCount_0f7a4 := goodIn_r _ [83, 84, 85, 86] (by decide +kernel) (by decide +kernel)
set_option maxRecDepth 20000 in
theorem gL_isParted_J6_bitCount_0f7a4 : GoodIn wsL_isParted (va_wsS RL 88 yJ6_bitCount_0f7a4 wsJ6_bitCount_0f7a4) := goodIn_app (goodIn_of _ (by decide +kernel)) ggL_isParted_J6_bitCount_0f7a4
set_option maxRecDepth 20000 in
theorem ggL_isParted_X6_without : GoodIn wsL_isParted wsX6_without := goodIn_ca (goodIn_r _ [132, 17, 18, 7, 133, 77, 78, 56, 79, 62, 134, 135, 136, 137, 33, 4, 34, 138, 92, 93, 94, 67, 70, 170, 171, 172, 173, 174, 175, 176, 177, 178, 179, 180, 181, 182, 183, 184] (by decide +kernel) (by decide +kernel)) (goodIn_sub (fun _ h => List.mem_cons_of_mem _ (List.mem_append_right _ h)) (by decide +kernel))
set_option maxRecDepth 20000 in
theorem gL_isParted_X6_without : GoodIn wsL_isParted (wsV RL 93 RX6 yX6_without wsX6_without) := goodIn_app (goodIn_of _ (by decide +kernel)) ggL_isParted_X6_without
set_option maxRecDepth 20000 in
theorem ggL_isParted_X6_net : GoodIn wsL_isParted wsX6_net := goodIn_ca (goodIn_r _ [142, 7, 112, 143, 113, 114, 144, 19, 20, 4, 21, 17, 18, 116, 81, 82, 83, 84, 85, 86, 145, 146, 147, 148, 149, 150, 151, 152, 104, 105, 56, 106, 68, 69, 153, 154, 155, 156, 157, 158, 159, 160, 62, 161, 162, 163, 164, 165, 54, 55, 57, 33, 34, 58, 59, 60, 61, 63, 64, 65, 66, 67, 70, 170, 171, 172, 173, 174, 175, 176, 177, 178, 179, 180, 181, 182, 183, 184, 189, 190, 191, 192, 193, 194, 195, 196, 197, 198, 199, 200, 201, 202, 203, 212, 213, 214, 215, 216, 204, 205, 206, 207, 208, 209, 210, 211] (by decide +kernel) (by decide +kernel)) (goodIn_sub (fun _ h => List.mem_cons_of_mem _ (List.mem_append_right _ h)) (by decide +kernel))
set_option maxRecDepth 20000 in
theorem gL_isParted_X6_net : GoodIn wsL_isParted (wsV RL 37 RX6 yX6_net wsX6_net) := goodIn_app (goodIn_of _ (by decide +kernel)) ggL_isParted_X6_net
set_option maxRecDepth 20000 in
theorem ggL_isParted_L_areOff : GoodIn wsL_isParted wsL_areOff := goodIn_ca (goodIn_ca (goodIn_r _ [169, 139, 140, 141, 4, 142, 7, 112, 143, 113, 114, 144, 19, 20, 21, 17, 18, 116, 81, 82, 83, 84, 85, 86, 145, 146, 147, 148, 149, 150, 151, 152, 104, 105, 56, 106, 68, 69, 153, 154, 155, 156, 157, 158, 159, 160, 62, 161, 162, 163, 164, 165, 54, 55, 57, 33, 34, 58, 59, 60, 61, 63, 64, 65, 66, 67, 70, 108, 109, 110, 111, 8, 9, 10, 11, 12, 13, 115, 117, 118, 119, 120, 121, 122, 123, 124, 125, 126, 127, 170, 171, 172, 173, 174, 175, 176, 177, 178, 179, 180, 181, 182, 183, 184, 189, 190, 191, 192, 193, 194, 195, 196, 197, 198, 199, 200, 201, 202, 203, 212, 213, 214, 215, 216, 204, 205, 206, 207, 208, 209, 210, 211] (by decide +kernel) (by decide +kernel)) (goodIn_sub (fun _ h => List.mem_cons_of_mem _ (List.mem_append_right _ h)) (by decide +kernel))) (goodIn_sub (fun _ h => List.mem_cons_of_mem _ (List.mem_append_left _ (List.mem_append_right _ h))) (by decide +kernel))
set_option maxRecDepth 20000 in
theorem gL_isParted_L_areOff : GoodIn wsL_isParted (va_wsS RL 96 yL_areOff wsL_areOff) := goodIn_app (goodIn_of _ (by decide +kernel)) ggL_isParted_L_areOff
