/-! own rows: words of the law's calls (12) -/
set_option maxRecDepth 20000 in
theorem ggL_isParted_L_areOff_r1 : GoodIn wsL_isParted wsL_areOff_r1 := goodIn_r _ [139, 140, 141, 4, 142, 7, 112, 143, 113, 114, 144, 19, 20, 21, 17, 18, 116, 81, 82, 83, 84, 85, 86, 145] (by decide +kernel) (by decide +kernel)
set_option maxRecDepth 20000 in
theorem ggL_isParted_L_areOff_r2 : GoodIn wsL_isParted wsL_areOff_r2 := goodIn_r _ [146, 147, 148, 149, 150, 151, 152, 104, 105, 56, 106, 68, 69, 153, 154, 155, 156, 157, 158, 159, 160, 62, 161, 162] (by decide +kernel) (by decide +kernel)
set_option maxRecDepth 20000 in
theorem ggL_isParted_L_areOff_r3 : GoodIn wsL_isParted wsL_areOff_r3 := goodIn_r _ [163, 164, 165, 54, 55, 57, 33, 34, 58, 59, 60, 61, 63, 64, 65, 66, 67, 70, 108, 109, 110, 111, 8, 9] (by decide +kernel) (by decide +kernel)
set_option maxRecDepth 20000 in
theorem ggL_isParted_L_areOff_r4 : GoodIn wsL_isParted wsL_areOff_r4 := goodIn_r _ [10, 11, 12, 13, 115, 117, 118, 119, 120, 121, 122, 123, 124, 125, 126, 127] (by decide +kernel) (by decide +kernel)
set_option maxRecDepth 20000 in
theorem ggL_isParted_L_areOff_wsX60 : GoodIn wsL_isParted wsX60 := goodIn_r _ [170, 171, 172, 173, 174, 175, 176] (by decide +kernel) (by decide +kernel)
set_option maxRecDepth 20000 in
theorem ggL_isParted_L_areOff_wsX50 : GoodIn wsL_isParted wsX50 := goodIn_r _ [177, 178, 179, 180, 181, 182, 183, 184] (by decide +kernel) (by decide +kernel)
set_option maxRecDepth 20000 in
theorem ggL_isParted_L_areOff_wsX10 : GoodIn wsL_isParted wsX10 := goodIn_r _ [189, 190, 191, 192, 193, 194, 195, 196, 197, 198, 199, 200, 201, 202, 203] (by decide +kernel) (by decide +kernel)
set_option maxRecDepth 20000 in
theorem ggL_isParted_L_areOff_wsX20 : GoodIn wsL_isParted wsX20 := goodIn_r _ [212, 213, 214, 215, 216] (by decide +kernel) (by decide +kernel)
set_option maxRecDepth 20000 in
theorem ggL_isParted_L_areOff_wsX30 : GoodIn wsL_isParted wsX30 := goodIn_r _ [204, 205, 206] (by decide +kernel) (by decide +kernel)
set_option maxRecDepth 20000 in
theorem ggL_isParted_L_areOff_wsX00 : GoodIn wsL_isParted wsX00 := goodIn_r _ [207, 208, 209, 210, 211] (by decide +kernel) (by decide +kernel)
set_option maxRecDepth 20000 in
theorem ggL_isParted_L_areOff_c : GoodIn wsL_isParted [.code yL_areOff cL_areOff 7 (some .boolean)] := goodIn_r _ [169] (by decide +kernel) (by decide +kernel)
set_option maxRecDepth 20000 in
theorem ggL_isParted_L_areOff : GoodIn wsL_isParted wsL_areOff := goodIn_ca (goodIn_ca (goodIn_c1 ggL_isParted_L_areOff_c (goodIn_app (goodIn_app (goodIn_app (goodIn_app (goodIn_app (goodIn_app (goodIn_app ggL_isParted_L_areOff_r1 (goodIn_app ggL_isParted_L_areOff_r2 (goodIn_app ggL_isParted_L_areOff_r3 ggL_isParted_L_areOff_r4))) ggL_isParted_L_areOff_wsX60) ggL_isParted_L_areOff_wsX50) ggL_isParted_L_areOff_wsX10) ggL_isParted_L_areOff_wsX20) ggL_isParted_L_areOff_wsX30) ggL_isParted_L_areOff_wsX00)) (goodIn_sub (fun _ h => List.mem_cons_of_mem _ (List.mem_append_right _ h)) (by decide +kernel))) (goodIn_sub (fun _ h => List.mem_cons_of_mem _ (List.mem_append_left _ (List.mem_append_right _ h))) (by decide +kernel))
set_option maxRecDepth 20000 in
theorem gL_isParted_L_areOff : GoodIn wsL_isParted (va_wsS RL 96 yL_areOff wsL_areOff) := goodIn_app (goodIn_of _ (by decide +kernel)) ggL_isParted_L_areOff
