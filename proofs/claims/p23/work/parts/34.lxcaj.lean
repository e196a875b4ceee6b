/-! own rows: words of the law's calls (9) -/
set_option maxRecDepth 20000 in
theorem ggL_isParted_J6_bitCount_0f7a4 : GoodIn wsL_isParted wsJ6_bitCount_0f7a4 := goodIn_r _ [83, 84, 85, 86] (by decide +kernel) (by decide +kernel)
set_option maxRecDepth 20000 in
theorem gL_isParted_J6_bitCount_0f7a4 : GoodIn wsL_isParted (va_wsS RL 88 yJ6_bitCount_0f7a4 wsJ6_bitCount_0f7a4) := goodIn_app (goodIn_of _ (by decide +kernel)) ggL_isParted_J6_bitCount_0f7a4
