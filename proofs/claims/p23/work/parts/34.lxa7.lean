/-! own rows: the law and its helpers: instructions, words (7) -/
set_option maxRecDepth 20000 in
theorem ggL_net_X6_init : GoodIn wsL_net wsX6_init := goodIn_r _ [6, 7, 8, 9, 10, 11, 12, 13, 14, 15, 16, 17, 18, 19, 20, 21, 22, 23, 24, 25, 26, 27, 28, 29, 30, 31, 32, 33, 34, 35, 36, 37, 38, 39, 40, 41, 42, 43, 44, 45, 46, 47, 48, 49, 50, 51, 52, 53, 54, 55, 56, 57, 58, 59, 60, 61, 62, 63, 64, 65, 66, 67, 68, 69, 70, 71, 72, 73, 74, 75, 76, 77, 78, 79, 80, 81, 82, 83, 84, 85, 86, 87, 88, 89, 90, 91, 92, 93, 94, 95, 96, 97, 98, 99, 100, 101, 102, 368, 369, 370, 371, 372, 373, 374, 375, 361, 362, 363, 364, 365, 366, 367, 376, 377, 378, 379, 380, 381, 382, 383, 384, 385, 386, 387, 388, 389, 390, 391, 392, 393, 394, 395, 396, 397, 398, 399, 400, 401, 402, 403, 404, 405, 406, 407] (by decide +kernel) (by decide +kernel)
set_option maxRecDepth 20000 in
theorem gL_net_X6_init : GoodIn wsL_net (wsX6_init) := ggL_net_X6_init
set_option maxRecDepth 20000 in
theorem ggL_net_L_cell : GoodIn wsL_net wsL_cell := goodIn_r _ [106, 107] (by decide +kernel) (by decide +kernel)
set_option maxRecDepth 20000 in
theorem gL_net_L_cell : GoodIn wsL_net (va_wsS RL 12 yL_cell wsL_cell) := goodIn_app (goodIn_of _ (by decide +kernel)) ggL_net_L_cell
set_option maxRecDepth 20000 in
theorem ggL_net_L_below : GoodIn wsL_net wsL_below := goodIn_r _ [110, 111] (by decide +kernel) (by decide +kernel)
set_option maxRecDepth 20000 in
theorem gL_net_L_below : GoodIn wsL_net (va_wsS RL 18 yL_below wsL_below) := goodIn_app (goodIn_of _ (by decide +kernel)) ggL_net_L_below
set_option maxRecDepth 20000 in
theorem ggL_net_X6_point : GoodIn wsL_net wsX6_point := goodIn_ca (goodIn_r _ [115, 116, 117, 13, 118, 119, 120, 12, 121, 38, 122, 123, 124, 3, 125, 17, 25, 29, 33, 126, 127, 128, 16, 129, 130, 131, 132, 133, 51, 65, 134, 135, 136, 137, 138, 139, 140, 141, 142, 143, 39, 45, 144, 145, 146, 147, 57, 58, 148, 149, 150, 151, 52, 152, 153, 154, 155, 156, 157, 158, 159, 160, 53, 161, 162, 163, 164, 59, 165, 166, 167, 168, 46, 40, 169, 170, 171, 172, 173, 174, 175, 176, 42, 43, 177, 178, 179, 180, 181, 182, 183, 184, 185, 186, 187, 188, 54, 60, 189, 190, 191, 192, 55, 61, 62, 193, 194, 195, 196, 197, 198, 199, 200, 56, 63, 64, 201, 202, 203, 204, 205, 206, 207, 24, 208, 82, 83, 85, 209, 210, 211, 212, 213, 214, 84, 215, 216, 217, 218, 219, 220, 221, 28, 222, 92, 90, 223, 224, 225, 226, 91, 227, 228, 229, 230, 231, 232, 233, 234, 235, 236, 237, 238, 239, 240, 32, 241, 100, 101, 102, 242, 243, 244, 245, 99, 98, 246, 247, 248, 249, 250, 251, 252, 253, 361, 362, 363, 364, 365, 366, 367, 368, 369, 370, 371, 372, 373, 374, 375, 376, 377, 378, 379, 380, 381, 382, 383, 384, 385, 386, 387, 388, 389, 390, 395, 396, 397, 398, 399, 400, 401, 402, 403, 404, 405, 406, 407] (by decide +kernel) (by decide +kernel)) (goodIn_sub (fun _ h => List.mem_cons_of_mem _ (List.mem_append_left _ (List.mem_append_left _ (List.mem_append_right _ h)))) (by decide +kernel))
set_option maxRecDepth 20000 in
theorem gL_net_X6_point : GoodIn wsL_net (wsV RL 22 RX6 yX6_point wsX6_point) := goodIn_app (goodIn_of _ (by decide +kernel)) ggL_net_X6_point
