theorem dJ9_max_7cf53_5 : decode cJ9_max_7cf53 5 = .ok (.iload_n 0, 1) := by decide +kernel
theorem dJ9_max_7cf53_6 : decode cJ9_max_7cf53 6 = .ok (.goto 4, 3) := by decide +kernel
theorem dJ9_max_7cf53_9 : decode cJ9_max_7cf53 9 = .ok (.iload_n 1, 1) := by decide +kernel
theorem dJ9_max_7cf53_10 : decode cJ9_max_7cf53 10 = .ok (.ireturn, 1) := by decide +kernel
theorem dJ9_min_7cf53_0 : decode cJ9_min_7cf53 0 = .ok (.iload_n 0, 1) := by decide +kernel
theorem dJ9_min_7cf53_1 : decode cJ9_min_7cf53 1 = .ok (.iload_n 1, 1) := by decide +kernel
theorem dJ9_min_7cf53_2 : decode cJ9_min_7cf53 2 = .ok (.if_icmp .gt 7, 3) := by decide +kernel
theorem dJ9_min_7cf53_5 : decode cJ9_min_7cf53 5 = .ok (.iload_n 0, 1) := by decide +kernel
theorem dJ9_min_7cf53_6 : decode cJ9_min_7cf53 6 = .ok (.goto 4, 3) := by decide +kernel
theorem dJ9_min_7cf53_9 : decode cJ9_min_7cf53 9 = .ok (.iload_n 1, 1) := by decide +kernel
theorem dJ9_min_7cf53_10 : decode cJ9_min_7cf53 10 = .ok (.ireturn, 1) := by decide +kernel
theorem dL_below_0 : decode cL_below 0 = .ok (.iload_n 0, 1) := by decide +kernel
theorem dL_below_1 : decode cL_below 1 = .ok (.ldc 7, 2) := by decide +kernel
theorem dL_below_3 : decode cL_below 3 = .ok (.iand, 1) := by decide +kernel
theorem dL_below_4 : decode cL_below 4 = .ok (.iload_n 1, 1) := by decide +kernel
theorem dL_below_5 : decode cL_below 5 = .ok (.irem, 1) := by decide +kernel
theorem dL_below_6 : decode cL_below 6 = .ok (.ireturn, 1) := by decide +kernel
theorem dL_cell_0 : decode cL_cell 0 = .ok (.iload_n 1, 1) := by decide +kernel
theorem dL_cell_1 : decode cL_cell 1 = .ok (.aload_n 0, 1) := by decide +kernel
theorem dL_cell_2 : decode cL_cell 2 = .ok (.arraylength, 1) := by decide +kernel
theorem dL_cell_3 : decode cL_cell 3 = .ok (.if_icmp .ge 9, 3) := by decide +kernel
theorem dL_cell_6 : decode cL_cell 6 = .ok (.aload_n 0, 1) := by decide +kernel
theorem dL_cell_7 : decode cL_cell 7 = .ok (.iload_n 1, 1) := by decide +kernel
theorem dL_cell_8 : decode cL_cell 8 = .ok (.iaload, 1) := by decide +kernel
theorem dL_cell_9 : decode cL_cell 9 = .ok (.goto 9, 3) := by decide +kernel
theorem dL_cell_12 : decode cL_cell 12 = .ok (.ldc 8, 2) := by decide +kernel
theorem dL_cell_14 : decode cL_cell 14 = .ok (.iload_n 1, 1) := by decide +kernel
theorem dL_cell_15 : decode cL_cell 15 = .ok (.iconst 3, 1) := by decide +kernel
theorem dL_cell_16 : decode cL_cell 16 = .ok (.iadd, 1) := by decide +kernel
theorem dL_cell_17 : decode cL_cell 17 = .ok (.imul, 1) := by decide +kernel
theorem dL_cell_18 : decode cL_cell 18 = .ok (.ireturn, 1) := by decide +kernel
set_option maxRecDepth 20000 in
theorem ggL_net_X6_init : GoodIn wsL_net wsX6_init := goodIn_r _ [6, 7, 8, 9, 10, 11, 12, 13, 14, 15, 16, 17, 18, 19, 20, 21, 22, 23, 24, 25, 26, 27, 28, 29, 30, 31, 32, 33, 34, 35, 36, 37, 38, 39, 40, 41, 42, 43, 44, 45, 46, 47, 48, 49, 50, 51, 52, 53, 54, 55, 56, 57, 58, 59, 60, 61, 62, 63, 64, 65, 66, 67, 68, 69, 70, 71, 72, 73, 74, 75, 76, 77, 78, 79, 80, 81, 82, 83, 84, 85, 86, 87, 88, 89, 90, 91, 92, 93, 94, 95, 96, 97, 98, 99, 100, 101, 102, 368, 369, 370, 371, 372, 373, 374, 375, 361, 362, 363, 364, 365, 366, 367, 376, 377, 378, 379, 380, 381, 382, 383, 384, 385, 386, 387, 388, 389, 390, 391, 392, 393, 394, 395, 396, 397, 398, 399, 400, 401, 402, 403, 404, 405, 406, 407] (by decide +kernel) (by decide +kernel)
set_option maxRecDepth 20000 in
theorem gL_net_X6_init : GoodIn wsL_net (wsX6_init) := ggL_net_X6_init
set_option maxRecDepth 20000 in
theorem ggL_net_L_cell : GoodIn wsL_net wsL_cell := goodIn_r _ [106, 107] (by decide +kernel) (by decide +kernel)
set_option maxRecDepth 20000 in
theorem gL_net_L_cell : GoodIn wsL_net (va_wsS RL 12 yL_cell wsL_cell) := goodIn_app (goodIn_of _ (by decide +kernel)) ggL_net_L_cell
set_option maxRecDepth 20000 in
theorem ggL_net_L_below : GoodIn wsL_net wsL_below := goodIn_r _ [110, 111] (by decide +kernel) (by decide +kernel)
set_option maxRecDepth 20000 in
theorem gL_net_L_below : GoodIn wsL_net (va_wsS RL 18 yL_below wsL_below) := goodIn_app (goodIn_of _ (by decide +kernel)) ggL_net_L_below
set_option maxRecDepth 20000 in
theorem ggL_net_X6_point : GoodIn wsL_net wsX6_point := goodIn_ca (goodIn_r _ [115, 116, 117, 13, 118, 119, 120, 12, 121, 38, 122, 123, 124, 3, 125, 17, 25, 29, 33, 126, 127, 128, 16, 129, 130, 131, 132, 133, 51, 65, 134, 135, 136, 137, 138, 139, 140, 141, 142, 143, 39, 45, 144, 145, 146, 147, 57, 58, 148, 149, 150, 151, 52, 152, 153, 154, 155, 156, 157, 158, 159, 160, 53, 161, 162, 163, 164, 59, 165, 166, 167, 168, 46, 40, 169, 170, 171, 172, 173, 174, 175, 176, 42, 43, 177, 178, 179, 180, 181, 182, 183, 184, 185, 186, 187, 188, 54, 60, 189, 190, 191, 192, 55, 61, 62, 193, 194, 195, 196, 197, 198, 199, 200, 56, 63, 64, 201, 202, 203, 204, 205, 206, 207, 24, 208, 82, 83, 85, 209, 210, 211, 212, 213, 214, 84, 215, 216, 217, 218, 219, 220, 221, 28, 222, 92, 90, 223, 224, 225, 226, 91, 227, 228, 229, 230, 231, 232, 233, 234, 235, 236, 237, 238, 239, 240, 32, 241, 100, 101, 102, 242, 243, 244, 245, 99, 98, 246, 247, 248, 249, 250, 251, 252, 253, 361, 362, 363, 364, 365, 366, 367, 368, 369, 370, 371, 372, 373, 374, 375, 376, 377, 378, 379, 380, 381, 382, 383, 384, 385, 386, 387, 388, 389, 390, 395, 396, 397, 398, 399, 400, 401, 402, 403, 404, 405, 406, 407] (by decide +kernel) (by decide +kernel)) (goodIn_sub (fun _ h => List.mem_cons_of_mem _ (List.mem_append_left _ (List.mem_append_left _ (List.mem_append_right _ h)))) (by decide +kernel))
set_option maxRecDepth 20000 in
theorem gL_net_X6_point : GoodIn wsL_net (wsV RL 22 RX6 yX6_point wsX6_point) := goodIn_app (goodIn_of _ (by decide +kernel)) ggL_net_X6_point
set_option maxRecDepth 20000 in
theorem ggL_net_L_add : GoodIn wsL_net wsL_add := goodIn_ca (goodIn_ca (goodIn_ca (goodIn_r _ [256, 257, 258, 259, 3, 260, 13, 17, 25, 29, 33, 34, 261, 262, 263, 264, 265, 266, 267, 268, 269, 270, 271, 272, 273, 274, 275, 32, 276, 100, 102, 277, 166, 167, 12, 168, 46, 40, 278, 279, 280, 281, 282, 283, 284, 285, 38, 286, 228, 183, 229, 287, 288, 289, 290, 134, 135, 291, 292, 293, 294, 295, 231, 232, 233, 39, 45, 108, 109, 105, 110, 111, 296, 297, 298, 299, 116, 117, 300, 182, 184, 301, 302, 303, 304, 305, 306, 307, 308, 309, 310, 311, 312, 313, 314, 315, 316, 317, 42, 43, 44, 318, 319, 320, 321, 99, 98, 122, 123, 124, 125, 126, 127, 128, 16, 129, 130, 131, 132, 133, 51, 65, 136, 137, 138, 139, 140, 141, 142, 143, 144, 145, 146, 147, 57, 58, 148, 149, 150, 151, 52, 152, 153, 154, 155, 156, 157, 158, 159, 160, 53, 161, 162, 163, 164, 59, 165, 169, 170, 171, 172, 173, 174, 175, 176, 177, 178, 179, 180, 181, 185, 186, 187, 188, 54, 60, 189, 190, 191, 192, 55, 61, 62, 193, 194, 195, 196, 197, 198, 199, 200, 56, 63, 64, 201, 202, 203, 204, 205, 206, 207, 24, 208, 82, 83, 85, 209, 210, 211, 212, 213, 214, 84, 215, 216, 217, 218, 219, 220, 221, 28, 222, 92, 90, 223, 224, 225, 226, 91, 227, 230, 234, 235, 236, 237, 238, 239, 240, 241, 101, 242, 243, 244, 245, 246, 247, 248, 249, 250, 251, 252, 253, 361, 362, 363, 364, 365, 366, 367, 368, 369, 370, 371, 372, 373, 374, 375, 376, 377, 378, 379, 380, 381, 382, 383, 384, 385, 386, 387, 388, 389, 390, 395, 396, 397, 398, 399, 400, 401, 402, 403, 404, 405, 406, 407] (by decide +kernel) (by decide +kernel)) (goodIn_sub (fun _ h => List.mem_cons_of_mem _ (List.mem_append_left _ (List.mem_append_right _ h))) (by decide +kernel))) (goodIn_sub (fun _ h => List.mem_cons_of_mem _ (List.mem_append_left _ (List.mem_append_left _ (List.mem_append_right _ h)))) (by decide +kernel))) (goodIn_sub (fun _ h => List.mem_cons_of_mem _ (List.mem_append_right _ h)) (by decide +kernel))
set_option maxRecDepth 20000 in
theorem gL_net_L_add : GoodIn wsL_net (va_wsS RL 26 yL_add wsL_add) := goodIn_app (goodIn_of _ (by decide +kernel)) ggL_net_L_add
set_option maxRecDepth 20000 in
theorem ggL_net_X6_cut : GoodIn wsL_net wsX6_cut := goodIn_ca (goodIn_r _ [325, 13, 17, 326, 327, 328, 3, 329, 306, 307, 330, 331, 332, 12, 333, 40, 122, 123, 124, 125, 25, 29, 33, 126, 127, 128, 16, 129, 130, 131, 132, 133, 51, 65, 134, 135, 136, 137, 138, 139, 38, 140, 141, 142, 143, 39, 45, 144, 145, 146, 147, 57, 58, 148, 149, 150, 151, 52, 152, 153, 154, 155, 156, 157, 158, 159, 160, 53, 161, 162, 163, 164, 59, 165, 166, 167, 168, 46, 169, 170, 171, 172, 173, 174, 175, 176, 42, 43, 177, 178, 179, 180, 181, 182, 183, 184, 185, 186, 187, 188, 54, 60, 189, 190, 191, 192, 55, 61, 62, 193, 194, 195, 196, 197, 198, 199, 200, 56, 63, 64, 201, 202, 203, 204, 205, 206, 207, 24, 208, 82, 83, 85, 209, 210, 211, 212, 213, 214, 84, 215, 216, 217, 218, 219, 220, 221, 28, 222, 92, 90, 223, 224, 225, 226, 91, 227, 228, 229, 230, 231, 232, 233, 234, 235, 236, 237, 238, 239, 240, 32, 241, 100, 101, 102, 242, 243, 244, 245, 99, 98, 246, 247, 248, 249, 250, 251, 252, 253, 361, 362, 363, 364, 365, 366, 367, 376, 377, 378, 379, 380, 381, 382, 383, 384, 385, 386, 387, 388, 389, 390, 368, 369, 370, 371, 372, 373, 374, 375, 395, 396, 397, 398, 399, 400, 401, 402, 403, 404, 405, 406, 407] (by decide +kernel) (by decide +kernel)) (goodIn_sub (fun _ h => List.mem_cons_of_mem _ (List.mem_append_right _ h)) (by decide +kernel))
set_option maxRecDepth 20000 in
theorem gL_net_X6_cut : GoodIn wsL_net (wsV RL 30 RX6 yX6_cut wsX6_cut) := goodIn_app (goodIn_of _ (by decide +kernel)) ggL_net_X6_cut
set_option maxRecDepth 20000 in
theorem ggL_net_L_turned : GoodIn wsL_net wsL_turned := goodIn_ca (goodIn_ca (goodIn_r _ [336, 257, 258, 259, 3, 260, 13, 17, 25, 29, 33, 34, 261, 262, 263, 264, 265, 266, 267, 268, 269, 270, 271, 272, 273, 274, 275, 32, 276, 100, 102, 277, 166, 167, 12, 168, 46, 40, 278, 279, 280, 281, 282, 283, 284, 285, 38, 286, 228, 183, 229, 287, 288, 289, 290, 134, 135, 291, 292, 293, 294, 295, 231, 232, 233, 39, 45, 108, 109, 105, 110, 111, 337, 338, 339, 340, 302, 303, 304, 305, 306, 307, 341, 342, 343, 344, 345, 16, 346, 65, 60, 165, 347, 348, 349, 350, 351, 352, 353, 354, 355, 356, 357, 358, 359, 360, 98, 250, 251, 252, 253, 99, 238, 239, 240, 241, 101, 242, 243, 244, 245, 246, 247, 248, 249, 361, 362, 363, 364, 365, 366, 367, 368, 369, 370, 371, 372, 373, 374, 375, 376, 377, 378, 379, 380, 381, 382, 383, 384, 385, 386, 387, 388, 389, 390, 395, 396, 397, 398, 399, 400, 401, 402, 403, 404, 405, 406, 407] (by decide +kernel) (by decide +kernel)) (goodIn_sub (fun _ h => List.mem_cons_of_mem _ (List.mem_append_left _ (List.mem_append_right _ h))) (by decide +kernel))) (goodIn_sub (fun _ h => List.mem_cons_of_mem _ (List.mem_append_right _ h)) (by decide +kernel))
set_option maxRecDepth 20000 in
theorem gL_net_L_turned : GoodIn wsL_net (va_wsS RL 34 yL_turned wsL_turned) := goodIn_app (goodIn_of _ (by decide +kernel)) ggL_net_L_turned
theorem dL_net_0 : decode cL_net 0 = .ok (.new 9, 3) := by decide +kernel
theorem dL_net_3 : decode cL_net 3 = .ok (.dup, 1) := by decide +kernel
theorem dL_net_4 : decode cL_net 4 = .ok (.invokespecial 11, 3) := by decide +kernel
theorem dL_net_7 : decode cL_net 7 = .ok (.astore_n 1, 1) := by decide +kernel
theorem dL_net_8 : decode cL_net 8 = .ok (.iconst 2, 1) := by decide +kernel
theorem dL_net_9 : decode cL_net 9 = .ok (.aload_n 0, 1) := by decide +kernel
theorem dL_net_10 : decode cL_net 10 = .ok (.iconst 0, 1) := by decide +kernel
theorem dL_net_11 : decode cL_net 11 = .ok (.invokestatic 12, 3) := by decide +kernel
theorem dL_net_14 : decode cL_net 14 = .ok (.bipush 7, 2) := by decide +kernel
theorem dL_net_16 : decode cL_net 16 = .ok (.invokestatic 18, 3) := by decide +kernel
theorem dL_net_19 : decode cL_net 19 = .ok (.iadd, 1) := by decide +kernel
theorem dL_net_20 : decode cL_net 20 = .ok (.istore_n 2, 1) := by decide +kernel
theorem dL_net_21 : decode cL_net 21 = .ok (.iconst 0, 1) := by decide +kernel
theorem dL_net_22 : decode cL_net 22 = .ok (.istore_n 3, 1) := by decide +kernel
theorem dL_net_23 : decode cL_net 23 = .ok (.iload_n 3, 1) := by decide +kernel
theorem dL_net_24 : decode cL_net 24 = .ok (.iload_n 2, 1) := by decide +kernel
theorem dL_net_25 : decode cL_net 25 = .ok (.if_icmp .ge 14, 3) := by decide +kernel
theorem dL_net_28 : decode cL_net 28 = .ok (.aload_n 1, 1) := by decide +kernel
theorem dL_net_29 : decode cL_net 29 = .ok (.invokevirtual 22, 3) := by decide +kernel
theorem dL_net_32 : decode cL_net 32 = .ok (.pop, 1) := by decide +kernel
theorem dL_net_33 : decode cL_net 33 = .ok (.iinc 3 1, 3) := by decide +kernel
theorem dL_net_36 : decode cL_net 36 = .ok (.goto (-13), 3) := by decide +kernel
theorem dL_net_39 : decode cL_net 39 = .ok (.aload_n 0, 1) := by decide +kernel
theorem dL_net_40 : decode cL_net 40 = .ok (.iconst 1, 1) := by decide +kernel
theorem dL_net_41 : decode cL_net 41 = .ok (.invokestatic 12, 3) := by decide +kernel
theorem dL_net_44 : decode cL_net 44 = .ok (.bipush 17, 2) := by decide +kernel
theorem dL_net_46 : decode cL_net 46 = .ok (.invokestatic 18, 3) := by decide +kernel
theorem dL_net_49 : decode cL_net 49 = .ok (.istore_n 3, 1) := by decide +kernel
theorem dL_net_50 : decode cL_net 50 = .ok (.iconst 0, 1) := by decide +kernel
theorem dL_net_51 : decode cL_net 51 = .ok (.istore 4, 2) := by decide +kernel
theorem dL_net_53 : decode cL_net 53 = .ok (.iload 4, 2) := by decide +kernel
theorem dL_net_55 : decode cL_net 55 = .ok (.iload_n 3, 1) := by decide +kernel
theorem dL_net_56 : decode cL_net 56 = .ok (.if_icmp .ge 33, 3) := by decide +kernel
theorem dL_net_59 : decode cL_net 59 = .ok (.aload_n 1, 1) := by decide +kernel
theorem dL_net_60 : decode cL_net 60 = .ok (.aload_n 0, 1) := by decide +kernel
theorem dL_net_61 : decode cL_net 61 = .ok (.iconst 2, 1) := by decide +kernel
theorem dL_net_62 : decode cL_net 62 = .ok (.iload 4, 2) := by decide +kernel
theorem dL_net_64 : decode cL_net 64 = .ok (.bipush 12, 2) := by decide +kernel
theorem dL_net_66 : decode cL_net 66 = .ok (.irem, 1) := by decide +kernel
theorem dL_net_67 : decode cL_net 67 = .ok (.iadd, 1) := by decide +kernel
theorem dL_net_68 : decode cL_net 68 = .ok (.invokestatic 12, 3) := by decide +kernel
theorem dL_net_71 : decode cL_net 71 = .ok (.iload 4, 2) := by decide +kernel
theorem dL_net_73 : decode cL_net 73 = .ok (.bipush 12, 2) := by decide +kernel
theorem dL_net_75 : decode cL_net 75 = .ok (.idiv, 1) := by decide +kernel
theorem dL_net_76 : decode cL_net 76 = .ok (.bipush 7, 2) := by decide +kernel
theorem dL_net_78 : decode cL_net 78 = .ok (.imul, 1) := by decide +kernel
theorem dL_net_79 : decode cL_net 79 = .ok (.ishr, 1) := by decide +kernel
theorem dL_net_80 : decode cL_net 80 = .ok (.invokestatic 26, 3) := by decide +kernel
theorem dL_net_83 : decode cL_net 83 = .ok (.iinc 4 1, 3) := by decide +kernel
theorem dL_net_86 : decode cL_net 86 = .ok (.goto (-33), 3) := by decide +kernel
theorem dL_net_89 : decode cL_net 89 = .ok (.iconst 0, 1) := by decide +kernel
theorem dL_net_90 : decode cL_net 90 = .ok (.istore 4, 2) := by decide +kernel
theorem dL_net_92 : decode cL_net 92 = .ok (.iload 4, 2) := by decide +kernel
theorem dL_net_94 : decode cL_net 94 = .ok (.iload_n 3, 1) := by decide +kernel
theorem dL_net_95 : decode cL_net 95 = .ok (.if_icmp .ge 34, 3) := by decide +kernel
theorem dL_net_98 : decode cL_net 98 = .ok (.aload_n 0, 1) := by decide +kernel
theorem dL_net_99 : decode cL_net 99 = .ok (.bipush 14, 2) := by decide +kernel
theorem dL_net_101 : decode cL_net 101 = .ok (.invokestatic 12, 3) := by decide +kernel
theorem dL_net_104 : decode cL_net 104 = .ok (.iload 4, 2) := by decide +kernel
theorem dL_net_106 : decode cL_net 106 = .ok (.ishr, 1) := by decide +kernel
theorem dL_net_107 : decode cL_net 107 = .ok (.bipush 6, 2) := by decide +kernel
theorem dL_net_109 : decode cL_net 109 = .ok (.invokestatic 18, 3) := by decide +kernel
theorem dL_net_112 : decode cL_net 112 = .ok (.ifCond .ne 11, 3) := by decide +kernel
theorem dL_net_115 : decode cL_net 115 = .ok (.aload_n 1, 1) := by decide +kernel
theorem dL_net_116 : decode cL_net 116 = .ok (.iload 4, 2) := by decide +kernel
theorem dL_net_118 : decode cL_net 118 = .ok (.iconst 1, 1) := by decide +kernel
theorem dL_net_119 : decode cL_net 119 = .ok (.invokevirtual 30, 3) := by decide +kernel
theorem dL_net_122 : decode cL_net 122 = .ok (.pop, 1) := by decide +kernel
theorem dL_net_123 : decode cL_net 123 = .ok (.iinc 4 1, 3) := by decide +kernel
theorem dL_net_126 : decode cL_net 126 = .ok (.goto (-34), 3) := by decide +kernel
theorem dL_net_129 : decode cL_net 129 = .ok (.iconst 0, 1) := by decide +kernel
theorem dL_net_130 : decode cL_net 130 = .ok (.istore 4, 2) := by decide +kernel
theorem dL_net_132 : decode cL_net 132 = .ok (.iload 4, 2) := by decide +kernel
theorem dL_net_134 : decode cL_net 134 = .ok (.bipush 6, 2) := by decide +kernel
theorem dL_net_136 : decode cL_net 136 = .ok (.if_icmp .ge 24, 3) := by decide +kernel
theorem dL_net_139 : decode cL_net 139 = .ok (.aload_n 1, 1) := by decide +kernel
theorem dL_net_140 : decode cL_net 140 = .ok (.aload_n 0, 1) := by decide +kernel
theorem dL_net_141 : decode cL_net 141 = .ok (.bipush 15, 2) := by decide +kernel
theorem dL_net_143 : decode cL_net 143 = .ok (.invokestatic 12, 3) := by decide +kernel
theorem dL_net_146 : decode cL_net 146 = .ok (.iconst 4, 1) := by decide +kernel
theorem dL_net_147 : decode cL_net 147 = .ok (.iload 4, 2) := by decide +kernel
theorem dL_net_149 : decode cL_net 149 = .ok (.imul, 1) := by decide +kernel
theorem dL_net_150 : decode cL_net 150 = .ok (.ishr, 1) := by decide +kernel
theorem dL_net_151 : decode cL_net 151 = .ok (.invokestatic 34, 3) := by decide +kernel
theorem dL_net_154 : decode cL_net 154 = .ok (.iinc 4 1, 3) := by decide +kernel
theorem dL_net_157 : decode cL_net 157 = .ok (.goto (-25), 3) := by decide +kernel
theorem dL_net_160 : decode cL_net 160 = .ok (.aload_n 1, 1) := by decide +kernel
theorem dL_net_161 : decode cL_net 161 = .ok (.areturn, 1) := by decide +kernel
set_option maxRecDepth 20000 in
theorem ggL_add_X6_net : GoodIn wsL_add wsX6_net := goodIn_ca (goodIn_r _ [5, 6, 7, 8, 9, 10, 11, 12, 13, 4, 14, 15, 16, 17, 18, 19, 20, 21, 22, 23, 24, 25, 26, 27, 28, 29, 30, 31, 32, 33, 34, 35, 36, 37, 38, 39, 40, 41, 42, 43, 44, 45, 46, 47, 48, 49, 50, 51, 52, 53, 54, 55, 56, 57, 58, 59, 60, 61, 62, 63, 64, 65, 66, 252, 253, 254, 255, 256, 257, 258, 259, 260, 261, 262, 263, 264, 265, 266, 267, 268, 269, 270, 271, 272, 273, 274, 275, 276, 277, 278, 279, 280, 281, 282, 283, 284, 285, 286, 287, 288, 289, 290, 291, 292, 293, 294] (by decide +kernel) (by decide +kernel)) (goodIn_sub (fun _ h => List.mem_cons_of_mem _ (List.mem_append_left _ (List.mem_append_left _ (List.mem_append_right _ h)))) (by decide +kernel))
set_option maxRecDepth 20000 in
theorem gL_add_X6_net : GoodIn wsL_add (wsV RL 37 RX6 yX6_net wsX6_net) := goodIn_app (goodIn_of _ (by decide +kernel)) ggL_add_X6_net
set_option maxRecDepth 20000 in
theorem ggL_add_L_below : GoodIn wsL_add wsL_below := goodIn_r _ [70, 71] (by decide +kernel) (by decide +kernel)
set_option maxRecDepth 20000 in
theorem gL_add_L_below : GoodIn wsL_add (va_wsS RL 18 yL_below wsL_below) := goodIn_app (goodIn_of _ (by decide +kernel)) ggL_add_L_below
set_option maxRecDepth 20000 in
theorem ggL_add_X6_line : GoodIn wsL_add wsX6_line := goodIn_ca (goodIn_ca (goodIn_ca (goodIn_r _ [75, 76, 77, 6, 78, 79, 49, 80, 81, 48, 50, 10, 82, 83, 84, 4, 85, 86, 87, 88, 89, 90, 15, 16, 91, 92, 93, 94, 95, 96, 34, 97, 65, 98, 99, 100, 66, 36, 37, 101, 102, 103, 27, 104, 105, 106, 107, 108, 109, 110, 7, 8, 9, 111, 112, 113, 114, 115, 116, 117, 118, 119, 120, 121, 55, 56, 122, 123, 124, 125, 46, 126, 127, 128, 129, 130, 131, 132, 133, 134, 135, 136, 137, 138, 139, 140, 141, 142, 143, 144, 145, 146, 147, 148, 149, 150, 151, 152, 153, 154, 155, 156, 32, 33, 35, 157, 158, 159, 160, 161, 162, 163, 164, 165, 166, 167, 168, 169, 170, 171, 172, 173, 174, 175, 176, 177, 178, 179, 180, 181, 182, 183, 184, 185, 186, 187, 188, 189, 190, 191, 192, 193, 194, 195, 196, 197, 198, 199, 200, 201, 202, 203, 204, 205, 206, 207, 208, 209, 210, 211, 212, 213, 214, 215, 216, 217, 218, 219, 220, 221, 222, 223, 224, 225, 226, 227, 228, 229, 230, 62, 63, 64, 231, 232, 233, 234, 235, 236, 237, 238, 29, 239, 30, 240, 241, 242, 243, 244, 245, 246, 247, 248, 249, 250, 251, 252, 253, 254, 255, 256, 257, 258, 259, 260, 261, 262, 263, 264, 265, 266, 290, 291, 292, 293, 294, 267, 268, 269, 270, 271, 272, 273, 274, 275, 276, 277, 278, 279, 280, 281, 282, 283, 284, 285, 286, 287, 288, 289] (by decide +kernel) (by decide +kernel)) (goodIn_sub (fun _ h => List.mem_cons_of_mem _ (List.mem_append_left _ (List.mem_append_right _ h))) (by decide +kernel))) (goodIn_sub (fun _ h => List.mem_cons_of_mem _ (List.mem_append_right _ h)) (by decide +kernel))) (goodIn_sub (fun _ h => List.mem_cons_of_mem _ (List.mem_append_left _ (List.mem_append_left _ (List.mem_append_right _ h)))) (by decide +kernel))
set_option maxRecDepth 20000 in
theorem gL_add_X6_line : GoodIn wsL_add (wsV RL 41 RX6 yX6_line wsX6_line) := goodIn_app (goodIn_of _ (by decide +kernel)) ggL_add_X6_line
theorem dL_add_0 : decode cL_add 0 = .ok (.iload_n 1, 1) := by decide +kernel
theorem dL_add_1 : decode cL_add 1 = .ok (.aload_n 0, 1) := by decide +kernel
theorem dL_add_2 : decode cL_add 2 = .ok (.iconst 0, 1) := by decide +kernel
theorem dL_add_3 : decode cL_add 3 = .ok (.invokevirtual 37, 3) := by decide +kernel
theorem dL_add_6 : decode cL_add 6 = .ok (.invokestatic 18, 3) := by decide +kernel
theorem dL_add_9 : decode cL_add 9 = .ok (.istore_n 2, 1) := by decide +kernel
theorem dL_add_10 : decode cL_add 10 = .ok (.iload_n 2, 1) := by decide +kernel
theorem dL_add_11 : decode cL_add 11 = .ok (.iconst 1, 1) := by decide +kernel
theorem dL_add_12 : decode cL_add 12 = .ok (.iadd, 1) := by decide +kernel
theorem dL_add_13 : decode cL_add 13 = .ok (.iload_n 1, 1) := by decide +kernel
theorem dL_add_14 : decode cL_add 14 = .ok (.iconst 4, 1) := by decide +kernel
theorem dL_add_15 : decode cL_add 15 = .ok (.ishr, 1) := by decide +kernel
theorem dL_add_16 : decode cL_add 16 = .ok (.aload_n 0, 1) := by decide +kernel
theorem dL_add_17 : decode cL_add 17 = .ok (.iconst 0, 1) := by decide +kernel
theorem dL_add_18 : decode cL_add 18 = .ok (.invokevirtual 37, 3) := by decide +kernel
theorem dL_add_21 : decode cL_add 21 = .ok (.iconst 1, 1) := by decide +kernel
theorem dL_add_22 : decode cL_add 22 = .ok (.isub, 1) := by decide +kernel
theorem dL_add_23 : decode cL_add 23 = .ok (.invokestatic 18, 3) := by decide +kernel
theorem dL_add_26 : decode cL_add 26 = .ok (.iadd, 1) := by decide +kernel
theorem dL_add_27 : decode cL_add 27 = .ok (.aload_n 0, 1) := by decide +kernel
theorem dL_add_28 : decode cL_add 28 = .ok (.iconst 0, 1) := by decide +kernel
theorem dL_add_29 : decode cL_add 29 = .ok (.invokevirtual 37, 3) := by decide +kernel
theorem dL_add_32 : decode cL_add 32 = .ok (.irem, 1) := by decide +kernel
theorem dL_add_33 : decode cL_add 33 = .ok (.istore_n 3, 1) := by decide +kernel
theorem dL_add_34 : decode cL_add 34 = .ok (.aload_n 0, 1) := by decide +kernel
theorem dL_add_35 : decode cL_add 35 = .ok (.iconst 1, 1) := by decide +kernel
theorem dL_add_36 : decode cL_add 36 = .ok (.invokevirtual 37, 3) := by decide +kernel
theorem dL_add_39 : decode cL_add 39 = .ok (.bipush 16, 2) := by decide +kernel
theorem dL_add_41 : decode cL_add 41 = .ok (.if_icmp .ge 20, 3) := by decide +kernel
theorem dL_add_44 : decode cL_add 44 = .ok (.aload_n 0, 1) := by decide +kernel
theorem dL_add_45 : decode cL_add 45 = .ok (.iload_n 2, 1) := by decide +kernel
theorem dL_add_46 : decode cL_add 46 = .ok (.iload_n 3, 1) := by decide +kernel
theorem dL_add_47 : decode cL_add 47 = .ok (.iconst 1, 1) := by decide +kernel
theorem dL_add_48 : decode cL_add 48 = .ok (.iload_n 1, 1) := by decide +kernel
theorem dL_add_49 : decode cL_add 49 = .ok (.iconst 3, 1) := by decide +kernel
theorem dL_add_50 : decode cL_add 50 = .ok (.ishr, 1) := by decide +kernel
theorem dL_add_51 : decode cL_add 51 = .ok (.bipush 20, 2) := by decide +kernel
theorem dL_add_53 : decode cL_add 53 = .ok (.invokestatic 18, 3) := by decide +kernel
theorem dL_add_56 : decode cL_add 56 = .ok (.iadd, 1) := by decide +kernel
theorem dL_add_57 : decode cL_add 57 = .ok (.invokevirtual 41, 3) := by decide +kernel
theorem dL_add_60 : decode cL_add 60 = .ok (.pop, 1) := by decide +kernel
theorem dL_add_61 : decode cL_add 61 = .ok (.return_, 1) := by decide +kernel
set_option maxRecDepth 20000 in
theorem ggL_turned_X6_net : GoodIn wsL_turned wsX6_net := goodIn_ca (goodIn_r _ [5, 6, 7, 8, 9, 10, 11, 12, 13, 4, 14, 15, 16, 17, 18, 19, 20, 21, 22, 23, 24, 25, 26, 27, 28, 29, 30, 31, 32, 33, 34, 35, 36, 37, 38, 39, 40, 41, 42, 43, 44, 45, 46, 47, 48, 49, 50, 51, 52, 53, 54, 55, 56, 57, 58, 59, 60, 61, 62, 63, 64, 65, 66, 125, 126, 127, 128, 129, 130, 131, 132, 133, 134, 135, 136, 137, 138, 139, 140, 141, 142, 143, 144, 145, 146, 147, 148, 149, 150, 151, 152, 153, 154, 155, 156, 157, 158, 159, 160, 161, 162, 163, 164, 165, 166, 167] (by decide +kernel) (by decide +kernel)) (goodIn_sub (fun _ h => List.mem_cons_of_mem _ (List.mem_append_left _ (List.mem_append_right _ h))) (by decide +kernel))
set_option maxRecDepth 20000 in
theorem gL_turned_X6_net : GoodIn wsL_turned (wsV RL 37 RX6 yX6_net wsX6_net) := goodIn_app (goodIn_of _ (by decide +kernel)) ggL_turned_X6_net
set_option maxRecDepth 20000 in
theorem ggL_turned_L_below : GoodIn wsL_turned wsL_below := goodIn_r _ [70, 71] (by decide +kernel) (by decide +kernel)
set_option maxRecDepth 20000 in
theorem gL_turned_L_below : GoodIn wsL_turned (va_wsS RL 18 yL_below wsL_below) := goodIn_app (goodIn_of _ (by decide +kernel)) ggL_turned_L_below
set_option maxRecDepth 20000 in
theorem ggL_turned_X6_ofPoint : GoodIn wsL_turned wsX6_ofPoint := goodIn_ca (goodIn_ca (goodIn_r _ [75, 7, 6, 9, 10, 76, 77, 78, 4, 79, 80, 81, 12, 13, 14, 15, 16, 82, 32, 33, 34, 35, 36, 37, 17, 18, 19, 20, 21, 22, 23, 83, 55, 56, 84, 85, 86, 87, 88, 89, 90, 91, 92, 93, 62, 63, 64, 65, 66, 125, 126, 127, 128, 129, 130, 131, 140, 141, 142, 143, 144, 145, 146, 147, 148, 149, 150, 151, 152, 153, 154, 160, 161, 162, 163, 164, 165, 166, 167, 132, 133, 134, 135, 136, 137, 138, 139] (by decide +kernel) (by decide +kernel)) (goodIn_sub (fun _ h => List.mem_cons_of_mem _ (List.mem_append_right _ h)) (by decide +kernel))) (goodIn_sub (fun _ h => List.mem_cons_of_mem _ (List.mem_append_left _ (List.mem_append_right _ h))) (by decide +kernel))
set_option maxRecDepth 20000 in
theorem gL_turned_X6_ofPoint : GoodIn wsL_turned (wsV RL 45 RX6 yX6_ofPoint wsX6_ofPoint) := goodIn_app (goodIn_of _ (by decide +kernel)) ggL_turned_X6_ofPoint
set_option maxRecDepth 20000 in
theorem ggL_turned_X6_turn : GoodIn wsL_turned wsX6_turn := goodIn_ca (goodIn_r _ [97, 10, 76, 77, 78, 4, 79, 80, 81, 6, 98, 99, 100, 101, 102, 103, 104, 27, 105, 106, 107, 108, 109, 110, 111, 112, 113, 114, 115, 29, 116, 30, 55, 56, 117, 118, 119, 120, 121, 122, 123, 124, 24, 25, 26, 28, 31, 32, 33, 34, 35, 36, 37, 125, 126, 127, 128, 129, 130, 131, 132, 133, 134, 135, 136, 137, 138, 139, 163, 164, 165, 166, 167] (by decide +kernel) (by decide +kernel)) (goodIn_sub (fun _ h => List.mem_cons_of_mem _ (List.mem_append_right _ h)) (by decide +kernel))
set_option maxRecDepth 20000 in
theorem gL_turned_X6_turn : GoodIn wsL_turned (wsV RL 48 RX6 yX6_turn wsX6_turn) := goodIn_app (goodIn_of _ (by decide +kernel)) ggL_turned_X6_turn
theorem dL_turned_0 : decode cL_turned 0 = .ok (.iload_n 1, 1) := by decide +kernel
theorem dL_turned_1 : decode cL_turned 1 = .ok (.aload_n 0, 1) := by decide +kernel
theorem dL_turned_2 : decode cL_turned 2 = .ok (.iconst 0, 1) := by decide +kernel
theorem dL_turned_3 : decode cL_turned 3 = .ok (.invokevirtual 37, 3) := by decide +kernel
theorem dL_turned_6 : decode cL_turned 6 = .ok (.invokestatic 18, 3) := by decide +kernel
theorem dL_turned_9 : decode cL_turned 9 = .ok (.istore_n 2, 1) := by decide +kernel
theorem dL_turned_10 : decode cL_turned 10 = .ok (.aload_n 0, 1) := by decide +kernel
theorem dL_turned_11 : decode cL_turned 11 = .ok (.iload_n 2, 1) := by decide +kernel
theorem dL_turned_12 : decode cL_turned 12 = .ok (.bipush 6, 2) := by decide +kernel
theorem dL_turned_14 : decode cL_turned 14 = .ok (.invokevirtual 45, 3) := by decide +kernel
theorem dL_turned_17 : decode cL_turned 17 = .ok (.ifCond .le 22, 3) := by decide +kernel
theorem dL_turned_20 : decode cL_turned 20 = .ok (.aload_n 0, 1) := by decide +kernel
theorem dL_turned_21 : decode cL_turned 21 = .ok (.iload_n 2, 1) := by decide +kernel
theorem dL_turned_22 : decode cL_turned 22 = .ok (.iload_n 1, 1) := by decide +kernel
theorem dL_turned_23 : decode cL_turned 23 = .ok (.iconst 3, 1) := by decide +kernel
theorem dL_turned_24 : decode cL_turned 24 = .ok (.ishr, 1) := by decide +kernel
theorem dL_turned_25 : decode cL_turned 25 = .ok (.aload_n 0, 1) := by decide +kernel
theorem dL_turned_26 : decode cL_turned 26 = .ok (.iload_n 2, 1) := by decide +kernel
theorem dL_turned_27 : decode cL_turned 27 = .ok (.bipush 6, 2) := by decide +kernel
theorem dL_turned_29 : decode cL_turned 29 = .ok (.invokevirtual 45, 3) := by decide +kernel
theorem dL_turned_32 : decode cL_turned 32 = .ok (.invokestatic 18, 3) := by decide +kernel
theorem dL_turned_35 : decode cL_turned 35 = .ok (.invokevirtual 48, 3) := by decide +kernel
theorem dL_turned_38 : decode cL_turned 38 = .ok (.pop, 1) := by decide +kernel
theorem dL_turned_39 : decode cL_turned 39 = .ok (.return_, 1) := by decide +kernel
set_option maxRecDepth 20000 in
theorem ggL_isDone_X6_net : GoodIn wsL_isDone wsX6_net := goodIn_ca (goodIn_r _ [11, 12, 13, 14, 15, 16, 17, 18, 19, 10, 20, 21, 22, 23, 24, 25, 26, 27, 28, 29, 30, 31, 32, 33, 34, 35, 36, 37, 38, 39, 40, 41, 42, 43, 44, 45, 46, 47, 48, 49, 50, 51, 52, 53, 4, 5, 6, 54, 55, 56, 57, 58, 59, 60, 61, 62, 63, 64, 65, 66, 67, 68, 69, 306, 307, 308, 309, 310, 311, 312, 313, 314, 315, 316, 317, 318, 319, 320, 321, 322, 323, 324, 325, 326, 327, 328, 329, 330, 331, 332, 333, 334, 335, 336, 337, 338, 339, 340, 341, 342, 343, 344, 345, 346, 347, 348] (by decide +kernel) (by decide +kernel)) (goodIn_sub (fun _ h => List.mem_cons_of_mem _ (List.mem_append_left _ (List.mem_append_left _ (List.mem_append_right _ h)))) (by decide +kernel))
set_option maxRecDepth 20000 in
theorem gL_isDone_X6_net : GoodIn wsL_isDone (wsV RL 37 RX6 yX6_net wsX6_net) := goodIn_app (goodIn_of _ (by decide +kernel)) ggL_isDone_X6_net
set_option maxRecDepth 20000 in
theorem ggL_isDone_L_below : GoodIn wsL_isDone wsL_below := goodIn_r _ [73, 74] (by decide +kernel) (by decide +kernel)
set_option maxRecDepth 20000 in
theorem gL_isDone_L_below : GoodIn wsL_isDone (va_wsS RL 18 yL_below wsL_below) := goodIn_app (goodIn_of _ (by decide +kernel)) ggL_isDone_L_below
set_option maxRecDepth 20000 in
theorem ggL_isDone_X6_point : GoodIn wsL_isDone wsX6_point := goodIn_ca (goodIn_r _ [78, 79, 80, 12, 81, 82, 83, 40, 84, 52, 85, 86, 87, 10, 88, 13, 14, 15, 16, 89, 90, 91, 92, 93, 94, 95, 96, 97, 98, 99, 58, 59, 100, 101, 102, 103, 104, 105, 106, 107, 68, 69, 108, 109, 110, 111, 112, 113, 114, 115, 116, 117, 118, 119, 120, 121, 122, 123, 124, 125, 126, 127, 128, 129, 130, 131, 132, 133, 134, 38, 39, 41, 42, 43, 135, 136, 137, 138, 139, 140, 141, 142, 143, 144, 145, 146, 147, 148, 149, 150, 5, 151, 152, 153, 154, 155, 156, 157, 158, 159, 160, 161, 162, 163, 164, 165, 166, 167, 168, 169, 170, 171, 172, 173, 174, 175, 176, 177, 178, 179, 180, 181, 182, 183, 184, 185, 186, 187, 188, 189, 190, 191, 192, 193, 194, 195, 196, 197, 198, 199, 200, 201, 202, 203, 204, 205, 206, 207, 208, 209, 210, 211, 4, 6, 212, 65, 66, 67, 213, 214, 215, 216, 217, 218, 219, 33, 220, 35, 221, 36, 222, 223, 224, 225, 226, 227, 228, 229, 230, 231, 232, 233, 234, 235, 306, 307, 308, 309, 310, 311, 312, 313, 314, 315, 316, 317, 318, 319, 320, 321, 322, 323, 324, 325, 326, 327, 328, 329, 330, 331, 332, 333, 334, 335, 336, 337, 338, 339, 340, 341, 342, 343, 344, 345, 346, 347, 348] (by decide +kernel) (by decide +kernel)) (goodIn_sub (fun _ h => List.mem_cons_of_mem _ (List.mem_append_left _ (List.mem_append_right _ h))) (by decide +kernel))
set_option maxRecDepth 20000 in
theorem gL_isDone_X6_point : GoodIn wsL_isDone (wsV RL 22 RX6 yX6_point wsX6_point) := goodIn_app (goodIn_of _ (by decide +kernel)) ggL_isDone_X6_point
set_option maxRecDepth 20000 in
theorem ggL_isDone_X6_line : GoodIn wsL_isDone wsX6_line := goodIn_ca (goodIn_ca (goodIn_ca (goodIn_r _ [239, 79, 80, 12, 240, 150, 5, 151, 241, 4, 6, 16, 242, 243, 244, 10, 245, 246, 247, 248, 249, 250, 21, 22, 251, 252, 253, 254, 255, 256, 40, 257, 68, 143, 144, 258, 69, 42, 43, 259, 260, 261, 33, 262, 226, 227, 85, 86, 87, 88, 13, 14, 15, 89, 90, 91, 92, 93, 94, 95, 96, 97, 98, 99, 58, 59, 100, 101, 102, 103, 52, 104, 105, 106, 107, 108, 109, 110, 111, 112, 113, 114, 115, 116, 117, 118, 119, 120, 121, 122, 123, 124, 125, 126, 127, 128, 129, 130, 131, 132, 133, 134, 38, 39, 41, 135, 136, 137, 138, 139, 140, 141, 142, 145, 146, 147, 148, 149, 152, 153, 154, 155, 156, 157, 158, 159, 160, 161, 162, 163, 164, 165, 166, 167, 168, 169, 170, 171, 172, 173, 174, 175, 176, 177, 178, 179, 180, 181, 182, 183, 184, 185, 186, 187, 188, 189, 190, 191, 192, 193, 194, 195, 196, 197, 198, 199, 200, 201, 202, 203, 204, 205, 206, 207, 208, 209, 210, 211, 212, 65, 66, 67, 213, 214, 215, 216, 217, 218, 219, 220, 35, 221, 36, 222, 223, 224, 225, 228, 229, 230, 231, 232, 233, 234, 235, 306, 307, 308, 309, 310, 311, 312, 313, 314, 315, 316, 317, 318, 319, 320, 344, 345, 346, 347, 348, 321, 322, 323, 324, 325, 326, 327, 328, 329, 330, 331, 332, 333, 334, 335, 336, 337, 338, 339, 340, 341, 342, 343] (by decide +kernel) (by decide +kernel)) (goodIn_sub (fun _ h => List.mem_cons_of_mem _ (List.mem_append_left _ (List.mem_append_right _ h))) (by decide +kernel))) (goodIn_sub (fun _ h => List.mem_cons_of_mem _ (List.mem_append_right _ h)) (by decide +kernel))) (goodIn_sub (fun _ h => List.mem_cons_of_mem _ (List.mem_append_left _ (List.mem_append_left _ (List.mem_append_right _ h)))) (by decide +kernel))
set_option maxRecDepth 20000 in
theorem gL_isDone_X6_line : GoodIn wsL_isDone (wsV RL 41 RX6 yX6_line wsX6_line) := goodIn_app (goodIn_of _ (by decide +kernel)) ggL_isDone_X6_line
set_option maxRecDepth 20000 in
theorem ggL_isDone_X6_cut : GoodIn wsL_isDone wsX6_cut := goodIn_ca (goodIn_r _ [266, 12, 13, 267, 268, 269, 10, 270, 246, 247, 271, 272, 273, 40, 274, 43, 85, 86, 87, 88, 14, 15, 16, 89, 90, 91, 92, 93, 94, 95, 96, 97, 98, 99, 58, 59, 100, 101, 102, 103, 52, 104, 105, 106, 107, 68, 69, 108, 109, 110, 111, 112, 113, 114, 115, 116, 117, 118, 119, 120, 121, 122, 123, 124, 125, 126, 127, 128, 129, 130, 131, 132, 133, 134, 38, 39, 41, 42, 135, 136, 137, 138, 139, 140, 141, 142, 143, 144, 145, 146, 147, 148, 149, 150, 5, 151, 152, 153, 154, 155, 156, 157, 158, 159, 160, 161, 162, 163, 164, 165, 166, 167, 168, 169, 170, 171, 172, 173, 174, 175, 176, 177, 178, 179, 180, 181, 182, 183, 184, 185, 186, 187, 188, 189, 190, 191, 192, 193, 194, 195, 196, 197, 198, 199, 200, 201, 202, 203, 204, 205, 206, 207, 208, 209, 210, 211, 4, 6, 212, 65, 66, 67, 213, 214, 215, 216, 217, 218, 219, 33, 220, 35, 221, 36, 222, 223, 224, 225, 226, 227, 228, 229, 230, 231, 232, 233, 234, 235, 306, 307, 308, 309, 310, 311, 312, 321, 322, 323, 324, 325, 326, 327, 328, 329, 330, 331, 332, 333, 334, 335, 313, 314, 315, 316, 317, 318, 319, 320, 336, 337, 338, 339, 340, 341, 342, 343, 344, 345, 346, 347, 348] (by decide +kernel) (by decide +kernel)) (goodIn_sub (fun _ h => List.mem_cons_of_mem _ (List.mem_append_right _ h)) (by decide +kernel))
set_option maxRecDepth 20000 in
theorem gL_isDone_X6_cut : GoodIn wsL_isDone (wsV RL 30 RX6 yX6_cut wsX6_cut) := goodIn_app (goodIn_of _ (by decide +kernel)) ggL_isDone_X6_cut
set_option maxRecDepth 20000 in
theorem ggL_isDone_X6_price : GoodIn wsL_isDone wsX6_price := goodIn_ca (goodIn_ca (goodIn_r _ [278, 12, 14, 267, 268, 269, 10, 270, 246, 247, 251, 252, 253, 21, 22, 180, 181, 182, 183, 184, 185, 186, 187, 188, 101, 102, 40, 103, 52, 189, 120, 121, 122, 58, 59, 123, 105, 106, 107, 68, 69, 190, 191, 192, 193, 194, 195, 196, 197, 198, 306, 307, 308, 309, 310, 311, 312, 313, 314, 315, 316, 317, 318, 319, 320, 336, 337, 338, 339, 340] (by decide +kernel) (by decide +kernel)) (goodIn_sub (fun _ h => List.mem_cons_of_mem _ (List.mem_append_right _ h)) (by decide +kernel))) (goodIn_sub (fun _ h => List.mem_cons_of_mem _ (List.mem_append_left _ (List.mem_append_left _ (List.mem_append_right _ h)))) (by decide +kernel))
set_option maxRecDepth 20000 in
theorem gL_isDone_X6_price : GoodIn wsL_isDone (wsV RL 56 RX6 yX6_price wsX6_price) := goodIn_app (goodIn_of _ (by decide +kernel)) ggL_isDone_X6_price
set_option maxRecDepth 20000 in
theorem ggL_isDone_L_turned : GoodIn wsL_isDone wsL_turned := goodIn_ca (goodIn_ca (goodIn_r _ [281, 7, 8, 9, 10, 11, 12, 13, 14, 15, 16, 17, 18, 19, 20, 21, 22, 23, 24, 25, 26, 27, 28, 29, 30, 31, 32, 33, 34, 35, 36, 37, 38, 39, 40, 41, 42, 43, 44, 45, 46, 47, 48, 49, 50, 51, 52, 53, 4, 5, 6, 54, 55, 56, 57, 58, 59, 60, 61, 62, 63, 64, 65, 66, 67, 68, 69, 70, 71, 72, 73, 74, 282, 283, 284, 285, 242, 243, 244, 245, 246, 247, 286, 287, 288, 289, 290, 92, 291, 99, 157, 134, 292, 293, 294, 295, 296, 297, 298, 299, 300, 301, 302, 303, 304, 305, 227, 232, 233, 234, 235, 226, 217, 218, 219, 220, 221, 222, 223, 224, 225, 228, 229, 230, 231, 306, 307, 308, 309, 310, 311, 312, 313, 314, 315, 316, 317, 318, 319, 320, 321, 322, 323, 324, 325, 326, 327, 328, 329, 330, 331, 332, 333, 334, 335, 336, 337, 338, 339, 340, 341, 342, 343, 344, 345, 346, 347, 348] (by decide +kernel) (by decide +kernel)) (goodIn_sub (fun _ h => List.mem_cons_of_mem _ (List.mem_append_left _ (List.mem_append_left _ (List.mem_append_right _ h)))) (by decide +kernel))) (goodIn_sub (fun _ h => List.mem_cons_of_mem _ (List.mem_append_right _ h)) (by decide +kernel))
set_option maxRecDepth 20000 in
theorem gL_isDone_L_turned : GoodIn wsL_isDone (va_wsS RL 34 yL_turned wsL_turned) := goodIn_app (goodIn_of _ (by decide +kernel)) ggL_isDone_L_turned
theorem dL_isDone_0 : decode cL_isDone 0 = .ok (.iload_n 1, 1) := by decide +kernel
theorem dL_isDone_1 : decode cL_isDone 1 = .ok (.iconst 4, 1) := by decide +kernel
theorem dL_isDone_2 : decode cL_isDone 2 = .ok (.ishr, 1) := by decide +kernel
theorem dL_isDone_3 : decode cL_isDone 3 = .ok (.iconst 1, 1) := by decide +kernel
theorem dL_isDone_4 : decode cL_isDone 4 = .ok (.aload_n 0, 1) := by decide +kernel
theorem dL_isDone_5 : decode cL_isDone 5 = .ok (.iconst 1, 1) := by decide +kernel
theorem dL_isDone_6 : decode cL_isDone 6 = .ok (.invokevirtual 37, 3) := by decide +kernel
theorem dL_isDone_9 : decode cL_isDone 9 = .ok (.invokestatic 51, 3) := by decide +kernel
theorem dL_isDone_12 : decode cL_isDone 12 = .ok (.invokestatic 18, 3) := by decide +kernel
theorem dL_isDone_15 : decode cL_isDone 15 = .ok (.istore_n 2, 1) := by decide +kernel
theorem dL_isDone_16 : decode cL_isDone 16 = .ok (.iload_n 1, 1) := by decide +kernel
theorem dL_isDone_17 : decode cL_isDone 17 = .ok (.bipush 8, 2) := by decide +kernel
theorem dL_isDone_19 : decode cL_isDone 19 = .ok (.invokestatic 18, 3) := by decide +kernel
theorem dL_isDone_22 : decode cL_isDone 22 = .ok (.tableswitch 149 0 5 #[38, 46, 109, 109, 119, 129], 38) := by decide +kernel
theorem dL_isDone_60 : decode cL_isDone 60 = .ok (.aload_n 0, 1) := by decide +kernel
theorem dL_isDone_61 : decode cL_isDone 61 = .ok (.invokevirtual 22, 3) := by decide +kernel
theorem dL_isDone_64 : decode cL_isDone 64 = .ok (.pop, 1) := by decide +kernel
theorem dL_isDone_65 : decode cL_isDone 65 = .ok (.goto 113, 3) := by decide +kernel
theorem dL_isDone_68 : decode cL_isDone 68 = .ok (.aload_n 0, 1) := by decide +kernel
theorem dL_isDone_69 : decode cL_isDone 69 = .ok (.iload_n 1, 1) := by decide +kernel
theorem dL_isDone_70 : decode cL_isDone 70 = .ok (.iconst 3, 1) := by decide +kernel
theorem dL_isDone_71 : decode cL_isDone 71 = .ok (.ishr, 1) := by decide +kernel
theorem dL_isDone_72 : decode cL_isDone 72 = .ok (.aload_n 0, 1) := by decide +kernel
theorem dL_isDone_73 : decode cL_isDone 73 = .ok (.iconst 0, 1) := by decide +kernel
theorem dL_isDone_74 : decode cL_isDone 74 = .ok (.invokevirtual 37, 3) := by decide +kernel
theorem dL_isDone_77 : decode cL_isDone 77 = .ok (.invokestatic 18, 3) := by decide +kernel
theorem dL_isDone_80 : decode cL_isDone 80 = .ok (.iload_n 1, 1) := by decide +kernel
theorem dL_isDone_81 : decode cL_isDone 81 = .ok (.iconst 3, 1) := by decide +kernel
theorem dL_isDone_82 : decode cL_isDone 82 = .ok (.ishr, 1) := by decide +kernel
theorem dL_isDone_83 : decode cL_isDone 83 = .ok (.aload_n 0, 1) := by decide +kernel
theorem dL_isDone_84 : decode cL_isDone 84 = .ok (.iconst 0, 1) := by decide +kernel
theorem dL_isDone_85 : decode cL_isDone 85 = .ok (.invokevirtual 37, 3) := by decide +kernel
theorem dL_isDone_88 : decode cL_isDone 88 = .ok (.invokestatic 18, 3) := by decide +kernel
theorem dL_isDone_91 : decode cL_isDone 91 = .ok (.iconst 1, 1) := by decide +kernel
theorem dL_isDone_92 : decode cL_isDone 92 = .ok (.iadd, 1) := by decide +kernel
theorem dL_isDone_93 : decode cL_isDone 93 = .ok (.iload_n 1, 1) := by decide +kernel
theorem dL_isDone_94 : decode cL_isDone 94 = .ok (.bipush 6, 2) := by decide +kernel
theorem dL_isDone_96 : decode cL_isDone 96 = .ok (.ishr, 1) := by decide +kernel
theorem dL_isDone_97 : decode cL_isDone 97 = .ok (.aload_n 0, 1) := by decide +kernel
theorem dL_isDone_98 : decode cL_isDone 98 = .ok (.iconst 0, 1) := by decide +kernel
theorem dL_isDone_99 : decode cL_isDone 99 = .ok (.invokevirtual 37, 3) := by decide +kernel
theorem dL_isDone_102 : decode cL_isDone 102 = .ok (.iconst 1, 1) := by decide +kernel
theorem dL_isDone_103 : decode cL_isDone 103 = .ok (.isub, 1) := by decide +kernel
theorem dL_isDone_104 : decode cL_isDone 104 = .ok (.invokestatic 18, 3) := by decide +kernel
theorem dL_isDone_107 : decode cL_isDone 107 = .ok (.iadd, 1) := by decide +kernel
theorem dL_isDone_108 : decode cL_isDone 108 = .ok (.aload_n 0, 1) := by decide +kernel
theorem dL_isDone_109 : decode cL_isDone 109 = .ok (.iconst 0, 1) := by decide +kernel
theorem dL_isDone_110 : decode cL_isDone 110 = .ok (.invokevirtual 37, 3) := by decide +kernel
theorem dL_isDone_113 : decode cL_isDone 113 = .ok (.irem, 1) := by decide +kernel
theorem dL_isDone_114 : decode cL_isDone 114 = .ok (.iconst 1, 1) := by decide +kernel
theorem dL_isDone_115 : decode cL_isDone 115 = .ok (.iload_n 1, 1) := by decide +kernel
theorem dL_isDone_116 : decode cL_isDone 116 = .ok (.iconst 5, 1) := by decide +kernel
theorem dL_isDone_117 : decode cL_isDone 117 = .ok (.ishr, 1) := by decide +kernel
theorem dL_isDone_118 : decode cL_isDone 118 = .ok (.bipush 20, 2) := by decide +kernel
theorem dL_isDone_120 : decode cL_isDone 120 = .ok (.invokestatic 18, 3) := by decide +kernel
theorem dL_isDone_123 : decode cL_isDone 123 = .ok (.iadd, 1) := by decide +kernel
theorem dL_isDone_124 : decode cL_isDone 124 = .ok (.invokevirtual 41, 3) := by decide +kernel
theorem dL_isDone_127 : decode cL_isDone 127 = .ok (.pop, 1) := by decide +kernel
theorem dL_isDone_128 : decode cL_isDone 128 = .ok (.goto 50, 3) := by decide +kernel
theorem dL_isDone_131 : decode cL_isDone 131 = .ok (.aload_n 0, 1) := by decide +kernel
theorem dL_isDone_132 : decode cL_isDone 132 = .ok (.iload_n 2, 1) := by decide +kernel
theorem dL_isDone_133 : decode cL_isDone 133 = .ok (.iconst 1, 1) := by decide +kernel
theorem dL_isDone_134 : decode cL_isDone 134 = .ok (.invokevirtual 30, 3) := by decide +kernel
theorem dL_isDone_137 : decode cL_isDone 137 = .ok (.pop, 1) := by decide +kernel
theorem dL_isDone_138 : decode cL_isDone 138 = .ok (.goto 40, 3) := by decide +kernel
theorem dL_isDone_141 : decode cL_isDone 141 = .ok (.aload_n 0, 1) := by decide +kernel
theorem dL_isDone_142 : decode cL_isDone 142 = .ok (.iload_n 2, 1) := by decide +kernel
theorem dL_isDone_143 : decode cL_isDone 143 = .ok (.iconst 0, 1) := by decide +kernel
theorem dL_isDone_144 : decode cL_isDone 144 = .ok (.invokevirtual 30, 3) := by decide +kernel
theorem dL_isDone_147 : decode cL_isDone 147 = .ok (.pop, 1) := by decide +kernel
theorem dL_isDone_148 : decode cL_isDone 148 = .ok (.goto 30, 3) := by decide +kernel
theorem dL_isDone_151 : decode cL_isDone 151 = .ok (.aload_n 0, 1) := by decide +kernel
theorem dL_isDone_152 : decode cL_isDone 152 = .ok (.iload_n 2, 1) := by decide +kernel
theorem dL_isDone_153 : decode cL_isDone 153 = .ok (.iconst 1, 1) := by decide +kernel
theorem dL_isDone_154 : decode cL_isDone 154 = .ok (.iload_n 1, 1) := by decide +kernel
theorem dL_isDone_155 : decode cL_isDone 155 = .ok (.bipush 7, 2) := by decide +kernel
theorem dL_isDone_157 : decode cL_isDone 157 = .ok (.ishr, 1) := by decide +kernel
theorem dL_isDone_158 : decode cL_isDone 158 = .ok (.bipush 20, 2) := by decide +kernel
theorem dL_isDone_160 : decode cL_isDone 160 = .ok (.invokestatic 18, 3) := by decide +kernel
theorem dL_isDone_163 : decode cL_isDone 163 = .ok (.iadd, 1) := by decide +kernel
theorem dL_isDone_164 : decode cL_isDone 164 = .ok (.invokevirtual 56, 3) := by decide +kernel
theorem dL_isDone_167 : decode cL_isDone 167 = .ok (.pop, 1) := by decide +kernel
theorem dL_isDone_168 : decode cL_isDone 168 = .ok (.goto 10, 3) := by decide +kernel
theorem dL_isDone_171 : decode cL_isDone 171 = .ok (.aload_n 0, 1) := by decide +kernel
theorem dL_isDone_172 : decode cL_isDone 172 = .ok (.iload_n 1, 1) := by decide +kernel
theorem dL_isDone_173 : decode cL_isDone 173 = .ok (.iconst 3, 1) := by decide +kernel
theorem dL_isDone_174 : decode cL_isDone 174 = .ok (.ishr, 1) := by decide +kernel
theorem dL_isDone_175 : decode cL_isDone 175 = .ok (.invokestatic 34, 3) := by decide +kernel
theorem dL_isDone_178 : decode cL_isDone 178 = .ok (.iconst 1, 1) := by decide +kernel
theorem dL_isDone_179 : decode cL_isDone 179 = .ok (.ireturn, 1) := by decide +kernel
theorem dL_isDone_180 : decode cL_isDone 180 = .ok (.astore_n 3, 1) := by decide +kernel
theorem dL_isDone_181 : decode cL_isDone 181 = .ok (.iconst 0, 1) := by decide +kernel
theorem dL_isDone_182 : decode cL_isDone 182 = .ok (.ireturn, 1) := by decide +kernel
theorem dL_isDone_183 : decode cL_isDone 183 = .ok (.astore_n 3, 1) := by decide +kernel
theorem dL_isDone_184 : decode cL_isDone 184 = .ok (.aload_n 0, 1) := by decide +kernel
theorem dL_isDone_185 : decode cL_isDone 185 = .ok (.iconst 1, 1) := by decide +kernel
theorem dL_isDone_186 : decode cL_isDone 186 = .ok (.invokevirtual 37, 3) := by decide +kernel
theorem dL_isDone_189 : decode cL_isDone 189 = .ok (.ifCond .ne 7, 3) := by decide +kernel
theorem dL_isDone_192 : decode cL_isDone 192 = .ok (.iconst 1, 1) := by decide +kernel
theorem dL_isDone_193 : decode cL_isDone 193 = .ok (.goto 4, 3) := by decide +kernel
theorem dL_isDone_196 : decode cL_isDone 196 = .ok (.iconst 0, 1) := by decide +kernel
theorem dL_isDone_197 : decode cL_isDone 197 = .ok (.ireturn, 1) := by decide +kernel
set_option maxRecDepth 20000 in
theorem ggL_law_L_net : GoodIn wsL_law wsL_net := goodIn_ca (goodIn_ca (goodIn_ca (goodIn_r _ [3, 4, 5, 6, 7, 8, 9, 10, 11, 12, 13, 14, 15, 16, 17, 18, 19, 20, 21, 22, 23, 24, 25, 26, 27, 28, 29, 30, 31, 32, 33, 34, 35, 36, 37, 38, 39, 40, 41, 42, 43, 44, 45, 46, 47, 48, 49, 50, 51, 52, 53, 54, 55, 56, 57, 58, 59, 60, 61, 62, 63, 64, 65, 66, 67, 68, 69, 70, 71, 72, 73, 74, 75, 76, 77, 78, 79, 80, 81, 82, 83, 84, 85, 86, 87, 88, 89, 90, 91, 92, 93, 94, 95, 96, 97, 98, 99, 100, 101, 102, 103, 104, 105, 106, 107, 2, 108, 109, 110, 111, 112, 113, 114, 115, 116, 117, 118, 119, 120, 121, 122, 123, 124, 125, 126, 127, 128, 129, 130, 131, 132, 133, 134, 135, 136, 137, 138, 139, 140, 141, 142, 143, 144, 145, 146, 147, 148, 149, 150, 151, 152, 153, 154, 155, 156, 157, 158, 159, 160, 161, 162, 163, 164, 165, 166, 167, 168, 169, 170, 171, 172, 173, 174, 175, 176, 177, 178, 179, 180, 181, 182, 183, 184, 185, 186, 187, 188, 189, 190, 191, 192, 193, 194, 195, 196, 197, 198, 199, 200, 201, 202, 203, 204, 205, 206, 207, 208, 209, 210, 211, 212, 213, 214, 215, 216, 217, 218, 219, 220, 221, 222, 223, 224, 225, 226, 227, 228, 229, 230, 231, 232, 233, 234, 235, 236, 237, 238, 239, 240, 241, 242, 243, 244, 245, 246, 247, 248, 249, 250, 251, 252, 253, 254, 255, 256, 257, 258, 259, 260, 261, 262, 263, 264, 265, 266, 267, 268, 269, 270, 271, 272, 273, 274, 275, 276, 277, 278, 279, 280, 281, 282, 283, 284, 285, 286, 287, 288, 289, 290, 291, 292, 293, 294, 295, 296, 297, 298, 299, 300, 301, 302, 303, 304, 305, 306, 307, 308, 309, 310, 311, 312, 313, 314, 315, 316, 317, 318, 319, 320, 321, 322, 323, 324, 325, 326, 327, 328, 329, 330, 331, 332, 333, 334, 335, 336, 337, 338, 339, 340, 341, 342, 343, 344, 345, 346, 347, 348, 349, 350, 351, 352, 353, 354, 355, 356, 357, 358, 359, 360, 361, 362, 536, 537, 538, 539, 540, 541, 542, 543, 544, 545, 546, 547, 548, 549, 550, 551, 552, 553, 554, 555, 556, 557, 558, 559, 560, 561, 562, 563, 564, 565, 566, 567, 568, 569, 570, 571, 572, 573, 574, 575, 576, 577, 578, 579, 580, 581, 582] (by decide +kernel) (by decide +kernel)) (goodIn_sub (fun _ h => List.mem_append_left _ (List.mem_append_left _ (List.mem_append_right _ h))) (by decide +kernel))) (goodIn_sub (fun _ h => List.mem_append_left _ (List.mem_append_right _ h)) (by decide +kernel))) (goodIn_sub (fun _ h => List.mem_append_right _ h) (by decide +kernel))
set_option maxRecDepth 20000 in
theorem gL_law_L_net : GoodIn wsL_law (va_wsS RL 66 yL_net wsL_net) := goodIn_app (goodIn_of _ (by decide +kernel)) ggL_law_L_net
set_option maxRecDepth 20000 in
theorem ggL_law_X6_net : GoodIn wsL_law wsX6_net := goodIn_ca (goodIn_r _ [262, 16, 20, 28, 32, 36, 37, 263, 264, 6, 265, 266, 267, 268, 269, 270, 271, 272, 273, 274, 275, 276, 277, 35, 278, 103, 105, 279, 168, 169, 15, 170, 49, 43, 280, 281, 282, 283, 284, 285, 286, 287, 41, 288, 230, 185, 231, 289, 290, 291, 292, 136, 137, 293, 294, 295, 296, 297, 233, 234, 235, 42, 48, 536, 537, 538, 539, 540, 541, 542, 543, 544, 545, 546, 547, 548, 549, 550, 551, 552, 553, 554, 555, 556, 557, 558, 559, 560, 561, 562, 563, 564, 565, 570, 571, 572, 573, 574, 575, 576, 577, 578, 579, 580, 581, 582] (by decide +kernel) (by decide +kernel)) (goodIn_sub (fun _ h => List.mem_append_left _ (List.mem_append_right _ h)) (by decide +kernel))
set_option maxRecDepth 20000 in
theorem gL_law_X6_net : GoodIn wsL_law (wsV RL 37 RX6 yX6_net wsX6_net) := goodIn_app (goodIn_of _ (by decide +kernel)) ggL_law_X6_net
set_option maxRecDepth 20000 in
theorem ggL_law_L_isParted : GoodIn wsL_law wsL_isParted := goodIn_ca (goodIn_ca (goodIn_r _ [365, 366, 367, 368, 6, 369, 24, 16, 304, 305, 306, 307, 308, 309, 310, 311, 312, 266, 267, 263, 264, 265, 370, 371, 372, 23, 373, 77, 74, 374, 375, 376, 377, 136, 137, 378, 379, 380, 381, 382, 383, 384, 385, 75, 76, 386, 387, 388, 389, 390, 391, 392, 393, 394, 290, 291, 15, 292, 293, 294, 295, 296, 41, 297, 233, 234, 235, 42, 49, 43, 48, 395, 396, 397, 398, 399, 400, 139, 140, 141, 401, 269, 270, 271, 272, 273, 274, 402, 403, 404, 405, 406, 143, 144, 145, 407, 408, 409, 410, 411, 412, 413, 414, 415, 168, 169, 170, 416, 339, 340, 341, 342, 20, 32, 36, 343, 268, 344, 345, 346, 347, 19, 348, 68, 63, 167, 349, 350, 417, 418, 419, 420, 421, 422, 423, 155, 156, 157, 158, 259, 260, 261, 262, 28, 37, 275, 276, 277, 35, 278, 103, 105, 279, 280, 281, 282, 283, 284, 285, 286, 287, 288, 230, 185, 231, 289, 424, 425, 2, 426, 536, 537, 538, 539, 540, 541, 542, 543, 544, 545, 546, 547, 548, 549, 550, 566, 567, 568, 569, 551, 552, 553, 554, 555, 556, 557, 558, 559, 560, 561, 562, 563, 564, 565, 575, 576, 577, 578, 579, 580, 581, 582, 570, 571, 572, 573, 574] (by decide +kernel) (by decide +kernel)) (goodIn_sub (fun _ h => List.mem_append_right _ h) (by decide +kernel))) (goodIn_sub (fun _ h => List.mem_append_left _ (List.mem_append_right _ h)) (by decide +kernel))
set_option maxRecDepth 20000 in
theorem gL_law_L_isParted : GoodIn wsL_law (va_wsS RL 69 yL_isParted wsL_isParted) := goodIn_app (goodIn_of _ (by decide +kernel)) ggL_law_L_isParted
set_option maxRecDepth 20000 in
theorem ggL_law_X6_digest : GoodIn wsL_law wsX6_digest := goodIn_ca (goodIn_ca (goodIn_r _ [430, 431, 16, 20, 432, 260, 261, 6, 262, 28, 32, 36, 37, 263, 264, 265, 266, 267, 268, 269, 270, 271, 272, 273, 274, 275, 276, 277, 35, 278, 103, 105, 279, 168, 169, 15, 170, 49, 43, 280, 281, 282, 283, 284, 285, 286, 287, 41, 288, 230, 185, 231, 289, 290, 291, 292, 136, 137, 293, 294, 295, 296, 297, 233, 234, 235, 42, 48, 433, 434, 435, 436, 437, 438, 439, 440, 441, 340, 341, 342, 304, 305, 306, 307, 308, 309, 343, 344, 345, 346, 347, 19, 348, 68, 63, 167, 349, 350, 442, 443, 444, 445, 446, 447, 448, 449, 102, 450, 451, 360, 361, 362, 101, 252, 253, 254, 255, 452, 241, 242, 243, 104, 244, 245, 246, 247, 248, 249, 250, 251, 453, 367, 368, 369, 24, 310, 311, 312, 370, 371, 372, 23, 373, 77, 74, 374, 375, 376, 377, 378, 379, 380, 381, 382, 383, 384, 385, 75, 76, 386, 387, 388, 389, 390, 391, 392, 393, 394, 395, 396, 397, 398, 399, 400, 139, 140, 141, 401, 402, 403, 404, 405, 406, 143, 144, 145, 407, 408, 409, 410, 411, 412, 413, 414, 415, 416, 454, 455, 456, 457, 328, 329, 330, 331, 458, 459, 460, 461, 462, 463, 464, 465, 466, 467, 468, 58, 65, 64, 469, 470, 471, 472, 473, 474, 475, 476, 59, 67, 66, 477, 478, 479, 480, 481, 482, 483, 27, 484, 485, 486, 487, 488, 84, 88, 489, 490, 491, 492, 493, 494, 495, 496, 497, 498, 499, 500, 501, 502, 503, 504, 505, 506, 507, 508, 509, 510, 511, 512, 513, 514, 515, 516, 517, 518, 519, 520, 521, 522, 523, 524, 536, 537, 538, 539, 540, 541, 542, 543, 544, 545, 546, 547, 548, 549, 550, 551, 552, 553, 554, 555, 556, 557, 558, 559, 560, 561, 562, 563, 564, 565, 570, 571, 572, 573, 574, 575, 576, 577, 578, 579, 580, 581, 582, 566, 567, 568, 569] (by decide +kernel) (by decide +kernel)) (goodIn_sub (fun _ h => List.mem_append_left _ (List.mem_append_right _ h)) (by decide +kernel))) (goodIn_sub (fun _ h => List.mem_append_right _ h) (by decide +kernel))
set_option maxRecDepth 20000 in
theorem gL_law_X6_digest : GoodIn wsL_law (wsV RL 73 RX6 yX6_digest wsX6_digest) := goodIn_app (goodIn_of _ (by decide +kernel)) ggL_law_X6_digest
set_option maxRecDepth 20000 in
theorem ggL_law_L_cell : GoodIn wsL_law wsL_cell := goodIn_r _ [108, 109] (by decide +kernel) (by decide +kernel)
set_option maxRecDepth 20000 in
theorem gL_law_L_cell : GoodIn wsL_law (va_wsS RL 12 yL_cell wsL_cell) := goodIn_app (goodIn_of _ (by decide +kernel)) ggL_law_L_cell
set_option maxRecDepth 20000 in
theorem ggL_law_L_isDone : GoodIn wsL_law wsL_isDone := goodIn_ca (goodIn_ca (goodIn_ca (goodIn_r _ [527, 528, 529, 530, 230, 185, 231, 259, 260, 261, 6, 262, 16, 20, 28, 32, 36, 37, 263, 264, 265, 266, 267, 268, 269, 270, 271, 272, 273, 274, 275, 276, 277, 35, 278, 103, 105, 279, 168, 169, 15, 170, 49, 43, 280, 281, 282, 283, 284, 285, 286, 287, 41, 288, 289, 290, 291, 292, 136, 137, 293, 294, 295, 296, 297, 233, 234, 235, 42, 48, 110, 111, 2, 112, 113, 114, 115, 116, 117, 118, 119, 120, 121, 122, 123, 124, 125, 126, 127, 128, 129, 130, 19, 131, 132, 133, 134, 135, 54, 68, 138, 139, 140, 141, 142, 143, 144, 145, 146, 147, 148, 149, 60, 61, 150, 151, 152, 153, 55, 154, 155, 156, 157, 158, 159, 160, 161, 162, 56, 163, 164, 165, 166, 62, 167, 171, 172, 173, 174, 175, 176, 177, 178, 45, 46, 179, 180, 181, 182, 183, 184, 186, 187, 188, 189, 190, 57, 63, 191, 192, 193, 194, 58, 64, 65, 195, 196, 197, 198, 199, 200, 201, 202, 59, 66, 67, 203, 204, 205, 206, 207, 208, 209, 27, 210, 85, 86, 88, 211, 212, 213, 214, 215, 216, 87, 217, 218, 219, 220, 221, 222, 223, 31, 224, 95, 93, 225, 226, 227, 228, 94, 229, 232, 236, 237, 238, 239, 240, 241, 242, 243, 104, 244, 245, 246, 247, 102, 101, 248, 249, 250, 251, 252, 253, 254, 255, 298, 299, 300, 301, 302, 303, 304, 305, 306, 307, 308, 309, 310, 311, 312, 313, 314, 315, 316, 317, 318, 319, 47, 320, 321, 322, 323, 324, 325, 326, 327, 328, 329, 330, 331, 332, 333, 334, 335, 531, 532, 533, 534, 336, 337, 338, 339, 340, 341, 342, 343, 344, 345, 346, 347, 348, 349, 350, 351, 352, 353, 354, 355, 356, 357, 358, 359, 360, 361, 362, 536, 537, 538, 539, 540, 541, 542, 543, 544, 545, 546, 547, 548, 549, 550, 551, 552, 553, 554, 555, 556, 557, 558, 559, 560, 561, 562, 563, 564, 565, 570, 571, 572, 573, 574, 575, 576, 577, 578, 579, 580, 581, 582] (by decide +kernel) (by decide +kernel)) (goodIn_sub (fun _ h => List.mem_append_left _ (List.mem_append_right _ h)) (by decide +kernel))) (goodIn_sub (fun _ h => List.mem_append_left _ (List.mem_append_left _ (List.mem_append_right _ h))) (by decide +kernel))) (goodIn_sub (fun _ h => List.mem_append_right _ h) (by decide +kernel))
set_option maxRecDepth 20000 in
theorem gL_law_L_isDone : GoodIn wsL_law (va_wsS RL 77 yL_isDone wsL_isDone) := goodIn_app (goodIn_of _ (by decide +kernel)) ggL_law_L_isDone
set_option maxRecDepth 20000 in
theorem ggL_law_X6_isSound : GoodIn wsL_law wsX6_isSound := goodIn_r _ [500, 501, 502, 503, 6, 504, 16, 505, 506, 507, 508, 24, 370, 371, 372, 23, 373, 77, 74, 374, 375, 376, 377, 136, 137, 378, 379, 380, 381, 382, 383, 384, 385, 75, 76, 386, 387, 388, 389, 390, 391, 392, 393, 395, 396, 397, 398, 399, 233, 234, 15, 235, 42, 49, 43, 48, 400, 139, 140, 141, 41, 401, 269, 270, 271, 272, 273, 274, 402, 403, 404, 405, 406, 143, 144, 145, 268, 407, 408, 409, 410, 411, 412, 413, 414, 415, 168, 169, 170, 416, 280, 281, 282, 283, 20, 36, 275, 276, 277, 35, 278, 103, 105, 279, 509, 510, 511, 512, 28, 481, 482, 483, 27, 484, 485, 486, 487, 488, 84, 88, 489, 490, 491, 492, 493, 494, 495, 496, 513, 514, 515, 516, 32, 344, 517, 518, 519, 520, 521, 522, 523, 19, 524, 68, 63, 536, 537, 538, 539, 540, 541, 542, 543, 544, 545, 546, 547, 548, 549, 550, 566, 567, 568, 569, 551, 552, 553, 554, 555, 556, 557, 558, 559, 560, 561, 562, 563, 564, 565, 578, 579, 580, 581, 582, 570, 571, 572, 573, 574, 575, 576, 577] (by decide +kernel) (by decide +kernel)
set_option maxRecDepth 20000 in
theorem gL_law_X6_isSound : GoodIn wsL_law (wsV RL 81 RX6 yX6_isSound wsX6_isSound) := goodIn_app (goodIn_of _ (by decide +kernel)) ggL_law_X6_isSound
theorem dL_law_0 : decode cL_law 0 = .ok (.aload_n 0, 1) := by decide +kernel
theorem dL_law_1 : decode cL_law 1 = .ok (.invokestatic 66, 3) := by decide +kernel
theorem dL_law_4 : decode cL_law 4 = .ok (.astore_n 1, 1) := by decide +kernel
theorem dL_law_5 : decode cL_law 5 = .ok (.iconst 0, 1) := by decide +kernel
theorem dL_law_6 : decode cL_law 6 = .ok (.istore_n 2, 1) := by decide +kernel
theorem dL_law_7 : decode cL_law 7 = .ok (.iload_n 2, 1) := by decide +kernel
theorem dL_law_8 : decode cL_law 8 = .ok (.iconst 5, 1) := by decide +kernel
theorem dL_law_9 : decode cL_law 9 = .ok (.if_icmp .ge 138, 3) := by decide +kernel
theorem dL_law_12 : decode cL_law 12 = .ok (.aload_n 1, 1) := by decide +kernel
theorem dL_law_13 : decode cL_law 13 = .ok (.iconst 0, 1) := by decide +kernel
theorem dL_law_14 : decode cL_law 14 = .ok (.invokevirtual 37, 3) := by decide +kernel
theorem dL_law_17 : decode cL_law 17 = .ok (.istore_n 3, 1) := by decide +kernel
theorem dL_law_18 : decode cL_law 18 = .ok (.iconst 0, 1) := by decide +kernel
theorem dL_law_19 : decode cL_law 19 = .ok (.istore 4, 2) := by decide +kernel
theorem dL_law_21 : decode cL_law 21 = .ok (.iload 4, 2) := by decide +kernel
theorem dL_law_23 : decode cL_law 23 = .ok (.iload_n 3, 1) := by decide +kernel
theorem dL_law_24 : decode cL_law 24 = .ok (.if_icmp .ge 40, 3) := by decide +kernel
theorem dL_law_27 : decode cL_law 27 = .ok (.iload 4, 2) := by decide +kernel
theorem dL_law_29 : decode cL_law 29 = .ok (.iconst 1, 1) := by decide +kernel
theorem dL_law_30 : decode cL_law 30 = .ok (.iadd, 1) := by decide +kernel
theorem dL_law_31 : decode cL_law 31 = .ok (.istore 5, 2) := by decide +kernel
theorem dL_law_33 : decode cL_law 33 = .ok (.iload 5, 2) := by decide +kernel
theorem dL_law_35 : decode cL_law 35 = .ok (.iload_n 3, 1) := by decide +kernel
theorem dL_law_36 : decode cL_law 36 = .ok (.if_icmp .ge 22, 3) := by decide +kernel
theorem dL_law_39 : decode cL_law 39 = .ok (.aload_n 1, 1) := by decide +kernel
theorem dL_law_40 : decode cL_law 40 = .ok (.iload 4, 2) := by decide +kernel
theorem dL_law_42 : decode cL_law 42 = .ok (.iload 5, 2) := by decide +kernel
theorem dL_law_44 : decode cL_law 44 = .ok (.invokestatic 69, 3) := by decide +kernel
theorem dL_law_47 : decode cL_law 47 = .ok (.ifCond .ne 5, 3) := by decide +kernel
theorem dL_law_50 : decode cL_law 50 = .ok (.iconst 0, 1) := by decide +kernel
theorem dL_law_51 : decode cL_law 51 = .ok (.ireturn, 1) := by decide +kernel
theorem dL_law_52 : decode cL_law 52 = .ok (.iinc 5 1, 3) := by decide +kernel
theorem dL_law_55 : decode cL_law 55 = .ok (.goto (-22), 3) := by decide +kernel
theorem dL_law_58 : decode cL_law 58 = .ok (.iinc 4 1, 3) := by decide +kernel
theorem dL_law_61 : decode cL_law 61 = .ok (.goto (-40), 3) := by decide +kernel
theorem dL_law_64 : decode cL_law 64 = .ok (.aload_n 1, 1) := by decide +kernel
theorem dL_law_65 : decode cL_law 65 = .ok (.bipush 12, 2) := by decide +kernel
theorem dL_law_67 : decode cL_law 67 = .ok (.invokevirtual 37, 3) := by decide +kernel
theorem dL_law_70 : decode cL_law 70 = .ok (.ifCond .lt 36, 3) := by decide +kernel
theorem dL_law_73 : decode cL_law 73 = .ok (.iconst 2, 1) := by decide +kernel
theorem dL_law_74 : decode cL_law 74 = .ok (.aload_n 1, 1) := by decide +kernel
theorem dL_law_75 : decode cL_law 75 = .ok (.bipush 12, 2) := by decide +kernel
theorem dL_law_77 : decode cL_law 77 = .ok (.invokevirtual 37, 3) := by decide +kernel
theorem dL_law_80 : decode cL_law 80 = .ok (.imul, 1) := by decide +kernel
theorem dL_law_81 : decode cL_law 81 = .ok (.iconst 2, 1) := by decide +kernel
theorem dL_law_82 : decode cL_law 82 = .ok (.aload_n 1, 1) := by decide +kernel
theorem dL_law_83 : decode cL_law 83 = .ok (.iconst 3, 1) := by decide +kernel
theorem dL_law_84 : decode cL_law 84 = .ok (.invokevirtual 37, 3) := by decide +kernel
theorem dL_law_87 : decode cL_law 87 = .ok (.imul, 1) := by decide +kernel
theorem dL_law_88 : decode cL_law 88 = .ok (.iload_n 3, 1) := by decide +kernel
theorem dL_law_89 : decode cL_law 89 = .ok (.isub, 1) := by decide +kernel
theorem dL_law_90 : decode cL_law 90 = .ok (.aload_n 1, 1) := by decide +kernel
theorem dL_law_91 : decode cL_law 91 = .ok (.iconst 2, 1) := by decide +kernel
theorem dL_law_92 : decode cL_law 92 = .ok (.invokevirtual 37, 3) := by decide +kernel
theorem dL_law_95 : decode cL_law 95 = .ok (.iadd, 1) := by decide +kernel
theorem dL_law_96 : decode cL_law 96 = .ok (.aload_n 1, 1) := by decide +kernel
theorem dL_law_97 : decode cL_law 97 = .ok (.bipush 11, 2) := by decide +kernel
theorem dL_law_99 : decode cL_law 99 = .ok (.invokevirtual 37, 3) := by decide +kernel
theorem dL_law_102 : decode cL_law 102 = .ok (.isub, 1) := by decide +kernel
theorem dL_law_103 : decode cL_law 103 = .ok (.if_icmp .eq 5, 3) := by decide +kernel
theorem dL_law_106 : decode cL_law 106 = .ok (.iconst 0, 1) := by decide +kernel
theorem dL_law_107 : decode cL_law 107 = .ok (.ireturn, 1) := by decide +kernel
theorem dL_law_108 : decode cL_law 108 = .ok (.aload_n 1, 1) := by decide +kernel
theorem dL_law_109 : decode cL_law 109 = .ok (.invokevirtual 73, 3) := by decide +kernel
theorem dL_law_112 : decode cL_law 112 = .ok (.lstore 4, 2) := by decide +kernel
theorem dL_law_114 : decode cL_law 114 = .ok (.aload_n 1, 1) := by decide +kernel
theorem dL_law_115 : decode cL_law 115 = .ok (.aload_n 0, 1) := by decide +kernel
theorem dL_law_116 : decode cL_law 116 = .ok (.bipush 16, 2) := by decide +kernel
theorem dL_law_118 : decode cL_law 118 = .ok (.iload_n 2, 1) := by decide +kernel
theorem dL_law_119 : decode cL_law 119 = .ok (.iadd, 1) := by decide +kernel
theorem dL_law_120 : decode cL_law 120 = .ok (.invokestatic 12, 3) := by decide +kernel
theorem dL_law_123 : decode cL_law 123 = .ok (.invokestatic 77, 3) := by decide +kernel
theorem dL_law_126 : decode cL_law 126 = .ok (.ifCond .ne 15, 3) := by decide +kernel
theorem dL_law_129 : decode cL_law 129 = .ok (.aload_n 1, 1) := by decide +kernel
theorem dL_law_130 : decode cL_law 130 = .ok (.invokevirtual 73, 3) := by decide +kernel
theorem dL_law_133 : decode cL_law 133 = .ok (.lload 4, 2) := by decide +kernel
theorem dL_law_135 : decode cL_law 135 = .ok (.lcmp, 1) := by decide +kernel
theorem dL_law_136 : decode cL_law 136 = .ok (.ifCond .eq 5, 3) := by decide +kernel
theorem dL_law_139 : decode cL_law 139 = .ok (.iconst 0, 1) := by decide +kernel
theorem dL_law_140 : decode cL_law 140 = .ok (.ireturn, 1) := by decide +kernel
theorem dL_law_141 : decode cL_law 141 = .ok (.iinc 2 1, 3) := by decide +kernel
theorem dL_law_144 : decode cL_law 144 = .ok (.goto (-137), 3) := by decide +kernel
theorem dL_law_147 : decode cL_law 147 = .ok (.aload_n 1, 1) := by decide +kernel
theorem dL_law_148 : decode cL_law 148 = .ok (.invokevirtual 73, 3) := by decide +kernel
theorem dL_law_151 : decode cL_law 151 = .ok (.lstore_n 2, 1) := by decide +kernel
theorem dL_law_152 : decode cL_law 152 = .ok (.aload_n 1, 1) := by decide +kernel
theorem dL_law_153 : decode cL_law 153 = .ok (.invokevirtual 81, 3) := by decide +kernel
theorem dL_law_156 : decode cL_law 156 = .ok (.ifCond .eq 16, 3) := by decide +kernel
theorem dL_law_159 : decode cL_law 159 = .ok (.aload_n 1, 1) := by decide +kernel
theorem dL_law_160 : decode cL_law 160 = .ok (.invokevirtual 73, 3) := by decide +kernel
theorem dL_law_163 : decode cL_law 163 = .ok (.lload_n 2, 1) := by decide +kernel
theorem dL_law_164 : decode cL_law 164 = .ok (.lcmp, 1) := by decide +kernel
theorem dL_law_165 : decode cL_law 165 = .ok (.ifCond .ne 7, 3) := by decide +kernel
theorem dL_law_168 : decode cL_law 168 = .ok (.iconst 1, 1) := by decide +kernel
theorem dL_law_169 : decode cL_law 169 = .ok (.goto 4, 3) := by decide +kernel
theorem dL_law_172 : decode cL_law 172 = .ok (.iconst 0, 1) := by decide +kernel
theorem dL_law_173 : decode cL_law 173 = .ok (.ireturn, 1) := by decide +kernel
set_option maxRecDepth 20000 in
theorem ggL_isParted_X6_between : GoodIn wsL_isParted wsX6_between := goodIn_ca (goodIn_ca (goodIn_r _ [5, 6, 7, 8, 9, 10, 4, 11, 12, 13, 14, 15, 16, 17, 18, 19, 20, 21, 22, 23, 24, 25, 26, 27, 28, 29, 30, 31, 32, 33, 34, 35, 36, 37, 38, 39, 40, 41, 42, 43, 44, 45, 46, 47, 48, 49, 50, 51, 52, 53, 54, 55, 56, 57, 58, 59, 60, 61, 62, 63, 64, 65, 66, 67, 68, 69, 70, 71, 72, 73, 74, 75, 76, 77, 78, 79, 80, 81, 82, 83, 84, 85, 86, 87, 88, 89, 90, 91, 92, 93, 94, 95, 96, 97, 98, 99, 100, 101, 102, 103, 104, 105, 106, 107, 170, 171, 172, 173, 174, 175, 176, 177, 178, 179, 180, 181, 182, 183, 184, 185, 186, 187, 188] (by decide +kernel) (by decide +kernel)) (goodIn_sub (fun _ h => List.mem_cons_of_mem _ (List.mem_append_left _ (List.mem_append_right _ h))) (by decide +kernel))) (goodIn_sub (fun _ h => List.mem_cons_of_mem _ (List.mem_append_right _ h)) (by decide +kernel))
set_option maxRecDepth 20000 in
theorem gL_isParted_X6_between : GoodIn wsL_isParted (wsV RL 85 RX6 yX6_between wsX6_between) := goodIn_app (goodIn_of _ (by decide +kernel)) ggL_isParted_X6_between
set_option maxRecDepth 20000 in
theorem ggL_isParted_X6_ofPoint : GoodIn wsL_isParted wsX6_ofPoint := goodIn_ca (goodIn_ca (goodIn_r _ [111, 112, 7, 113, 114, 8, 9, 10, 4, 11, 12, 13, 19, 20, 21, 17, 18, 115, 104, 105, 56, 106, 68, 69, 116, 81, 82, 83, 84, 85, 86, 117, 33, 34, 118, 119, 120, 121, 122, 123, 124, 125, 126, 127, 64, 65, 66, 67, 70, 170, 171, 172, 173, 174, 175, 176, 189, 190, 191, 192, 193, 194, 195, 196, 197, 198, 199, 200, 201, 202, 203, 204, 205, 206, 207, 208, 209, 210, 211, 177, 178, 179, 180, 181, 182, 183, 184] (by decide +kernel) (by decide +kernel)) (goodIn_sub (fun _ h => List.mem_cons_of_mem _ (List.mem_append_left _ (List.mem_append_right _ h))) (by decide +kernel))) (goodIn_sub (fun _ h => List.mem_cons_of_mem _ (List.mem_append_right _ h)) (by decide +kernel))
set_option maxRecDepth 20000 in
theorem gL_isParted_X6_ofPoint : GoodIn wsL_isParted (wsV RL 45 RX6 yX6_ofPoint wsX6_ofPoint) := goodIn_app (goodIn_of _ (by decide +kernel)) ggL_isParted_X6_ofPoint
set_option maxRecDepth 20000 in
theorem ggL_isParted_J6_bitCount_0f7a4 : GoodIn wsL_isParted wsJ6_bitCount_0f7a4 := goodIn_r _ [83, 84, 85, 86] (by decide +kernel) (by decide +kernel)
set_option maxRecDepth 20000 in
theorem gL_isParted_J6_bitCount_0f7a4 : GoodIn wsL_isParted (va_wsS RL 88 yJ6_bitCount_0f7a4 wsJ6_bitCount_0f7a4) := goodIn_app (goodIn_of _ (by decide +kernel)) ggL_isParted_J6_bitCount_0f7a4
set_option maxRecDepth 20000 in
theorem ggL_isParted_X6_without : GoodIn wsL_isParted wsX6_without := goodIn_ca (goodIn_r _ [132, 17, 18, 7, 133, 77, 78, 56, 79, 62, 134, 135, 136, 137, 33, 4, 34, 138, 92, 93, 94, 67, 70, 170, 171, 172, 173, 174, 175, 176, 177, 178, 179, 180, 181, 182, 183, 184] (by decide +kernel) (by decide +kernel)) (goodIn_sub (fun _ h => List.mem_cons_of_mem _ (List.mem_append_right _ h)) (by decide +kernel))
set_option maxRecDepth 20000 in
theorem gL_isParted_X6_without : GoodIn wsL_isParted (wsV RL 93 RX6 yX6_without wsX6_without) := goodIn_app (goodIn_of _ (by decide +kernel)) ggL_isParted_X6_without
set_option maxRecDepth 20000 in
theorem ggL_isParted_X6_net : GoodIn wsL_isParted wsX6_net := goodIn_ca (goodIn_r _ [142, 7, 112, 143, 113, 114, 144, 19, 20, 4, 21, 17, 18, 116, 81, 82, 83, 84, 85, 86, 145, 146, 147, 148, 149, 150, 151, 152, 104, 105, 56, 106, 68, 69, 153, 154, 155, 156, 157, 158, 159, 160, 62, 161, 162, 163, 164, 165, 54, 55, 57, 33, 34, 58, 59, 60, 61, 63, 64, 65, 66, 67, 70, 170, 171, 172, 173, 174, 175, 176, 177, 178, 179, 180, 181, 182, 183, 184, 189, 190, 191, 192, 193, 194, 195, 196, 197, 198, 199, 200, 201, 202, 203, 212, 213, 214, 215, 216, 204, 205, 206, 207, 208, 209, 210, 211] (by decide +kernel) (by decide +kernel)) (goodIn_sub (fun _ h => List.mem_cons_of_mem _ (List.mem_append_right _ h)) (by decide +kernel))
set_option maxRecDepth 20000 in
theorem gL_isParted_X6_net : GoodIn wsL_isParted (wsV RL 37 RX6 yX6_net wsX6_net) := goodIn_app (goodIn_of _ (by decide +kernel)) ggL_isParted_X6_net
set_option maxRecDepth 20000 in
theorem ggL_isParted_L_areOff : GoodIn wsL_isParted wsL_areOff := goodIn_ca (goodIn_ca (goodIn_r _ [169, 139, 140, 141, 4, 142, 7, 112, 143, 113, 114, 144, 19, 20, 21, 17, 18, 116, 81, 82, 83, 84, 85, 86, 145, 146, 147, 148, 149, 150, 151, 152, 104, 105, 56, 106, 68, 69, 153, 154, 155, 156, 157, 158, 159, 160, 62, 161, 162, 163, 164, 165, 54, 55, 57, 33, 34, 58, 59, 60, 61, 63, 64, 65, 66, 67, 70, 108, 109, 110, 111, 8, 9, 10, 11, 12, 13, 115, 117, 118, 119, 120, 121, 122, 123, 124, 125, 126, 127, 170, 171, 172, 173, 174, 175, 176, 177, 178, 179, 180, 181, 182, 183, 184, 189, 190, 191, 192, 193, 194, 195, 196, 197, 198, 199, 200, 201, 202, 203, 212, 213, 214, 215, 216, 204, 205, 206, 207, 208, 209, 210, 211] (by decide +kernel) (by decide +kernel)) (goodIn_sub (fun _ h => List.mem_cons_of_mem _ (List.mem_append_right _ h)) (by decide +kernel))) (goodIn_sub (fun _ h => List.mem_cons_of_mem _ (List.mem_append_left _ (List.mem_append_right _ h))) (by decide +kernel))
set_option maxRecDepth 20000 in
theorem gL_isParted_L_areOff : GoodIn wsL_isParted (va_wsS RL 96 yL_areOff wsL_areOff) := goodIn_app (goodIn_of _ (by decide +kernel)) ggL_isParted_L_areOff
theorem dL_isParted_0 : decode cL_isParted 0 = .ok (.aload_n 0, 1) := by decide +kernel
theorem dL_isParted_1 : decode cL_isParted 1 = .ok (.iload_n 1, 1) := by decide +kernel
theorem dL_isParted_2 : decode cL_isParted 2 = .ok (.iload_n 2, 1) := by decide +kernel
theorem dL_isParted_3 : decode cL_isParted 3 = .ok (.iconst 0, 1) := by decide +kernel
theorem dL_isParted_4 : decode cL_isParted 4 = .ok (.invokevirtual 85, 3) := by decide +kernel
theorem dL_isParted_7 : decode cL_isParted 7 = .ok (.istore_n 3, 1) := by decide +kernel
theorem dL_isParted_8 : decode cL_isParted 8 = .ok (.aload_n 0, 1) := by decide +kernel
theorem dL_isParted_9 : decode cL_isParted 9 = .ok (.iload_n 1, 1) := by decide +kernel
theorem dL_isParted_10 : decode cL_isParted 10 = .ok (.iload_n 2, 1) := by decide +kernel
theorem dL_isParted_11 : decode cL_isParted 11 = .ok (.iconst 1, 1) := by decide +kernel
theorem dL_isParted_12 : decode cL_isParted 12 = .ok (.invokevirtual 85, 3) := by decide +kernel
theorem dL_isParted_15 : decode cL_isParted 15 = .ok (.istore 4, 2) := by decide +kernel
theorem dL_isParted_17 : decode cL_isParted 17 = .ok (.aload_n 0, 1) := by decide +kernel
theorem dL_isParted_18 : decode cL_isParted 18 = .ok (.iload_n 1, 1) := by decide +kernel
theorem dL_isParted_19 : decode cL_isParted 19 = .ok (.iload_n 2, 1) := by decide +kernel
theorem dL_isParted_20 : decode cL_isParted 20 = .ok (.iconst 3, 1) := by decide +kernel
theorem dL_isParted_21 : decode cL_isParted 21 = .ok (.invokevirtual 85, 3) := by decide +kernel
theorem dL_isParted_24 : decode cL_isParted 24 = .ok (.istore 5, 2) := by decide +kernel
theorem dL_isParted_26 : decode cL_isParted 26 = .ok (.aload_n 0, 1) := by decide +kernel
theorem dL_isParted_27 : decode cL_isParted 27 = .ok (.iload_n 1, 1) := by decide +kernel
theorem dL_isParted_28 : decode cL_isParted 28 = .ok (.iload_n 2, 1) := by decide +kernel
theorem dL_isParted_29 : decode cL_isParted 29 = .ok (.iconst 4, 1) := by decide +kernel
theorem dL_isParted_30 : decode cL_isParted 30 = .ok (.invokevirtual 85, 3) := by decide +kernel
theorem dL_isParted_33 : decode cL_isParted 33 = .ok (.istore 6, 2) := by decide +kernel
theorem dL_isParted_35 : decode cL_isParted 35 = .ok (.aload_n 0, 1) := by decide +kernel
theorem dL_isParted_36 : decode cL_isParted 36 = .ok (.iload_n 1, 1) := by decide +kernel
theorem dL_isParted_37 : decode cL_isParted 37 = .ok (.iload_n 2, 1) := by decide +kernel
theorem dL_isParted_38 : decode cL_isParted 38 = .ok (.iconst 5, 1) := by decide +kernel
theorem dL_isParted_39 : decode cL_isParted 39 = .ok (.invokevirtual 85, 3) := by decide +kernel
theorem dL_isParted_42 : decode cL_isParted 42 = .ok (.istore 7, 2) := by decide +kernel
theorem dL_isParted_44 : decode cL_isParted 44 = .ok (.aload_n 0, 1) := by decide +kernel
theorem dL_isParted_45 : decode cL_isParted 45 = .ok (.iload_n 1, 1) := by decide +kernel
theorem dL_isParted_46 : decode cL_isParted 46 = .ok (.iconst 5, 1) := by decide +kernel
theorem dL_isParted_47 : decode cL_isParted 47 = .ok (.invokevirtual 45, 3) := by decide +kernel
theorem dL_isParted_50 : decode cL_isParted 50 = .ok (.iload_n 2, 1) := by decide +kernel
theorem dL_isParted_51 : decode cL_isParted 51 = .ok (.ishr, 1) := by decide +kernel
theorem dL_isParted_52 : decode cL_isParted 52 = .ok (.iconst 1, 1) := by decide +kernel
theorem dL_isParted_53 : decode cL_isParted 53 = .ok (.iand, 1) := by decide +kernel
theorem dL_isParted_54 : decode cL_isParted 54 = .ok (.iconst 1, 1) := by decide +kernel
theorem dL_isParted_55 : decode cL_isParted 55 = .ok (.if_icmp .ne 7, 3) := by decide +kernel
theorem dL_isParted_58 : decode cL_isParted 58 = .ok (.iconst 1, 1) := by decide +kernel
theorem dL_isParted_59 : decode cL_isParted 59 = .ok (.goto 4, 3) := by decide +kernel
theorem dL_isParted_62 : decode cL_isParted 62 = .ok (.iconst 0, 1) := by decide +kernel
theorem dL_isParted_63 : decode cL_isParted 63 = .ok (.istore 8, 2) := by decide +kernel
theorem dL_isParted_65 : decode cL_isParted 65 = .ok (.iload 8, 2) := by decide +kernel
theorem dL_isParted_67 : decode cL_isParted 67 = .ok (.iload 5, 2) := by decide +kernel
theorem dL_isParted_69 : decode cL_isParted 69 = .ok (.iconst (-1), 1) := by decide +kernel
theorem dL_isParted_70 : decode cL_isParted 70 = .ok (.if_icmp .ne 7, 3) := by decide +kernel
theorem dL_isParted_73 : decode cL_isParted 73 = .ok (.iconst 1, 1) := by decide +kernel
theorem dL_isParted_74 : decode cL_isParted 74 = .ok (.goto 4, 3) := by decide +kernel
theorem dL_isParted_77 : decode cL_isParted 77 = .ok (.iconst 0, 1) := by decide +kernel
theorem dL_isParted_78 : decode cL_isParted 78 = .ok (.if_icmp .ne 38, 3) := by decide +kernel
theorem dL_isParted_81 : decode cL_isParted 81 = .ok (.iload_n 3, 1) := by decide +kernel
theorem dL_isParted_82 : decode cL_isParted 82 = .ok (.iload 4, 2) := by decide +kernel
theorem dL_isParted_84 : decode cL_isParted 84 = .ok (.if_icmp .gt 32, 3) := by decide +kernel
theorem dL_isParted_87 : decode cL_isParted 87 = .ok (.iload 4, 2) := by decide +kernel
theorem dL_isParted_89 : decode cL_isParted 89 = .ok (.iload 7, 2) := by decide +kernel
theorem dL_isParted_91 : decode cL_isParted 91 = .ok (.invokestatic 88, 3) := by decide +kernel
theorem dL_isParted_94 : decode cL_isParted 94 = .ok (.if_icmp .ne 22, 3) := by decide +kernel
theorem dL_isParted_97 : decode cL_isParted 97 = .ok (.iload 6, 2) := by decide +kernel
theorem dL_isParted_99 : decode cL_isParted 99 = .ok (.iload_n 1, 1) := by decide +kernel
theorem dL_isParted_100 : decode cL_isParted 100 = .ok (.ishr, 1) := by decide +kernel
theorem dL_isParted_101 : decode cL_isParted 101 = .ok (.iconst 1, 1) := by decide +kernel
theorem dL_isParted_102 : decode cL_isParted 102 = .ok (.iand, 1) := by decide +kernel
theorem dL_isParted_103 : decode cL_isParted 103 = .ok (.ifCond .eq 13, 3) := by decide +kernel
theorem dL_isParted_106 : decode cL_isParted 106 = .ok (.iload 6, 2) := by decide +kernel
theorem dL_isParted_108 : decode cL_isParted 108 = .ok (.iload_n 2, 1) := by decide +kernel
theorem dL_isParted_109 : decode cL_isParted 109 = .ok (.ishr, 1) := by decide +kernel
theorem dL_isParted_110 : decode cL_isParted 110 = .ok (.iconst 1, 1) := by decide +kernel
theorem dL_isParted_111 : decode cL_isParted 111 = .ok (.iand, 1) := by decide +kernel
theorem dL_isParted_112 : decode cL_isParted 112 = .ok (.iconst 1, 1) := by decide +kernel
theorem dL_isParted_113 : decode cL_isParted 113 = .ok (.if_icmp .ne 5, 3) := by decide +kernel
theorem dL_isParted_116 : decode cL_isParted 116 = .ok (.iconst 0, 1) := by decide +kernel
theorem dL_isParted_117 : decode cL_isParted 117 = .ok (.ireturn, 1) := by decide +kernel
theorem dL_isParted_118 : decode cL_isParted 118 = .ok (.aload_n 0, 1) := by decide +kernel
theorem dL_isParted_119 : decode cL_isParted 119 = .ok (.iconst 0, 1) := by decide +kernel
theorem dL_isParted_120 : decode cL_isParted 120 = .ok (.iload 7, 2) := by decide +kernel
theorem dL_isParted_122 : decode cL_isParted 122 = .ok (.invokevirtual 93, 3) := by decide +kernel
theorem dL_isParted_125 : decode cL_isParted 125 = .ok (.istore 9, 2) := by decide +kernel
theorem dL_isParted_127 : decode cL_isParted 127 = .ok (.iload 9, 2) := by decide +kernel
theorem dL_isParted_129 : decode cL_isParted 129 = .ok (.aload_n 0, 1) := by decide +kernel
theorem dL_isParted_130 : decode cL_isParted 130 = .ok (.iconst 3, 1) := by decide +kernel
theorem dL_isParted_131 : decode cL_isParted 131 = .ok (.invokevirtual 37, 3) := by decide +kernel
theorem dL_isParted_134 : decode cL_isParted 134 = .ok (.iload 4, 2) := by decide +kernel
theorem dL_isParted_136 : decode cL_isParted 136 = .ok (.ifCond .le 7, 3) := by decide +kernel
theorem dL_isParted_139 : decode cL_isParted 139 = .ok (.iconst 1, 1) := by decide +kernel
theorem dL_isParted_140 : decode cL_isParted 140 = .ok (.goto 4, 3) := by decide +kernel
theorem dL_isParted_143 : decode cL_isParted 143 = .ok (.iconst 0, 1) := by decide +kernel
theorem dL_isParted_144 : decode cL_isParted 144 = .ok (.iadd, 1) := by decide +kernel
theorem dL_isParted_145 : decode cL_isParted 145 = .ok (.if_icmp .lt 25, 3) := by decide +kernel
theorem dL_isParted_148 : decode cL_isParted 148 = .ok (.iload 4, 2) := by decide +kernel
theorem dL_isParted_150 : decode cL_isParted 150 = .ok (.aload_n 0, 1) := by decide +kernel
theorem dL_isParted_151 : decode cL_isParted 151 = .ok (.iload_n 1, 1) := by decide +kernel
theorem dL_isParted_152 : decode cL_isParted 152 = .ok (.iconst 1, 1) := by decide +kernel
theorem dL_isParted_153 : decode cL_isParted 153 = .ok (.invokevirtual 45, 3) := by decide +kernel
theorem dL_isParted_156 : decode cL_isParted 156 = .ok (.if_icmp .gt 14, 3) := by decide +kernel
theorem dL_isParted_159 : decode cL_isParted 159 = .ok (.iload 4, 2) := by decide +kernel
theorem dL_isParted_161 : decode cL_isParted 161 = .ok (.aload_n 0, 1) := by decide +kernel
theorem dL_isParted_162 : decode cL_isParted 162 = .ok (.iload_n 2, 1) := by decide +kernel
theorem dL_isParted_163 : decode cL_isParted 163 = .ok (.iconst 1, 1) := by decide +kernel
theorem dL_isParted_164 : decode cL_isParted 164 = .ok (.invokevirtual 45, 3) := by decide +kernel
theorem dL_isParted_167 : decode cL_isParted 167 = .ok (.if_icmp .le 5, 3) := by decide +kernel
theorem dL_isParted_170 : decode cL_isParted 170 = .ok (.iconst 0, 1) := by decide +kernel
theorem dL_isParted_171 : decode cL_isParted 171 = .ok (.ireturn, 1) := by decide +kernel
theorem dL_isParted_172 : decode cL_isParted 172 = .ok (.iload 8, 2) := by decide +kernel
theorem dL_isParted_174 : decode cL_isParted 174 = .ok (.ifCond .eq 24, 3) := by decide +kernel
theorem dL_isParted_177 : decode cL_isParted 177 = .ok (.aload_n 0, 1) := by decide +kernel
theorem dL_isParted_178 : decode cL_isParted 178 = .ok (.iload_n 1, 1) := by decide +kernel
theorem dL_isParted_179 : decode cL_isParted 179 = .ok (.iload_n 2, 1) := by decide +kernel
theorem dL_isParted_180 : decode cL_isParted 180 = .ok (.iconst 2, 1) := by decide +kernel
theorem dL_isParted_181 : decode cL_isParted 181 = .ok (.invokevirtual 85, 3) := by decide +kernel
theorem dL_isParted_184 : decode cL_isParted 184 = .ok (.iconst 1, 1) := by decide +kernel
theorem dL_isParted_185 : decode cL_isParted 185 = .ok (.if_icmp .ne 11, 3) := by decide +kernel
theorem dL_isParted_188 : decode cL_isParted 188 = .ok (.iload_n 3, 1) := by decide +kernel
theorem dL_isParted_189 : decode cL_isParted 189 = .ok (.ifCond .le 7, 3) := by decide +kernel
theorem dL_isParted_192 : decode cL_isParted 192 = .ok (.iconst 1, 1) := by decide +kernel
theorem dL_isParted_193 : decode cL_isParted 193 = .ok (.goto 4, 3) := by decide +kernel
theorem dL_isParted_196 : decode cL_isParted 196 = .ok (.iconst 0, 1) := by decide +kernel
theorem dL_isParted_197 : decode cL_isParted 197 = .ok (.ireturn, 1) := by decide +kernel
theorem dL_isParted_198 : decode cL_isParted 198 = .ok (.aload_n 0, 1) := by decide +kernel
theorem dL_isParted_199 : decode cL_isParted 199 = .ok (.iload 5, 2) := by decide +kernel
theorem dL_isParted_201 : decode cL_isParted 201 = .ok (.iconst 0, 1) := by decide +kernel
theorem dL_isParted_202 : decode cL_isParted 202 = .ok (.invokevirtual 93, 3) := by decide +kernel
theorem dL_isParted_205 : decode cL_isParted 205 = .ok (.istore 10, 2) := by decide +kernel
theorem dL_isParted_207 : decode cL_isParted 207 = .ok (.iload_n 3, 1) := by decide +kernel
theorem dL_isParted_208 : decode cL_isParted 208 = .ok (.iload 5, 2) := by decide +kernel
theorem dL_isParted_210 : decode cL_isParted 210 = .ok (.invokestatic 88, 3) := by decide +kernel
theorem dL_isParted_213 : decode cL_isParted 213 = .ok (.if_icmp .ne 70, 3) := by decide +kernel
theorem dL_isParted_216 : decode cL_isParted 216 = .ok (.iload 5, 2) := by decide +kernel
theorem dL_isParted_218 : decode cL_isParted 218 = .ok (.iload_n 1, 1) := by decide +kernel
theorem dL_isParted_219 : decode cL_isParted 219 = .ok (.ishr, 1) := by decide +kernel
theorem dL_isParted_220 : decode cL_isParted 220 = .ok (.iconst 1, 1) := by decide +kernel
theorem dL_isParted_221 : decode cL_isParted 221 = .ok (.iand, 1) := by decide +kernel
theorem dL_isParted_222 : decode cL_isParted 222 = .ok (.ifCond .ne 61, 3) := by decide +kernel
theorem dL_isParted_225 : decode cL_isParted 225 = .ok (.iload 5, 2) := by decide +kernel
theorem dL_isParted_227 : decode cL_isParted 227 = .ok (.iload_n 2, 1) := by decide +kernel
theorem dL_isParted_228 : decode cL_isParted 228 = .ok (.ishr, 1) := by decide +kernel
theorem dL_isParted_229 : decode cL_isParted 229 = .ok (.iconst 1, 1) := by decide +kernel
theorem dL_isParted_230 : decode cL_isParted 230 = .ok (.iand, 1) := by decide +kernel
theorem dL_isParted_231 : decode cL_isParted 231 = .ok (.ifCond .ne 52, 3) := by decide +kernel
theorem dL_isParted_234 : decode cL_isParted 234 = .ok (.iload_n 3, 1) := by decide +kernel
theorem dL_isParted_235 : decode cL_isParted 235 = .ok (.ifCond .le 7, 3) := by decide +kernel
theorem dL_isParted_238 : decode cL_isParted 238 = .ok (.iconst 1, 1) := by decide +kernel
theorem dL_isParted_239 : decode cL_isParted 239 = .ok (.goto 4, 3) := by decide +kernel
theorem dL_isParted_242 : decode cL_isParted 242 = .ok (.iconst 0, 1) := by decide +kernel
theorem dL_isParted_243 : decode cL_isParted 243 = .ok (.aload_n 0, 1) := by decide +kernel
theorem dL_isParted_244 : decode cL_isParted 244 = .ok (.iload_n 1, 1) := by decide +kernel
theorem dL_isParted_245 : decode cL_isParted 245 = .ok (.iload_n 2, 1) := by decide +kernel
theorem dL_isParted_246 : decode cL_isParted 246 = .ok (.iconst 2, 1) := by decide +kernel
theorem dL_isParted_247 : decode cL_isParted 247 = .ok (.invokevirtual 85, 3) := by decide +kernel
theorem dL_isParted_250 : decode cL_isParted 250 = .ok (.iconst 1, 1) := by decide +kernel
theorem dL_isParted_251 : decode cL_isParted 251 = .ok (.if_icmp .le 7, 3) := by decide +kernel
theorem dL_isParted_254 : decode cL_isParted 254 = .ok (.iconst 1, 1) := by decide +kernel
theorem dL_isParted_255 : decode cL_isParted 255 = .ok (.goto 4, 3) := by decide +kernel
theorem dL_isParted_258 : decode cL_isParted 258 = .ok (.iconst 0, 1) := by decide +kernel
theorem dL_isParted_259 : decode cL_isParted 259 = .ok (.if_icmp .ne 24, 3) := by decide +kernel
theorem dL_isParted_262 : decode cL_isParted 262 = .ok (.iload 10, 2) := by decide +kernel
theorem dL_isParted_264 : decode cL_isParted 264 = .ok (.iconst 2, 1) := by decide +kernel
theorem dL_isParted_265 : decode cL_isParted 265 = .ok (.if_icmp .lt 18, 3) := by decide +kernel
theorem dL_isParted_268 : decode cL_isParted 268 = .ok (.aload_n 0, 1) := by decide +kernel
theorem dL_isParted_269 : decode cL_isParted 269 = .ok (.iload_n 1, 1) := by decide +kernel
theorem dL_isParted_270 : decode cL_isParted 270 = .ok (.iload_n 2, 1) := by decide +kernel
theorem dL_isParted_271 : decode cL_isParted 271 = .ok (.iload 5, 2) := by decide +kernel
theorem dL_isParted_273 : decode cL_isParted 273 = .ok (.invokestatic 96, 3) := by decide +kernel
theorem dL_isParted_276 : decode cL_isParted 276 = .ok (.ifCond .eq 7, 3) := by decide +kernel
theorem dL_isParted_279 : decode cL_isParted 279 = .ok (.iconst 1, 1) := by decide +kernel
theorem dL_isParted_280 : decode cL_isParted 280 = .ok (.goto 4, 3) := by decide +kernel
theorem dL_isParted_283 : decode cL_isParted 283 = .ok (.iconst 0, 1) := by decide +kernel
theorem dL_isParted_284 : decode cL_isParted 284 = .ok (.ireturn, 1) := by decide +kernel
set_option maxRecDepth 20000 in
theorem ggL_areOff_X6_net : GoodIn wsL_areOff wsX6_net := goodIn_ca (goodIn_r _ [5, 6, 7, 8, 9, 10, 11, 12, 13, 4, 14, 15, 16, 17, 18, 19, 20, 21, 22, 23, 24, 25, 26, 27, 28, 29, 30, 31, 32, 33, 34, 35, 36, 37, 38, 39, 40, 41, 42, 43, 44, 45, 46, 47, 48, 49, 50, 51, 52, 53, 54, 55, 56, 57, 58, 59, 60, 61, 62, 63, 64, 65, 66, 89, 90, 91, 92, 93, 94, 95, 96, 97, 98, 99, 100, 101, 102, 103, 104, 105, 106, 107, 108, 109, 110, 111, 112, 113, 114, 115, 116, 117, 118, 119, 120, 121, 122, 123, 124, 125, 126, 127, 128, 129, 130, 131] (by decide +kernel) (by decide +kernel)) (goodIn_sub (fun _ h => List.mem_cons_of_mem _ (List.mem_append_left _ (List.mem_append_right _ h))) (by decide +kernel))
set_option maxRecDepth 20000 in
theorem gL_areOff_X6_net : GoodIn wsL_areOff (wsV RL 37 RX6 yX6_net wsX6_net) := goodIn_app (goodIn_of _ (by decide +kernel)) ggL_areOff_X6_net
set_option maxRecDepth 20000 in
theorem ggL_areOff_X6_ofPoint : GoodIn wsL_areOff wsX6_ofPoint := goodIn_ca (goodIn_ca (goodIn_r _ [70, 7, 6, 9, 10, 71, 72, 73, 4, 74, 75, 76, 12, 13, 14, 15, 16, 77, 32, 33, 34, 35, 36, 37, 17, 18, 19, 20, 21, 22, 23, 78, 55, 56, 79, 80, 81, 82, 83, 84, 85, 86, 87, 88, 62, 63, 64, 65, 66, 89, 90, 91, 92, 93, 94, 95, 104, 105, 106, 107, 108, 109, 110, 111, 112, 113, 114, 115, 116, 117, 118, 124, 125, 126, 127, 128, 129, 130, 131, 96, 97, 98, 99, 100, 101, 102, 103] (by decide +kernel) (by decide +kernel)) (goodIn_sub (fun _ h => List.mem_cons_of_mem _ (List.mem_append_right _ h)) (by decide +kernel))) (goodIn_sub (fun _ h => List.mem_cons_of_mem _ (List.mem_append_left _ (List.mem_append_right _ h))) (by decide +kernel))
set_option maxRecDepth 20000 in
theorem gL_areOff_X6_ofPoint : GoodIn wsL_areOff (wsV RL 45 RX6 yX6_ofPoint wsX6_ofPoint) := goodIn_app (goodIn_of _ (by decide +kernel)) ggL_areOff_X6_ofPoint
theorem dL_areOff_0 : decode cL_areOff 0 = .ok (.iconst 1, 1) := by decide +kernel
theorem dL_areOff_1 : decode cL_areOff 1 = .ok (.iload_n 1, 1) := by decide +kernel
theorem dL_areOff_2 : decode cL_areOff 2 = .ok (.ishl, 1) := by decide +kernel
theorem dL_areOff_3 : decode cL_areOff 3 = .ok (.istore 4, 2) := by decide +kernel
theorem dL_areOff_5 : decode cL_areOff 5 = .ok (.iconst 0, 1) := by decide +kernel
theorem dL_areOff_6 : decode cL_areOff 6 = .ok (.istore 5, 2) := by decide +kernel
theorem dL_areOff_8 : decode cL_areOff 8 = .ok (.iload 5, 2) := by decide +kernel
theorem dL_areOff_10 : decode cL_areOff 10 = .ok (.aload_n 0, 1) := by decide +kernel
theorem dL_areOff_11 : decode cL_areOff 11 = .ok (.iconst 0, 1) := by decide +kernel
theorem dL_areOff_12 : decode cL_areOff 12 = .ok (.invokevirtual 37, 3) := by decide +kernel
theorem dL_areOff_15 : decode cL_areOff 15 = .ok (.if_icmp .ge 55, 3) := by decide +kernel
theorem dL_areOff_18 : decode cL_areOff 18 = .ok (.iconst 0, 1) := by decide +kernel
theorem dL_areOff_19 : decode cL_areOff 19 = .ok (.istore 6, 2) := by decide +kernel
theorem dL_areOff_21 : decode cL_areOff 21 = .ok (.iload 6, 2) := by decide +kernel
theorem dL_areOff_23 : decode cL_areOff 23 = .ok (.aload_n 0, 1) := by decide +kernel
theorem dL_areOff_24 : decode cL_areOff 24 = .ok (.iconst 0, 1) := by decide +kernel
theorem dL_areOff_25 : decode cL_areOff 25 = .ok (.invokevirtual 37, 3) := by decide +kernel
theorem dL_areOff_28 : decode cL_areOff 28 = .ok (.if_icmp .ge 36, 3) := by decide +kernel
theorem dL_areOff_31 : decode cL_areOff 31 = .ok (.iload 4, 2) := by decide +kernel
theorem dL_areOff_33 : decode cL_areOff 33 = .ok (.iload 6, 2) := by decide +kernel
theorem dL_areOff_35 : decode cL_areOff 35 = .ok (.ishr, 1) := by decide +kernel
theorem dL_areOff_36 : decode cL_areOff 36 = .ok (.iconst 1, 1) := by decide +kernel
theorem dL_areOff_37 : decode cL_areOff 37 = .ok (.iand, 1) := by decide +kernel
theorem dL_areOff_38 : decode cL_areOff 38 = .ok (.iconst 1, 1) := by decide +kernel
theorem dL_areOff_39 : decode cL_areOff 39 = .ok (.if_icmp .ne 19, 3) := by decide +kernel
theorem dL_areOff_42 : decode cL_areOff 42 = .ok (.iload 4, 2) := by decide +kernel
theorem dL_areOff_44 : decode cL_areOff 44 = .ok (.aload_n 0, 1) := by decide +kernel
theorem dL_areOff_45 : decode cL_areOff 45 = .ok (.iload 6, 2) := by decide +kernel
theorem dL_areOff_47 : decode cL_areOff 47 = .ok (.iconst 5, 1) := by decide +kernel
theorem dL_areOff_48 : decode cL_areOff 48 = .ok (.invokevirtual 45, 3) := by decide +kernel
theorem dL_areOff_51 : decode cL_areOff 51 = .ok (.iload_n 3, 1) := by decide +kernel
theorem dL_areOff_52 : decode cL_areOff 52 = .ok (.iconst (-1), 1) := by decide +kernel
theorem dL_areOff_53 : decode cL_areOff 53 = .ok (.ixor, 1) := by decide +kernel
theorem dL_areOff_54 : decode cL_areOff 54 = .ok (.iand, 1) := by decide +kernel
theorem dL_areOff_55 : decode cL_areOff 55 = .ok (.ior, 1) := by decide +kernel
theorem dL_areOff_56 : decode cL_areOff 56 = .ok (.istore 4, 2) := by decide +kernel
theorem dL_areOff_58 : decode cL_areOff 58 = .ok (.iinc 6 1, 3) := by decide +kernel
theorem dL_areOff_61 : decode cL_areOff 61 = .ok (.goto (-40), 3) := by decide +kernel
theorem dL_areOff_64 : decode cL_areOff 64 = .ok (.iinc 5 1, 3) := by decide +kernel
theorem dL_areOff_67 : decode cL_areOff 67 = .ok (.goto (-59), 3) := by decide +kernel
theorem dL_areOff_70 : decode cL_areOff 70 = .ok (.iload 4, 2) := by decide +kernel
theorem dL_areOff_72 : decode cL_areOff 72 = .ok (.iload_n 2, 1) := by decide +kernel
theorem dL_areOff_73 : decode cL_areOff 73 = .ok (.ishr, 1) := by decide +kernel
theorem dL_areOff_74 : decode cL_areOff 74 = .ok (.iconst 1, 1) := by decide +kernel
theorem dL_areOff_75 : decode cL_areOff 75 = .ok (.iand, 1) := by decide +kernel
theorem dL_areOff_76 : decode cL_areOff 76 = .ok (.ifCond .ne 7, 3) := by decide +kernel
theorem dL_areOff_79 : decode cL_areOff 79 = .ok (.iconst 1, 1) := by decide +kernel
theorem dL_areOff_80 : decode cL_areOff 80 = .ok (.goto 4, 3) := by decide +kernel
theorem dL_areOff_83 : decode cL_areOff 83 = .ok (.iconst 0, 1) := by decide +kernel
theorem dL_areOff_84 : decode cL_areOff 84 = .ok (.ireturn, 1) := by decide +kernel
abbrev vwCl : List vw_C := [(RX0, TX0, 5), (RX1, TX1, 15), (RX2, TX2, 5), (RX3, TX3, 3), (RX4, TX4, 4), (RX5, TX5, 8), (RX6, TX6, 7)]
