theorem dX6_between_10 : decode cX6_between 10 = .ok (.iload_n 1, 1) := by decide +kernel
theorem dX6_between_11 : decode cX6_between 11 = .ok (.iload_n 2, 1) := by decide +kernel
theorem dX6_between_12 : decode cX6_between 12 = .ok (.invokestatic 78, 3) := by decide +kernel
theorem dX6_between_15 : decode cX6_between 15 = .ok (.iload_n 3, 1) := by decide +kernel
theorem dX6_between_16 : decode cX6_between 16 = .ok (.iconst 5, 1) := by decide +kernel
theorem dX6_between_17 : decode cX6_between 17 = .ok (.invokestatic 133, 3) := by decide +kernel
theorem dX6_between_20 : decode cX6_between 20 = .ok (.iload_n 3, 1) := by decide +kernel
theorem dX6_between_21 : decode cX6_between 21 = .ok (.tableswitch 85 0 4 #[35, 45, 55, 65, 75], 35) := by decide +kernel
theorem dX6_between_56 : decode cX6_between 56 = .ok (.aload_n 0, 1) := by decide +kernel
theorem dX6_between_57 : decode cX6_between 57 = .ok (.getfield 28, 3) := by decide +kernel
theorem dX6_between_60 : decode cX6_between 60 = .ok (.iload_n 1, 1) := by decide +kernel
theorem dX6_between_61 : decode cX6_between 61 = .ok (.iload_n 2, 1) := by decide +kernel
theorem dX6_between_62 : decode cX6_between 62 = .ok (.invokevirtual 219, 3) := by decide +kernel
theorem dX6_between_65 : decode cX6_between 65 = .ok (.ireturn, 1) := by decide +kernel
theorem dX6_between_66 : decode cX6_between 66 = .ok (.aload_n 0, 1) := by decide +kernel
theorem dX6_between_67 : decode cX6_between 67 = .ok (.getfield 28, 3) := by decide +kernel
theorem dX6_between_70 : decode cX6_between 70 = .ok (.iload_n 1, 1) := by decide +kernel
theorem dX6_between_71 : decode cX6_between 71 = .ok (.iload_n 2, 1) := by decide +kernel
theorem dX6_between_72 : decode cX6_between 72 = .ok (.invokevirtual 222, 3) := by decide +kernel
theorem dX6_between_75 : decode cX6_between 75 = .ok (.ireturn, 1) := by decide +kernel
theorem dX6_between_76 : decode cX6_between 76 = .ok (.aload_n 0, 1) := by decide +kernel
theorem dX6_between_77 : decode cX6_between 77 = .ok (.getfield 10, 3) := by decide +kernel
theorem dX6_between_80 : decode cX6_between 80 = .ok (.iload_n 1, 1) := by decide +kernel
theorem dX6_between_81 : decode cX6_between 81 = .ok (.iload_n 2, 1) := by decide +kernel
theorem dX6_between_82 : decode cX6_between 82 = .ok (.invokevirtual 225, 3) := by decide +kernel
theorem dX6_between_85 : decode cX6_between 85 = .ok (.ireturn, 1) := by decide +kernel
theorem dX6_between_86 : decode cX6_between 86 = .ok (.aload_n 0, 1) := by decide +kernel
theorem dX6_between_87 : decode cX6_between 87 = .ok (.getfield 28, 3) := by decide +kernel
theorem dX6_between_90 : decode cX6_between 90 = .ok (.iload_n 1, 1) := by decide +kernel
theorem dX6_between_91 : decode cX6_between 91 = .ok (.iload_n 2, 1) := by decide +kernel
theorem dX6_between_92 : decode cX6_between 92 = .ok (.invokevirtual 228, 3) := by decide +kernel
theorem dX6_between_95 : decode cX6_between 95 = .ok (.ireturn, 1) := by decide +kernel
theorem dX6_between_96 : decode cX6_between 96 = .ok (.aload_n 0, 1) := by decide +kernel
theorem dX6_between_97 : decode cX6_between 97 = .ok (.getfield 28, 3) := by decide +kernel
theorem dX6_between_100 : decode cX6_between 100 = .ok (.iload_n 1, 1) := by decide +kernel
theorem dX6_between_101 : decode cX6_between 101 = .ok (.iload_n 2, 1) := by decide +kernel
theorem dX6_between_102 : decode cX6_between 102 = .ok (.invokevirtual 231, 3) := by decide +kernel
theorem dX6_between_105 : decode cX6_between 105 = .ok (.ireturn, 1) := by decide +kernel
theorem dX6_between_106 : decode cX6_between 106 = .ok (.aload_n 0, 1) := by decide +kernel
theorem dX6_between_107 : decode cX6_between 107 = .ok (.getfield 10, 3) := by decide +kernel
theorem dX6_between_110 : decode cX6_between 110 = .ok (.aload_n 0, 1) := by decide +kernel
theorem dX6_between_111 : decode cX6_between 111 = .ok (.getfield 28, 3) := by decide +kernel
theorem dX6_between_114 : decode cX6_between 114 = .ok (.iload_n 1, 1) := by decide +kernel
theorem dX6_between_115 : decode cX6_between 115 = .ok (.iload_n 2, 1) := by decide +kernel
theorem dX6_between_116 : decode cX6_between 116 = .ok (.invokevirtual 231, 3) := by decide +kernel
theorem dX6_between_119 : decode cX6_between 119 = .ok (.invokevirtual 234, 3) := by decide +kernel
theorem dX6_between_122 : decode cX6_between 122 = .ok (.ireturn, 1) := by decide +kernel
set_option maxRecDepth 20000 in
theorem ggX6_trees_X2_countTrees : GoodIn wsX6_trees wsX2_countTrees := goodIn_r _ [6, 7, 8, 9, 5, 10, 11, 12, 13, 14, 15, 16, 17, 18, 19, 20, 21, 22, 23, 31, 32, 33, 34, 35, 36, 37, 38, 39, 40, 41, 42, 43] (by decide +kernel) (by decide +kernel)
set_option maxRecDepth 20000 in
theorem gX6_trees_X2_countTrees : GoodIn wsX6_trees (wsV RX6 237 RX2 yX2_countTrees wsX2_countTrees) := goodIn_app (goodIn_of _ (by decide +kernel)) ggX6_trees_X2_countTrees
theorem dX6_trees_0 : decode cX6_trees 0 = .ok (.aload_n 0, 1) := by decide +kernel
theorem dX6_trees_1 : decode cX6_trees 1 = .ok (.getfield 35, 3) := by decide +kernel
theorem dX6_trees_4 : decode cX6_trees 4 = .ok (.invokevirtual 237, 3) := by decide +kernel
theorem dX6_trees_7 : decode cX6_trees 7 = .ok (.lreturn, 1) := by decide +kernel
set_option maxRecDepth 20000 in
theorem ggX6_without_X5_allPoints : GoodIn wsX6_without wsX5_allPoints := goodIn_r _ [8, 9, 30, 31, 32, 33, 34, 35, 36, 37] (by decide +kernel) (by decide +kernel)
set_option maxRecDepth 20000 in
theorem gX6_without_X5_allPoints : GoodIn wsX6_without (wsV RX6 256 RX5 yX5_allPoints wsX5_allPoints) := goodIn_app (goodIn_of _ (by decide +kernel)) ggX6_without_X5_allPoints
set_option maxRecDepth 20000 in
theorem ggX6_without_X5_countParts : GoodIn wsX6_without wsX5_countParts := goodIn_r _ [13, 9, 14, 15, 16, 17, 18, 19, 7, 20, 21, 22, 30, 31, 32, 33, 34, 35, 36, 37] (by decide +kernel) (by decide +kernel)
set_option maxRecDepth 20000 in
theorem gX6_without_X5_countParts : GoodIn wsX6_without (wsV RX6 259 RX5 yX5_countParts wsX5_countParts) := goodIn_app (goodIn_of _ (by decide +kernel)) ggX6_without_X5_countParts
theorem dX6_without_0 : decode cX6_without 0 = .ok (.iload_n 1, 1) := by decide +kernel
theorem dX6_without_1 : decode cX6_without 1 = .ok (.aload_n 0, 1) := by decide +kernel
theorem dX6_without_2 : decode cX6_without 2 = .ok (.getfield 10, 3) := by decide +kernel
theorem dX6_without_5 : decode cX6_without 5 = .ok (.getfield 57, 3) := by decide +kernel
theorem dX6_without_8 : decode cX6_without 8 = .ok (.ishr, 1) := by decide +kernel
theorem dX6_without_9 : decode cX6_without 9 = .ok (.ifCond .eq 13, 3) := by decide +kernel
theorem dX6_without_12 : decode cX6_without 12 = .ok (.new 249, 3) := by decide +kernel
theorem dX6_without_15 : decode cX6_without 15 = .ok (.dup, 1) := by decide +kernel
theorem dX6_without_16 : decode cX6_without 16 = .ok (.ldc 251, 2) := by decide +kernel
theorem dX6_without_18 : decode cX6_without 18 = .ok (.invokespecial 253, 3) := by decide +kernel
theorem dX6_without_21 : decode cX6_without 21 = .ok (.athrow, 1) := by decide +kernel
theorem dX6_without_22 : decode cX6_without 22 = .ok (.iload_n 2, 1) := by decide +kernel
theorem dX6_without_23 : decode cX6_without 23 = .ok (.aload_n 0, 1) := by decide +kernel
theorem dX6_without_24 : decode cX6_without 24 = .ok (.getfield 10, 3) := by decide +kernel
theorem dX6_without_27 : decode cX6_without 27 = .ok (.getfield 85, 3) := by decide +kernel
theorem dX6_without_30 : decode cX6_without 30 = .ok (.ishr, 1) := by decide +kernel
theorem dX6_without_31 : decode cX6_without 31 = .ok (.ifCond .eq 13, 3) := by decide +kernel
theorem dX6_without_34 : decode cX6_without 34 = .ok (.new 249, 3) := by decide +kernel
theorem dX6_without_37 : decode cX6_without 37 = .ok (.dup, 1) := by decide +kernel
theorem dX6_without_38 : decode cX6_without 38 = .ok (.ldc 254, 2) := by decide +kernel
theorem dX6_without_40 : decode cX6_without 40 = .ok (.invokespecial 253, 3) := by decide +kernel
theorem dX6_without_43 : decode cX6_without 43 = .ok (.athrow, 1) := by decide +kernel
theorem dX6_without_44 : decode cX6_without 44 = .ok (.aload_n 0, 1) := by decide +kernel
theorem dX6_without_45 : decode cX6_without 45 = .ok (.getfield 10, 3) := by decide +kernel
theorem dX6_without_48 : decode cX6_without 48 = .ok (.aload_n 0, 1) := by decide +kernel
theorem dX6_without_49 : decode cX6_without 49 = .ok (.getfield 10, 3) := by decide +kernel
theorem dX6_without_52 : decode cX6_without 52 = .ok (.invokevirtual 256, 3) := by decide +kernel
theorem dX6_without_55 : decode cX6_without 55 = .ok (.iload_n 1, 1) := by decide +kernel
theorem dX6_without_56 : decode cX6_without 56 = .ok (.iconst (-1), 1) := by decide +kernel
theorem dX6_without_57 : decode cX6_without 57 = .ok (.ixor, 1) := by decide +kernel
theorem dX6_without_58 : decode cX6_without 58 = .ok (.iand, 1) := by decide +kernel
theorem dX6_without_59 : decode cX6_without 59 = .ok (.aload_n 0, 1) := by decide +kernel
theorem dX6_without_60 : decode cX6_without 60 = .ok (.getfield 10, 3) := by decide +kernel
theorem dX6_without_63 : decode cX6_without 63 = .ok (.getfield 173, 3) := by decide +kernel
theorem dX6_without_66 : decode cX6_without 66 = .ok (.iload_n 2, 1) := by decide +kernel
theorem dX6_without_67 : decode cX6_without 67 = .ok (.iconst (-1), 1) := by decide +kernel
theorem dX6_without_68 : decode cX6_without 68 = .ok (.ixor, 1) := by decide +kernel
theorem dX6_without_69 : decode cX6_without 69 = .ok (.iand, 1) := by decide +kernel
theorem dX6_without_70 : decode cX6_without 70 = .ok (.invokevirtual 259, 3) := by decide +kernel
theorem dX6_without_73 : decode cX6_without 73 = .ok (.ireturn, 1) := by decide +kernel
set_option maxRecDepth 20000 in
theorem ggX6_wouldTurn_X6_demandPoint : GoodIn wsX6_wouldTurn wsX6_demandPoint := goodIn_ca (goodIn_r _ [6, 7, 8, 9, 53, 54, 55, 56, 57, 58, 59, 60, 61, 62, 63, 64, 65, 66, 67] (by decide +kernel) (by decide +kernel)) (goodIn_sub (fun _ h => List.mem_cons_of_mem _ (List.mem_append_right _ h)) (by decide +kernel))
set_option maxRecDepth 20000 in
theorem gX6_wouldTurn_X6_demandPoint : GoodIn wsX6_wouldTurn (wsV RX6 74 RX6 yX6_demandPoint wsX6_demandPoint) := goodIn_app (goodIn_of _ (by decide +kernel)) ggX6_wouldTurn_X6_demandPoint
set_option maxRecDepth 20000 in
theorem ggX6_wouldTurn_X0_bestPlace : GoodIn wsX6_wouldTurn wsX0_bestPlace := goodIn_r _ [14, 15, 16, 17, 18, 13, 19, 20, 21, 22, 23, 24, 25, 26, 27, 28, 29, 30, 31, 32, 33, 34, 35, 36, 37, 38, 39, 40, 41, 42, 43, 5, 44, 45, 46, 47, 48, 49, 50, 51, 52, 68, 69, 70, 71, 72, 60, 61, 62, 63, 64, 65, 66, 67] (by decide +kernel) (by decide +kernel)
set_option maxRecDepth 20000 in
theorem gX6_wouldTurn_X0_bestPlace : GoodIn wsX6_wouldTurn (wsV RX6 266 RX0 yX0_bestPlace wsX0_bestPlace) := goodIn_app (goodIn_of _ (by decide +kernel)) ggX6_wouldTurn_X0_bestPlace
theorem dX6_wouldTurn_0 : decode cX6_wouldTurn 0 = .ok (.aload_n 0, 1) := by decide +kernel
theorem dX6_wouldTurn_1 : decode cX6_wouldTurn 1 = .ok (.iload_n 1, 1) := by decide +kernel
theorem dX6_wouldTurn_2 : decode cX6_wouldTurn 2 = .ok (.invokevirtual 74, 3) := by decide +kernel
theorem dX6_wouldTurn_5 : decode cX6_wouldTurn 5 = .ok (.aload_n 0, 1) := by decide +kernel
theorem dX6_wouldTurn_6 : decode cX6_wouldTurn 6 = .ok (.getfield 49, 3) := by decide +kernel
theorem dX6_wouldTurn_9 : decode cX6_wouldTurn 9 = .ok (.iload_n 1, 1) := by decide +kernel
theorem dX6_wouldTurn_10 : decode cX6_wouldTurn 10 = .ok (.invokevirtual 266, 3) := by decide +kernel
theorem dX6_wouldTurn_13 : decode cX6_wouldTurn 13 = .ok (.ireturn, 1) := by decide +kernel
set_option maxRecDepth 20000 in
theorem ggX6_isSound_X6_areAllWaysSound : GoodIn wsX6_isSound wsX6_areAllWaysSound := goodIn_r _ [5, 6, 7, 8, 9, 4, 10, 11, 12, 13, 14, 15, 16, 17, 18, 19, 20, 21, 22, 23, 24, 25, 26, 27, 28, 29, 30, 31, 32, 33, 34, 35, 36, 37, 38, 39, 40, 41, 42, 43, 44, 45, 46, 47, 48, 49, 50, 51, 52, 53, 54, 55, 56, 57, 58, 59, 60, 61, 62, 63, 64, 65, 66, 67, 68, 69, 70, 71, 72, 73, 74, 75, 76, 77, 78, 79, 80, 81, 82, 83, 84, 85, 86, 87, 88, 89, 145, 146, 147, 148, 149, 150, 151, 152, 153, 154, 155, 156, 157, 158, 159, 160, 161, 162, 163] (by decide +kernel) (by decide +kernel)
set_option maxRecDepth 20000 in
theorem gX6_isSound_X6_areAllWaysSound : GoodIn wsX6_isSound (wsV RX6 269 RX6 yX6_areAllWaysSound wsX6_areAllWaysSound) := goodIn_app (goodIn_of _ (by decide +kernel)) ggX6_isSound_X6_areAllWaysSound
set_option maxRecDepth 20000 in
theorem ggX6_isSound_X6_handles : GoodIn wsX6_isSound wsX6_handles := goodIn_r _ [93, 94, 6, 95, 76, 62, 63, 64, 65, 66, 67, 96, 97, 98, 99, 100, 101, 102, 103, 86, 87, 50, 88, 53, 54, 145, 146, 147, 148, 149, 150, 151, 164, 165, 166, 167, 168, 169, 170, 171, 172, 173, 174, 175, 176, 177, 178, 152, 153, 154, 155, 156, 157, 158, 159, 179, 180, 181, 182, 183] (by decide +kernel) (by decide +kernel)
set_option maxRecDepth 20000 in
theorem gX6_isSound_X6_handles : GoodIn wsX6_isSound (wsV RX6 203 RX6 yX6_handles wsX6_handles) := goodIn_app (goodIn_of _ (by decide +kernel)) ggX6_isSound_X6_handles
set_option maxRecDepth 20000 in
theorem ggX6_isSound_X6_areTreesSound : GoodIn wsX6_isSound wsX6_areTreesSound := goodIn_r _ [107, 108, 94, 109, 110, 111, 112, 113, 114, 115, 116, 117, 118, 119, 23, 4, 24, 120, 121, 122, 123, 124, 125, 126, 127, 145, 146, 147, 148, 149, 150, 151, 164, 165, 166, 167, 168, 169, 170, 171, 172, 173, 174, 175, 176, 177, 178, 184, 185, 186, 187, 188, 152, 153, 154, 155, 156, 157, 158, 159] (by decide +kernel) (by decide +kernel)
set_option maxRecDepth 20000 in
theorem gX6_isSound_X6_areTreesSound : GoodIn wsX6_isSound (wsV RX6 273 RX6 yX6_areTreesSound wsX6_areTreesSound) := goodIn_app (goodIn_of _ (by decide +kernel)) ggX6_isSound_X6_areTreesSound
set_option maxRecDepth 20000 in
theorem ggX6_isSound_X6_isColouringSound : GoodIn wsX6_isSound wsX6_isColouringSound := goodIn_r _ [131, 6, 132, 133, 23, 4, 24, 145, 146, 147, 148, 149, 150, 151, 152, 153, 154, 155, 156, 157, 158, 159, 189, 190, 191] (by decide +kernel) (by decide +kernel)
set_option maxRecDepth 20000 in
theorem gX6_isSound_X6_isColouringSound : GoodIn wsX6_isSound (wsV RX6 276 RX6 yX6_isColouringSound wsX6_isColouringSound) := goodIn_app (goodIn_of _ (by decide +kernel)) ggX6_isSound_X6_isColouringSound
set_option maxRecDepth 20000 in
theorem ggX6_isSound_X6_areBlocksSound : GoodIn wsX6_isSound wsX6_areBlocksSound := goodIn_r _ [137, 6, 94, 133, 23, 4, 24, 138, 139, 140, 141, 142, 143, 144, 145, 146, 147, 148, 149, 150, 151, 152, 153, 154, 155, 156, 157, 158, 159, 164, 165, 166, 167, 168, 169, 170, 171, 172, 173, 174, 175, 176, 177, 178] (by decide +kernel) (by decide +kernel)
set_option maxRecDepth 20000 in
theorem gX6_isSound_X6_areBlocksSound : GoodIn wsX6_isSound (wsV RX6 279 RX6 yX6_areBlocksSound wsX6_areBlocksSound) := goodIn_app (goodIn_of _ (by decide +kernel)) ggX6_isSound_X6_areBlocksSound
theorem dX6_isSound_0 : decode cX6_isSound 0 = .ok (.aload_n 0, 1) := by decide +kernel
theorem dX6_isSound_1 : decode cX6_isSound 1 = .ok (.invokevirtual 269, 3) := by decide +kernel
theorem dX6_isSound_4 : decode cX6_isSound 4 = .ok (.ifCond .eq 35, 3) := by decide +kernel
theorem dX6_isSound_7 : decode cX6_isSound 7 = .ok (.aload_n 0, 1) := by decide +kernel
theorem dX6_isSound_8 : decode cX6_isSound 8 = .ok (.invokevirtual 203, 3) := by decide +kernel
theorem dX6_isSound_11 : decode cX6_isSound 11 = .ok (.ifCond .lt 28, 3) := by decide +kernel
theorem dX6_isSound_14 : decode cX6_isSound 14 = .ok (.aload_n 0, 1) := by decide +kernel
theorem dX6_isSound_15 : decode cX6_isSound 15 = .ok (.invokevirtual 273, 3) := by decide +kernel
theorem dX6_isSound_18 : decode cX6_isSound 18 = .ok (.ifCond .eq 21, 3) := by decide +kernel
theorem dX6_isSound_21 : decode cX6_isSound 21 = .ok (.aload_n 0, 1) := by decide +kernel
theorem dX6_isSound_22 : decode cX6_isSound 22 = .ok (.invokevirtual 276, 3) := by decide +kernel
theorem dX6_isSound_25 : decode cX6_isSound 25 = .ok (.ifCond .eq 14, 3) := by decide +kernel
theorem dX6_isSound_28 : decode cX6_isSound 28 = .ok (.aload_n 0, 1) := by decide +kernel
theorem dX6_isSound_29 : decode cX6_isSound 29 = .ok (.invokevirtual 279, 3) := by decide +kernel
theorem dX6_isSound_32 : decode cX6_isSound 32 = .ok (.ifCond .eq 7, 3) := by decide +kernel
theorem dX6_isSound_35 : decode cX6_isSound 35 = .ok (.iconst 1, 1) := by decide +kernel
theorem dX6_isSound_36 : decode cX6_isSound 36 = .ok (.goto 4, 3) := by decide +kernel
theorem dX6_isSound_39 : decode cX6_isSound 39 = .ok (.iconst 0, 1) := by decide +kernel
theorem dX6_isSound_40 : decode cX6_isSound 40 = .ok (.ireturn, 1) := by decide +kernel
set_option maxRecDepth 20000 in
theorem ggX6_digest_X6_net : GoodIn wsX6_digest wsX6_net := goodIn_ca (goodIn_r _ [8, 2, 3, 9, 10, 11, 12, 13, 14, 7, 15, 16, 17, 18, 19, 20, 21, 22, 23, 24, 25, 26, 27, 28, 29, 30, 31, 32, 33, 34, 35, 36, 37, 38, 39, 40, 41, 42, 43, 44, 45, 46, 47, 48, 49, 50, 51, 52, 53, 54, 55, 56, 57, 58, 59, 60, 61, 62, 63, 64, 65, 66, 67, 280, 281, 282, 283, 284, 285, 286, 287, 288, 289, 290, 291, 292, 293, 294, 295, 296, 297, 298, 299, 300, 301, 302, 303, 304, 305, 306, 307, 308, 309, 310, 311, 312, 313, 314, 315, 316, 317, 318, 319, 320, 321, 322] (by decide +kernel) (by decide +kernel)) (goodIn_sub (fun _ h => List.mem_cons_of_mem _ (List.mem_append_left _ (List.mem_append_right _ h))) (by decide +kernel))
set_option maxRecDepth 20000 in
theorem gX6_digest_X6_net : GoodIn wsX6_digest (wsV RX6 284 RX6 yX6_net wsX6_net) := goodIn_app (goodIn_of _ (by decide +kernel)) ggX6_digest_X6_net
set_option maxRecDepth 20000 in
theorem ggX6_digest_X6_mixed : GoodIn wsX6_digest wsX6_mixed := goodIn_r _ [70, 71] (by decide +kernel) (by decide +kernel)
set_option maxRecDepth 20000 in
theorem gX6_digest_X6_mixed : GoodIn wsX6_digest (va_wsS RX6 287 yX6_mixed wsX6_mixed) := goodIn_app (goodIn_of _ (by decide +kernel)) ggX6_digest_X6_mixed
set_option maxRecDepth 20000 in
theorem ggX6_digest_X6_mixedPoint : GoodIn wsX6_digest wsX6_mixedPoint := goodIn_ca (goodIn_ca (goodIn_r _ [75, 2, 76, 77, 78, 7, 79, 3, 10, 11, 80, 81, 82, 83, 84, 85, 13, 14, 15, 16, 17, 86, 33, 34, 35, 36, 37, 38, 18, 19, 20, 21, 22, 23, 24, 87, 56, 57, 88, 89, 90, 91, 92, 93, 94, 95, 96, 97, 63, 64, 65, 66, 67, 68, 69, 70, 71, 98, 99, 100, 101, 102, 103, 104, 28, 105, 106, 107, 26, 27, 29, 30, 31, 32, 108, 109, 110, 111, 112, 113, 114, 115, 116, 117, 118, 119, 120, 121, 122, 123, 124, 125, 126, 127, 128, 129, 130, 131, 132, 133, 134, 135, 136, 137, 138, 139, 140, 141, 142, 143, 144, 145, 146, 147, 148, 149, 150, 151, 152, 153, 154, 155, 156, 157, 158, 159, 160, 161, 162, 163, 164, 165, 166, 167, 53, 54, 55, 58, 59, 60, 61, 47, 62, 168, 169, 170, 171, 172, 173, 174, 175, 176, 177, 178, 179, 180, 181, 182, 183, 184, 185, 186, 187, 188, 189, 190, 191, 192, 193, 194, 195, 280, 281, 282, 283, 284, 285, 286, 287, 288, 289, 290, 291, 292, 293, 294, 295, 296, 297, 298, 299, 300, 301, 302, 303, 304, 305, 306, 307, 308, 309, 315, 316, 317, 318, 319, 320, 321, 322, 323, 324, 325, 326] (by decide +kernel) (by decide +kernel)) (goodIn_sub (fun _ h => List.mem_cons_of_mem _ (List.mem_append_right _ h)) (by decide +kernel))) (goodIn_sub (fun _ h => List.mem_cons_of_mem _ (List.mem_append_left _ (List.mem_append_right _ h))) (by decide +kernel))
set_option maxRecDepth 20000 in
theorem gX6_digest_X6_mixedPoint : GoodIn wsX6_digest (wsV RX6 291 RX6 yX6_mixedPoint wsX6_mixedPoint) := goodIn_app (goodIn_of _ (by decide +kernel)) ggX6_digest_X6_mixedPoint
set_option maxRecDepth 20000 in
theorem ggX6_digest_X6_ofLine : GoodIn wsX6_digest wsX6_ofLine := goodIn_ca (goodIn_ca (goodIn_r _ [199, 2, 3, 9, 11, 200, 201, 202, 7, 203, 84, 85, 13, 14, 15, 16, 17, 87, 56, 57, 280, 281, 282, 283, 284, 285, 286, 287, 288, 289, 290, 291, 292, 293, 294, 295, 296, 297, 298, 299, 300, 301, 302, 303, 304, 305, 306, 307, 308, 309, 310, 311, 312, 313, 314, 318, 319, 320, 321, 322] (by decide +kernel) (by decide +kernel)) (goodIn_sub (fun _ h => List.mem_cons_of_mem _ (List.mem_append_right _ h)) (by decide +kernel))) (goodIn_sub (fun _ h => List.mem_cons_of_mem _ (List.mem_append_left _ (List.mem_append_right _ h))) (by decide +kernel))
set_option maxRecDepth 20000 in
theorem gX6_digest_X6_ofLine : GoodIn wsX6_digest (wsV RX6 295 RX6 yX6_ofLine wsX6_ofLine) := goodIn_app (goodIn_of _ (by decide +kernel)) ggX6_digest_X6_ofLine
set_option maxRecDepth 20000 in
theorem ggX6_digest_X6_pair : GoodIn wsX6_digest wsX6_pair := goodIn_ca (goodIn_r _ [207, 3, 208, 209, 7, 210, 16, 17, 211, 212, 213, 91, 214, 215, 216, 217, 280, 281, 282, 283, 284, 285, 286, 295, 296, 297, 298, 299, 300, 301, 302, 303, 304, 305, 306, 307, 308, 309] (by decide +kernel) (by decide +kernel)) (goodIn_sub (fun _ h => List.mem_cons_of_mem _ (List.mem_append_left _ (List.mem_append_right _ h))) (by decide +kernel))
set_option maxRecDepth 20000 in
theorem gX6_digest_X6_pair : GoodIn wsX6_digest (wsV RX6 298 RX6 yX6_pair wsX6_pair) := goodIn_app (goodIn_of _ (by decide +kernel)) ggX6_digest_X6_pair
set_option maxRecDepth 20000 in
theorem ggX6_digest_X6_twin : GoodIn wsX6_digest wsX6_twin := goodIn_ca (goodIn_r _ [221, 3, 208, 209, 7, 210, 16, 17, 222, 223, 224, 91, 225, 226, 227, 228, 280, 281, 282, 283, 284, 285, 286, 295, 296, 297, 298, 299, 300, 301, 302, 303, 304, 305, 306, 307, 308, 309] (by decide +kernel) (by decide +kernel)) (goodIn_sub (fun _ h => List.mem_cons_of_mem _ (List.mem_append_left _ (List.mem_append_right _ h))) (by decide +kernel))
set_option maxRecDepth 20000 in
theorem gX6_digest_X6_twin : GoodIn wsX6_digest (wsV RX6 301 RX6 yX6_twin wsX6_twin) := goodIn_app (goodIn_of _ (by decide +kernel)) ggX6_digest_X6_twin
set_option maxRecDepth 20000 in
theorem ggX6_digest_X6_trees : GoodIn wsX6_digest wsX6_trees := goodIn_r _ [232, 9, 233, 234, 235, 236, 237, 238, 239, 240, 241, 242, 243, 56, 7, 57, 244, 245, 246, 247, 248, 249, 250, 251, 280, 281, 282, 283, 284, 285, 286, 310, 311, 312, 313, 314, 287, 288, 289, 290, 291, 292, 293, 294] (by decide +kernel) (by decide +kernel)
set_option maxRecDepth 20000 in
theorem gX6_digest_X6_trees : GoodIn wsX6_digest (wsV RX6 304 RX6 yX6_trees wsX6_trees) := goodIn_app (goodIn_of _ (by decide +kernel)) ggX6_digest_X6_trees
set_option maxRecDepth 20000 in
theorem ggX6_digest_X6_isSound : GoodIn wsX6_digest wsX6_isSound := goodIn_r _ [255, 256, 257, 258, 7, 259, 2, 260, 261, 262, 263, 134, 138, 139, 140, 141, 142, 143, 144, 145, 146, 147, 148, 56, 57, 149, 150, 151, 152, 153, 154, 155, 156, 157, 158, 159, 160, 161, 162, 163, 164, 165, 166, 168, 169, 170, 171, 172, 63, 64, 35, 65, 66, 37, 38, 67, 173, 174, 175, 176, 47, 177, 19, 20, 21, 22, 23, 24, 178, 179, 180, 181, 182, 183, 184, 185, 18, 186, 187, 188, 189, 190, 191, 192, 193, 194, 33, 34, 36, 195, 39, 40, 41, 42, 3, 11, 25, 26, 27, 28, 29, 30, 31, 32, 264, 265, 266, 267, 9, 233, 234, 235, 236, 237, 238, 239, 240, 241, 242, 243, 244, 245, 246, 247, 248, 249, 250, 251, 268, 269, 270, 271, 10, 87, 272, 273, 274, 275, 276, 277, 278, 91, 279, 93, 94, 280, 281, 282, 283, 284, 285, 286, 287, 288, 289, 290, 291, 292, 293, 294, 323, 324, 325, 326, 295, 296, 297, 298, 299, 300, 301, 302, 303, 304, 305, 306, 307, 308, 309, 318, 319, 320, 321, 322, 310, 311, 312, 313, 314, 315, 316, 317] (by decide +kernel) (by decide +kernel)
set_option maxRecDepth 20000 in
theorem gX6_digest_X6_isSound : GoodIn wsX6_digest (wsV RX6 307 RX6 yX6_isSound wsX6_isSound) := goodIn_app (goodIn_of _ (by decide +kernel)) ggX6_digest_X6_isSound
theorem dX6_digest_0 : decode cX6_digest 0 = .ok (.ldc2_w 282, 3) := by decide +kernel
theorem dX6_digest_3 : decode cX6_digest 3 = .ok (.lstore_n 1, 1) := by decide +kernel
theorem dX6_digest_4 : decode cX6_digest 4 = .ok (.iconst 0, 1) := by decide +kernel
theorem dX6_digest_5 : decode cX6_digest 5 = .ok (.istore_n 3, 1) := by decide +kernel
theorem dX6_digest_6 : decode cX6_digest 6 = .ok (.iload_n 3, 1) := by decide +kernel
theorem dX6_digest_7 : decode cX6_digest 7 = .ok (.bipush 14, 2) := by decide +kernel
theorem dX6_digest_9 : decode cX6_digest 9 = .ok (.if_icmp .gt 20, 3) := by decide +kernel
theorem dX6_digest_12 : decode cX6_digest 12 = .ok (.lload_n 1, 1) := by decide +kernel
theorem dX6_digest_13 : decode cX6_digest 13 = .ok (.aload_n 0, 1) := by decide +kernel
theorem dX6_digest_14 : decode cX6_digest 14 = .ok (.iload_n 3, 1) := by decide +kernel
theorem dX6_digest_15 : decode cX6_digest 15 = .ok (.invokevirtual 284, 3) := by decide +kernel
theorem dX6_digest_18 : decode cX6_digest 18 = .ok (.i2l, 1) := by decide +kernel
theorem dX6_digest_19 : decode cX6_digest 19 = .ok (.invokestatic 287, 3) := by decide +kernel
theorem dX6_digest_22 : decode cX6_digest 22 = .ok (.lstore_n 1, 1) := by decide +kernel
theorem dX6_digest_23 : decode cX6_digest 23 = .ok (.iinc 3 1, 3) := by decide +kernel
theorem dX6_digest_26 : decode cX6_digest 26 = .ok (.goto (-20), 3) := by decide +kernel
theorem dX6_digest_29 : decode cX6_digest 29 = .ok (.iconst 0, 1) := by decide +kernel
theorem dX6_digest_30 : decode cX6_digest 30 = .ok (.istore_n 3, 1) := by decide +kernel
theorem dX6_digest_31 : decode cX6_digest 31 = .ok (.iload_n 3, 1) := by decide +kernel
theorem dX6_digest_32 : decode cX6_digest 32 = .ok (.aload_n 0, 1) := by decide +kernel
theorem dX6_digest_33 : decode cX6_digest 33 = .ok (.getfield 10, 3) := by decide +kernel
theorem dX6_digest_36 : decode cX6_digest 36 = .ok (.getfield 57, 3) := by decide +kernel
theorem dX6_digest_39 : decode cX6_digest 39 = .ok (.if_icmp .ge 16, 3) := by decide +kernel
theorem dX6_digest_42 : decode cX6_digest 42 = .ok (.aload_n 0, 1) := by decide +kernel
theorem dX6_digest_43 : decode cX6_digest 43 = .ok (.lload_n 1, 1) := by decide +kernel
theorem dX6_digest_44 : decode cX6_digest 44 = .ok (.iload_n 3, 1) := by decide +kernel
theorem dX6_digest_45 : decode cX6_digest 45 = .ok (.invokevirtual 291, 3) := by decide +kernel
theorem dX6_digest_48 : decode cX6_digest 48 = .ok (.lstore_n 1, 1) := by decide +kernel
theorem dX6_digest_49 : decode cX6_digest 49 = .ok (.iinc 3 1, 3) := by decide +kernel
theorem dX6_digest_52 : decode cX6_digest 52 = .ok (.goto (-21), 3) := by decide +kernel
theorem dX6_digest_55 : decode cX6_digest 55 = .ok (.iconst 0, 1) := by decide +kernel
theorem dX6_digest_56 : decode cX6_digest 56 = .ok (.istore_n 3, 1) := by decide +kernel
theorem dX6_digest_57 : decode cX6_digest 57 = .ok (.iload_n 3, 1) := by decide +kernel
theorem dX6_digest_58 : decode cX6_digest 58 = .ok (.aload_n 0, 1) := by decide +kernel
theorem dX6_digest_59 : decode cX6_digest 59 = .ok (.getfield 10, 3) := by decide +kernel
theorem dX6_digest_62 : decode cX6_digest 62 = .ok (.getfield 85, 3) := by decide +kernel
theorem dX6_digest_65 : decode cX6_digest 65 = .ok (.if_icmp .ge 38, 3) := by decide +kernel
theorem dX6_digest_68 : decode cX6_digest 68 = .ok (.iconst 0, 1) := by decide +kernel
theorem dX6_digest_69 : decode cX6_digest 69 = .ok (.istore 4, 2) := by decide +kernel
theorem dX6_digest_71 : decode cX6_digest 71 = .ok (.iload 4, 2) := by decide +kernel
theorem dX6_digest_73 : decode cX6_digest 73 = .ok (.bipush 8, 2) := by decide +kernel
theorem dX6_digest_75 : decode cX6_digest 75 = .ok (.if_icmp .gt 22, 3) := by decide +kernel
theorem dX6_digest_78 : decode cX6_digest 78 = .ok (.lload_n 1, 1) := by decide +kernel
theorem dX6_digest_79 : decode cX6_digest 79 = .ok (.aload_n 0, 1) := by decide +kernel
theorem dX6_digest_80 : decode cX6_digest 80 = .ok (.iload_n 3, 1) := by decide +kernel
theorem dX6_digest_81 : decode cX6_digest 81 = .ok (.iload 4, 2) := by decide +kernel
theorem dX6_digest_83 : decode cX6_digest 83 = .ok (.invokevirtual 295, 3) := by decide +kernel
theorem dX6_digest_86 : decode cX6_digest 86 = .ok (.i2l, 1) := by decide +kernel
theorem dX6_digest_87 : decode cX6_digest 87 = .ok (.invokestatic 287, 3) := by decide +kernel
theorem dX6_digest_90 : decode cX6_digest 90 = .ok (.lstore_n 1, 1) := by decide +kernel
theorem dX6_digest_91 : decode cX6_digest 91 = .ok (.iinc 4 1, 3) := by decide +kernel
theorem dX6_digest_94 : decode cX6_digest 94 = .ok (.goto (-23), 3) := by decide +kernel
theorem dX6_digest_97 : decode cX6_digest 97 = .ok (.iinc 3 1, 3) := by decide +kernel
theorem dX6_digest_100 : decode cX6_digest 100 = .ok (.goto (-43), 3) := by decide +kernel
theorem dX6_digest_103 : decode cX6_digest 103 = .ok (.iconst 0, 1) := by decide +kernel
theorem dX6_digest_104 : decode cX6_digest 104 = .ok (.istore_n 3, 1) := by decide +kernel
theorem dX6_digest_105 : decode cX6_digest 105 = .ok (.iload_n 3, 1) := by decide +kernel
theorem dX6_digest_106 : decode cX6_digest 106 = .ok (.aload_n 0, 1) := by decide +kernel
theorem dX6_digest_107 : decode cX6_digest 107 = .ok (.getfield 21, 3) := by decide +kernel
theorem dX6_digest_110 : decode cX6_digest 110 = .ok (.getfield 191, 3) := by decide +kernel
theorem dX6_digest_113 : decode cX6_digest 113 = .ok (.if_icmp .ge 31, 3) := by decide +kernel
theorem dX6_digest_116 : decode cX6_digest 116 = .ok (.lload_n 1, 1) := by decide +kernel
theorem dX6_digest_117 : decode cX6_digest 117 = .ok (.aload_n 0, 1) := by decide +kernel
theorem dX6_digest_118 : decode cX6_digest 118 = .ok (.iload_n 3, 1) := by decide +kernel
theorem dX6_digest_119 : decode cX6_digest 119 = .ok (.iconst 0, 1) := by decide +kernel
theorem dX6_digest_120 : decode cX6_digest 120 = .ok (.invokevirtual 298, 3) := by decide +kernel
theorem dX6_digest_123 : decode cX6_digest 123 = .ok (.i2l, 1) := by decide +kernel
theorem dX6_digest_124 : decode cX6_digest 124 = .ok (.invokestatic 287, 3) := by decide +kernel
theorem dX6_digest_127 : decode cX6_digest 127 = .ok (.aload_n 0, 1) := by decide +kernel
theorem dX6_digest_128 : decode cX6_digest 128 = .ok (.iload_n 3, 1) := by decide +kernel
theorem dX6_digest_129 : decode cX6_digest 129 = .ok (.iconst 1, 1) := by decide +kernel
theorem dX6_digest_130 : decode cX6_digest 130 = .ok (.invokevirtual 298, 3) := by decide +kernel
theorem dX6_digest_133 : decode cX6_digest 133 = .ok (.i2l, 1) := by decide +kernel
theorem dX6_digest_134 : decode cX6_digest 134 = .ok (.invokestatic 287, 3) := by decide +kernel
theorem dX6_digest_137 : decode cX6_digest 137 = .ok (.lstore_n 1, 1) := by decide +kernel
theorem dX6_digest_138 : decode cX6_digest 138 = .ok (.iinc 3 1, 3) := by decide +kernel
theorem dX6_digest_141 : decode cX6_digest 141 = .ok (.goto (-36), 3) := by decide +kernel
theorem dX6_digest_144 : decode cX6_digest 144 = .ok (.iconst 0, 1) := by decide +kernel
theorem dX6_digest_145 : decode cX6_digest 145 = .ok (.istore_n 3, 1) := by decide +kernel
theorem dX6_digest_146 : decode cX6_digest 146 = .ok (.iload_n 3, 1) := by decide +kernel
theorem dX6_digest_147 : decode cX6_digest 147 = .ok (.aload_n 0, 1) := by decide +kernel
theorem dX6_digest_148 : decode cX6_digest 148 = .ok (.getfield 21, 3) := by decide +kernel
theorem dX6_digest_151 : decode cX6_digest 151 = .ok (.getfield 194, 3) := by decide +kernel
theorem dX6_digest_154 : decode cX6_digest 154 = .ok (.if_icmp .ge 31, 3) := by decide +kernel
theorem dX6_digest_157 : decode cX6_digest 157 = .ok (.lload_n 1, 1) := by decide +kernel
theorem dX6_digest_158 : decode cX6_digest 158 = .ok (.aload_n 0, 1) := by decide +kernel
theorem dX6_digest_159 : decode cX6_digest 159 = .ok (.iload_n 3, 1) := by decide +kernel
theorem dX6_digest_160 : decode cX6_digest 160 = .ok (.iconst 0, 1) := by decide +kernel
theorem dX6_digest_161 : decode cX6_digest 161 = .ok (.invokevirtual 301, 3) := by decide +kernel
theorem dX6_digest_164 : decode cX6_digest 164 = .ok (.i2l, 1) := by decide +kernel
theorem dX6_digest_165 : decode cX6_digest 165 = .ok (.invokestatic 287, 3) := by decide +kernel
theorem dX6_digest_168 : decode cX6_digest 168 = .ok (.aload_n 0, 1) := by decide +kernel
theorem dX6_digest_169 : decode cX6_digest 169 = .ok (.iload_n 3, 1) := by decide +kernel
theorem dX6_digest_170 : decode cX6_digest 170 = .ok (.iconst 1, 1) := by decide +kernel
theorem dX6_digest_171 : decode cX6_digest 171 = .ok (.invokevirtual 301, 3) := by decide +kernel
theorem dX6_digest_174 : decode cX6_digest 174 = .ok (.i2l, 1) := by decide +kernel
theorem dX6_digest_175 : decode cX6_digest 175 = .ok (.invokestatic 287, 3) := by decide +kernel
theorem dX6_digest_178 : decode cX6_digest 178 = .ok (.lstore_n 1, 1) := by decide +kernel
theorem dX6_digest_179 : decode cX6_digest 179 = .ok (.iinc 3 1, 3) := by decide +kernel
theorem dX6_digest_182 : decode cX6_digest 182 = .ok (.goto (-36), 3) := by decide +kernel
theorem dX6_digest_185 : decode cX6_digest 185 = .ok (.lload_n 1, 1) := by decide +kernel
theorem dX6_digest_186 : decode cX6_digest 186 = .ok (.aload_n 0, 1) := by decide +kernel
theorem dX6_digest_187 : decode cX6_digest 187 = .ok (.invokevirtual 304, 3) := by decide +kernel
theorem dX6_digest_190 : decode cX6_digest 190 = .ok (.invokestatic 287, 3) := by decide +kernel
theorem dX6_digest_193 : decode cX6_digest 193 = .ok (.lstore_n 1, 1) := by decide +kernel
theorem dX6_digest_194 : decode cX6_digest 194 = .ok (.lload_n 1, 1) := by decide +kernel
theorem dX6_digest_195 : decode cX6_digest 195 = .ok (.aload_n 0, 1) := by decide +kernel
theorem dX6_digest_196 : decode cX6_digest 196 = .ok (.invokevirtual 307, 3) := by decide +kernel
theorem dX6_digest_199 : decode cX6_digest 199 = .ok (.ifCond .eq 7, 3) := by decide +kernel
theorem dX6_digest_202 : decode cX6_digest 202 = .ok (.lconst 1, 1) := by decide +kernel
theorem dX6_digest_203 : decode cX6_digest 203 = .ok (.goto 4, 3) := by decide +kernel
theorem dX6_digest_206 : decode cX6_digest 206 = .ok (.lconst 0, 1) := by decide +kernel
theorem dX6_digest_207 : decode cX6_digest 207 = .ok (.invokestatic 287, 3) := by decide +kernel
theorem dX6_digest_210 : decode cX6_digest 210 = .ok (.lreturn, 1) := by decide +kernel
set_option maxRecDepth 20000 in
theorem ggX6_learnAll_X1_learn : GoodIn wsX6_learnAll wsX1_learn := goodIn_r _ [9, 10, 11, 12, 8, 13, 14, 15, 16, 17, 18, 19, 20, 21, 22, 23, 24, 25, 26, 27, 28, 29, 30, 31, 32, 33, 34, 35, 36, 37, 38, 39, 40, 41, 42, 43, 44, 45, 46, 47, 48, 49, 50, 51, 52, 53, 54, 55, 56, 57, 58, 59, 60, 61, 62, 63, 64, 65, 66, 67, 68, 69, 70, 71, 72, 73, 74, 75, 76, 77, 78, 79, 80, 81, 82, 83, 84, 85, 86, 87, 88, 89, 90, 91, 92, 93, 94, 95, 96, 97, 98, 99, 100, 101, 102, 103, 104, 105, 106, 107, 108, 180, 181, 182, 183, 184, 185, 186, 187, 188, 189, 190, 191, 192, 193, 194, 195, 196, 197, 198, 199, 200, 201, 202] (by decide +kernel) (by decide +kernel)
set_option maxRecDepth 20000 in
theorem gX6_learnAll_X1_learn : GoodIn wsX6_learnAll (wsV RX6 310 RX1 yX1_learn wsX1_learn) := goodIn_app (goodIn_of _ (by decide +kernel)) ggX6_learnAll_X1_learn
set_option maxRecDepth 20000 in
theorem ggX6_learnAll_X2_learn : GoodIn wsX6_learnAll wsX2_learn := goodIn_r _ [113, 114, 115, 116, 117, 20, 21, 22, 23, 24, 118, 43, 44, 45, 16, 17, 18, 46, 26, 27, 28, 29, 30, 119, 120, 121, 112, 122, 123, 124, 125, 126, 127, 203, 204, 205, 206, 207, 195, 196, 197, 198, 199, 200, 201, 202] (by decide +kernel) (by decide +kernel)
set_option maxRecDepth 20000 in
theorem gX6_learnAll_X2_learn : GoodIn wsX6_learnAll (wsV RX6 120 RX2 yX2_learn wsX2_learn) := goodIn_app (goodIn_of _ (by decide +kernel)) ggX6_learnAll_X2_learn
set_option maxRecDepth 20000 in
theorem ggX6_learnAll_X3_learn : GoodIn wsX6_learnAll wsX3_learn := goodIn_r _ [132, 133, 134, 135, 136, 137, 131, 138, 139, 140, 141, 79, 142, 143, 144, 145, 22, 146, 29, 61, 62, 30, 16, 17, 18, 147, 148, 149, 150, 208, 209, 210, 195, 196, 197, 198, 199, 200, 201, 202] (by decide +kernel) (by decide +kernel)
set_option maxRecDepth 20000 in
theorem gX6_learnAll_X3_learn : GoodIn wsX6_learnAll (wsV RX6 311 RX3 yX3_learn wsX3_learn) := goodIn_app (goodIn_of _ (by decide +kernel)) ggX6_learnAll_X3_learn
set_option maxRecDepth 20000 in
theorem ggX6_learnAll_X0_learn : GoodIn wsX6_learnAll wsX0_learn := goodIn_r _ [155, 156, 157, 158, 16, 17, 18, 159, 160, 161, 154, 162, 163, 164, 165, 166, 167, 168, 169, 170, 171, 172, 211, 212, 213, 214, 215, 195, 196, 197, 198, 199, 200, 201, 202] (by decide +kernel) (by decide +kernel)
set_option maxRecDepth 20000 in
theorem gX6_learnAll_X0_learn : GoodIn wsX6_learnAll (wsV RX6 129 RX0 yX0_learn wsX0_learn) := goodIn_app (goodIn_of _ (by decide +kernel)) ggX6_learnAll_X0_learn
theorem dX6_learnAll_0 : decode cX6_learnAll 0 = .ok (.aload_n 0, 1) := by decide +kernel
theorem dX6_learnAll_1 : decode cX6_learnAll 1 = .ok (.getfield 21, 3) := by decide +kernel
theorem dX6_learnAll_4 : decode cX6_learnAll 4 = .ok (.invokevirtual 310, 3) := by decide +kernel
theorem dX6_learnAll_7 : decode cX6_learnAll 7 = .ok (.aload_n 0, 1) := by decide +kernel
theorem dX6_learnAll_8 : decode cX6_learnAll 8 = .ok (.getfield 35, 3) := by decide +kernel
theorem dX6_learnAll_11 : decode cX6_learnAll 11 = .ok (.invokevirtual 120, 3) := by decide +kernel
theorem dX6_learnAll_14 : decode cX6_learnAll 14 = .ok (.aload_n 0, 1) := by decide +kernel
theorem dX6_learnAll_15 : decode cX6_learnAll 15 = .ok (.getfield 42, 3) := by decide +kernel
theorem dX6_learnAll_18 : decode cX6_learnAll 18 = .ok (.invokevirtual 311, 3) := by decide +kernel
theorem dX6_learnAll_21 : decode cX6_learnAll 21 = .ok (.aload_n 0, 1) := by decide +kernel
theorem dX6_learnAll_22 : decode cX6_learnAll 22 = .ok (.getfield 49, 3) := by decide +kernel
theorem dX6_learnAll_25 : decode cX6_learnAll 25 = .ok (.invokevirtual 129, 3) := by decide +kernel
theorem dX6_learnAll_28 : decode cX6_learnAll 28 = .ok (.return_, 1) := by decide +kernel
set_option maxRecDepth 20000 in
theorem ggX6_mixedPoint_X6_ofPoint : GoodIn wsX6_mixedPoint wsX6_ofPoint := goodIn_ca (goodIn_ca (goodIn_r _ [6, 7, 1, 8, 9, 10, 11, 12, 5, 13, 14, 15, 16, 17, 18, 19, 20, 21, 22, 23, 24, 25, 26, 27, 28, 29, 30, 31, 32, 33, 34, 35, 36, 37, 38, 39, 40, 41, 42, 43, 44, 45, 46, 47, 48, 49, 50, 51, 52, 171, 172, 173, 174, 175, 176, 177, 186, 187, 188, 189, 190, 191, 192, 193, 194, 195, 196, 197, 198, 199, 200, 201, 202, 203, 204, 205, 206, 207, 208, 178, 179, 180, 181, 182, 183, 184, 185] (by decide +kernel) (by decide +kernel)) (goodIn_sub (fun _ h => List.mem_cons_of_mem _ (List.mem_append_left _ (List.mem_append_right _ h))) (by decide +kernel))) (goodIn_sub (fun _ h => List.mem_cons_of_mem _ (List.mem_append_right _ h)) (by decide +kernel))
set_option maxRecDepth 20000 in
theorem gX6_mixedPoint_X6_ofPoint : GoodIn wsX6_mixedPoint (wsV RX6 312 RX6 yX6_ofPoint wsX6_ofPoint) := goodIn_app (goodIn_of _ (by decide +kernel)) ggX6_mixedPoint_X6_ofPoint
set_option maxRecDepth 20000 in
theorem ggX6_mixedPoint_X6_mixed : GoodIn wsX6_mixedPoint wsX6_mixed := goodIn_r _ [55, 56] (by decide +kernel) (by decide +kernel)
set_option maxRecDepth 20000 in
theorem gX6_mixedPoint_X6_mixed : GoodIn wsX6_mixedPoint (va_wsS RX6 287 yX6_mixed wsX6_mixed) := goodIn_app (goodIn_of _ (by decide +kernel)) ggX6_mixedPoint_X6_mixed
set_option maxRecDepth 20000 in
theorem ggX6_mixedPoint_X6_wouldTurn : GoodIn wsX6_mixedPoint wsX6_wouldTurn := goodIn_ca (goodIn_r _ [60, 9, 10, 11, 12, 5, 13, 14, 15, 1, 61, 62, 63, 64, 65, 66, 67, 68, 69, 70, 71, 72, 73, 22, 23, 24, 25, 26, 27, 74, 75, 76, 77, 78, 79, 80, 81, 82, 83, 84, 85, 86, 87, 36, 37, 88, 89, 90, 91, 92, 93, 94, 95, 171, 172, 173, 174, 175, 176, 177, 178, 179, 180, 181, 182, 183, 184, 185, 204, 205, 206, 207, 208] (by decide +kernel) (by decide +kernel)) (goodIn_sub (fun _ h => List.mem_cons_of_mem _ (List.mem_append_left _ (List.mem_append_right _ h))) (by decide +kernel))
set_option maxRecDepth 20000 in
theorem gX6_mixedPoint_X6_wouldTurn : GoodIn wsX6_mixedPoint (wsV RX6 315 RX6 yX6_wouldTurn wsX6_wouldTurn) := goodIn_app (goodIn_of _ (by decide +kernel)) ggX6_mixedPoint_X6_wouldTurn
set_option maxRecDepth 20000 in
theorem ggX6_mixedPoint_X6_between : GoodIn wsX6_mixedPoint wsX6_between := goodIn_ca (goodIn_ca (goodIn_r _ [99, 100, 1, 10, 11, 12, 5, 13, 14, 15, 101, 102, 103, 19, 20, 16, 17, 18, 104, 105, 106, 107, 108, 109, 110, 111, 112, 113, 114, 36, 37, 115, 116, 117, 118, 119, 120, 121, 122, 123, 124, 125, 126, 127, 128, 129, 130, 131, 132, 133, 134, 135, 24, 136, 137, 138, 139, 140, 141, 142, 48, 49, 50, 51, 26, 27, 52, 143, 144, 145, 146, 147, 148, 149, 150, 151, 152, 29, 30, 31, 32, 33, 34, 153, 154, 155, 156, 157, 158, 159, 160, 161, 162, 163, 164, 165, 166, 167, 168, 169, 22, 23, 25, 170, 171, 172, 173, 174, 175, 176, 177, 178, 179, 180, 181, 182, 183, 184, 185, 209, 210, 211, 212] (by decide +kernel) (by decide +kernel)) (goodIn_sub (fun _ h => List.mem_cons_of_mem _ (List.mem_append_left _ (List.mem_append_right _ h))) (by decide +kernel))) (goodIn_sub (fun _ h => List.mem_cons_of_mem _ (List.mem_append_right _ h)) (by decide +kernel))
set_option maxRecDepth 20000 in
theorem gX6_mixedPoint_X6_between : GoodIn wsX6_mixedPoint (wsV RX6 318 RX6 yX6_between wsX6_between) := goodIn_app (goodIn_of _ (by decide +kernel)) ggX6_mixedPoint_X6_between
theorem dX6_mixedPoint_0 : decode cX6_mixedPoint 0 = .ok (.lload_n 1, 1) := by decide +kernel
theorem dX6_mixedPoint_1 : decode cX6_mixedPoint 1 = .ok (.lstore 4, 2) := by decide +kernel
theorem dX6_mixedPoint_3 : decode cX6_mixedPoint 3 = .ok (.iconst 0, 1) := by decide +kernel
theorem dX6_mixedPoint_4 : decode cX6_mixedPoint 4 = .ok (.istore 6, 2) := by decide +kernel
theorem dX6_mixedPoint_6 : decode cX6_mixedPoint 6 = .ok (.iload 6, 2) := by decide +kernel
theorem dX6_mixedPoint_8 : decode cX6_mixedPoint 8 = .ok (.bipush 6, 2) := by decide +kernel
theorem dX6_mixedPoint_10 : decode cX6_mixedPoint 10 = .ok (.if_icmp .gt 24, 3) := by decide +kernel
theorem dX6_mixedPoint_13 : decode cX6_mixedPoint 13 = .ok (.lload 4, 2) := by decide +kernel
theorem dX6_mixedPoint_15 : decode cX6_mixedPoint 15 = .ok (.aload_n 0, 1) := by decide +kernel
theorem dX6_mixedPoint_16 : decode cX6_mixedPoint 16 = .ok (.iload_n 3, 1) := by decide +kernel
theorem dX6_mixedPoint_17 : decode cX6_mixedPoint 17 = .ok (.iload 6, 2) := by decide +kernel
theorem dX6_mixedPoint_19 : decode cX6_mixedPoint 19 = .ok (.invokevirtual 312, 3) := by decide +kernel
theorem dX6_mixedPoint_22 : decode cX6_mixedPoint 22 = .ok (.i2l, 1) := by decide +kernel
theorem dX6_mixedPoint_23 : decode cX6_mixedPoint 23 = .ok (.invokestatic 287, 3) := by decide +kernel
theorem dX6_mixedPoint_26 : decode cX6_mixedPoint 26 = .ok (.lstore 4, 2) := by decide +kernel
theorem dX6_mixedPoint_28 : decode cX6_mixedPoint 28 = .ok (.iinc 6 1, 3) := by decide +kernel
theorem dX6_mixedPoint_31 : decode cX6_mixedPoint 31 = .ok (.goto (-25), 3) := by decide +kernel
theorem dX6_mixedPoint_34 : decode cX6_mixedPoint 34 = .ok (.lload 4, 2) := by decide +kernel
theorem dX6_mixedPoint_36 : decode cX6_mixedPoint 36 = .ok (.aload_n 0, 1) := by decide +kernel
theorem dX6_mixedPoint_37 : decode cX6_mixedPoint 37 = .ok (.iload_n 3, 1) := by decide +kernel
theorem dX6_mixedPoint_38 : decode cX6_mixedPoint 38 = .ok (.invokevirtual 315, 3) := by decide +kernel
theorem dX6_mixedPoint_41 : decode cX6_mixedPoint 41 = .ok (.i2l, 1) := by decide +kernel
theorem dX6_mixedPoint_42 : decode cX6_mixedPoint 42 = .ok (.invokestatic 287, 3) := by decide +kernel
theorem dX6_mixedPoint_45 : decode cX6_mixedPoint 45 = .ok (.lstore 4, 2) := by decide +kernel
theorem dX6_mixedPoint_47 : decode cX6_mixedPoint 47 = .ok (.iload_n 3, 1) := by decide +kernel
theorem dX6_mixedPoint_48 : decode cX6_mixedPoint 48 = .ok (.iconst 1, 1) := by decide +kernel
theorem dX6_mixedPoint_49 : decode cX6_mixedPoint 49 = .ok (.iadd, 1) := by decide +kernel
theorem dX6_mixedPoint_50 : decode cX6_mixedPoint 50 = .ok (.istore 6, 2) := by decide +kernel
theorem dX6_mixedPoint_52 : decode cX6_mixedPoint 52 = .ok (.iload 6, 2) := by decide +kernel
theorem dX6_mixedPoint_54 : decode cX6_mixedPoint 54 = .ok (.aload_n 0, 1) := by decide +kernel
theorem dX6_mixedPoint_55 : decode cX6_mixedPoint 55 = .ok (.getfield 10, 3) := by decide +kernel
theorem dX6_mixedPoint_58 : decode cX6_mixedPoint 58 = .ok (.getfield 57, 3) := by decide +kernel
theorem dX6_mixedPoint_61 : decode cX6_mixedPoint 61 = .ok (.if_icmp .ge 41, 3) := by decide +kernel
theorem dX6_mixedPoint_64 : decode cX6_mixedPoint 64 = .ok (.iconst 0, 1) := by decide +kernel
theorem dX6_mixedPoint_65 : decode cX6_mixedPoint 65 = .ok (.istore 7, 2) := by decide +kernel
theorem dX6_mixedPoint_67 : decode cX6_mixedPoint 67 = .ok (.iload 7, 2) := by decide +kernel
theorem dX6_mixedPoint_69 : decode cX6_mixedPoint 69 = .ok (.iconst 5, 1) := by decide +kernel
theorem dX6_mixedPoint_70 : decode cX6_mixedPoint 70 = .ok (.if_icmp .gt 26, 3) := by decide +kernel
theorem dX6_mixedPoint_73 : decode cX6_mixedPoint 73 = .ok (.lload 4, 2) := by decide +kernel
theorem dX6_mixedPoint_75 : decode cX6_mixedPoint 75 = .ok (.aload_n 0, 1) := by decide +kernel
theorem dX6_mixedPoint_76 : decode cX6_mixedPoint 76 = .ok (.iload_n 3, 1) := by decide +kernel
theorem dX6_mixedPoint_77 : decode cX6_mixedPoint 77 = .ok (.iload 6, 2) := by decide +kernel
theorem dX6_mixedPoint_79 : decode cX6_mixedPoint 79 = .ok (.iload 7, 2) := by decide +kernel
theorem dX6_mixedPoint_81 : decode cX6_mixedPoint 81 = .ok (.invokevirtual 318, 3) := by decide +kernel
theorem dX6_mixedPoint_84 : decode cX6_mixedPoint 84 = .ok (.i2l, 1) := by decide +kernel
theorem dX6_mixedPoint_85 : decode cX6_mixedPoint 85 = .ok (.invokestatic 287, 3) := by decide +kernel
theorem dX6_mixedPoint_88 : decode cX6_mixedPoint 88 = .ok (.lstore 4, 2) := by decide +kernel
theorem dX6_mixedPoint_90 : decode cX6_mixedPoint 90 = .ok (.iinc 7 1, 3) := by decide +kernel
theorem dX6_mixedPoint_93 : decode cX6_mixedPoint 93 = .ok (.goto (-26), 3) := by decide +kernel
theorem dX6_mixedPoint_96 : decode cX6_mixedPoint 96 = .ok (.iinc 6 1, 3) := by decide +kernel
theorem dX6_mixedPoint_99 : decode cX6_mixedPoint 99 = .ok (.goto (-47), 3) := by decide +kernel
theorem dX6_mixedPoint_102 : decode cX6_mixedPoint 102 = .ok (.lload 4, 2) := by decide +kernel
theorem dX6_mixedPoint_104 : decode cX6_mixedPoint 104 = .ok (.lreturn, 1) := by decide +kernel
theorem dX6_mixed_0 : decode cX6_mixed 0 = .ok (.lload_n 0, 1) := by decide +kernel
theorem dX6_mixed_1 : decode cX6_mixed 1 = .ok (.ldc2_w 321, 3) := by decide +kernel
theorem dX6_mixed_4 : decode cX6_mixed 4 = .ok (.lmul, 1) := by decide +kernel
theorem dX6_mixed_5 : decode cX6_mixed 5 = .ok (.lload_n 2, 1) := by decide +kernel
theorem dX6_mixed_6 : decode cX6_mixed 6 = .ok (.ladd, 1) := by decide +kernel
theorem dX6_mixed_7 : decode cX6_mixed 7 = .ok (.lreturn, 1) := by decide +kernel
set_option maxRecDepth 20000 in
theorem ggX6_handles_J6_bitCount_0f7a4 : GoodIn wsX6_handles wsJ6_bitCount_0f7a4 := goodIn_r _ [7, 8, 9, 10] (by decide +kernel) (by decide +kernel)
set_option maxRecDepth 20000 in
theorem gX6_handles_J6_bitCount_0f7a4 : GoodIn wsX6_handles (va_wsS RX6 143 yJ6_bitCount_0f7a4 wsJ6_bitCount_0f7a4) := goodIn_app (goodIn_of _ (by decide +kernel)) ggX6_handles_J6_bitCount_0f7a4
set_option maxRecDepth 20000 in
theorem ggX6_handles_X0_allFaces : GoodIn wsX6_handles wsX0_allFaces := goodIn_r _ [15, 16, 17, 18, 19, 20, 21, 22, 23, 24, 55, 56, 57, 58, 59, 47, 48, 49, 50, 51, 52, 53, 54] (by decide +kernel) (by decide +kernel)
set_option maxRecDepth 20000 in
theorem gX6_handles_X0_allFaces : GoodIn wsX6_handles (wsV RX6 130 RX0 yX0_allFaces wsX0_allFaces) := goodIn_app (goodIn_of _ (by decide +kernel)) ggX6_handles_X0_allFaces
theorem dX6_handles_0 : decode cX6_handles 0 = .ok (.iconst 2, 1) := by decide +kernel
theorem dX6_handles_1 : decode cX6_handles 1 = .ok (.aload_n 0, 1) := by decide +kernel
theorem dX6_handles_2 : decode cX6_handles 2 = .ok (.getfield 21, 3) := by decide +kernel
theorem dX6_handles_5 : decode cX6_handles 5 = .ok (.getfield 113, 3) := by decide +kernel
theorem dX6_handles_8 : decode cX6_handles 8 = .ok (.imul, 1) := by decide +kernel
theorem dX6_handles_9 : decode cX6_handles 9 = .ok (.aload_n 0, 1) := by decide +kernel
theorem dX6_handles_10 : decode cX6_handles 10 = .ok (.getfield 10, 3) := by decide +kernel
theorem dX6_handles_13 : decode cX6_handles 13 = .ok (.getfield 57, 3) := by decide +kernel
theorem dX6_handles_16 : decode cX6_handles 16 = .ok (.isub, 1) := by decide +kernel
theorem dX6_handles_17 : decode cX6_handles 17 = .ok (.aload_n 0, 1) := by decide +kernel
theorem dX6_handles_18 : decode cX6_handles 18 = .ok (.getfield 10, 3) := by decide +kernel
theorem dX6_handles_21 : decode cX6_handles 21 = .ok (.getfield 173, 3) := by decide +kernel
theorem dX6_handles_24 : decode cX6_handles 24 = .ok (.invokestatic 143, 3) := by decide +kernel
theorem dX6_handles_27 : decode cX6_handles 27 = .ok (.iadd, 1) := by decide +kernel
theorem dX6_handles_28 : decode cX6_handles 28 = .ok (.aload_n 0, 1) := by decide +kernel
theorem dX6_handles_29 : decode cX6_handles 29 = .ok (.getfield 49, 3) := by decide +kernel
theorem dX6_handles_32 : decode cX6_handles 32 = .ok (.invokevirtual 130, 3) := by decide +kernel
theorem dX6_handles_35 : decode cX6_handles 35 = .ok (.isub, 1) := by decide +kernel
theorem dX6_handles_36 : decode cX6_handles 36 = .ok (.istore_n 1, 1) := by decide +kernel
theorem dX6_handles_37 : decode cX6_handles 37 = .ok (.iload_n 1, 1) := by decide +kernel
theorem dX6_handles_38 : decode cX6_handles 38 = .ok (.iconst 2, 1) := by decide +kernel
theorem dX6_handles_39 : decode cX6_handles 39 = .ok (.idiv, 1) := by decide +kernel
theorem dX6_handles_40 : decode cX6_handles 40 = .ok (.ireturn, 1) := by decide +kernel
set_option maxRecDepth 20000 in
theorem ggX6_areAllWaysSound_X6_areWaysSound : GoodIn wsX6_areAllWaysSound wsX6_areWaysSound := goodIn_r _ [6, 7, 1, 8, 9, 10, 11, 12, 13, 14, 15, 16, 17, 18, 19, 5, 20, 21, 22, 23, 24, 25, 26, 27, 28, 29, 30, 31, 32, 33, 34, 35, 36, 37, 38, 39, 40, 41, 42, 43, 44, 45, 46, 47, 48, 49, 50, 51, 52, 53, 54, 55, 56, 57, 58, 59, 60, 61, 62, 63, 64, 65, 66, 67, 68, 69, 70, 71, 72, 73, 74, 75, 76, 77, 78, 79, 80, 81, 82, 83, 84, 85, 86, 87, 88, 89, 90, 91, 92, 101, 102, 103, 104, 93, 94, 95, 96, 97, 98, 99, 100] (by decide +kernel) (by decide +kernel)
set_option maxRecDepth 20000 in
theorem gX6_areAllWaysSound_X6_areWaysSound : GoodIn wsX6_areAllWaysSound (wsV RX6 323 RX6 yX6_areWaysSound wsX6_areWaysSound) := goodIn_app (goodIn_of _ (by decide +kernel)) ggX6_areAllWaysSound_X6_areWaysSound
theorem dX6_areAllWaysSound_0 : decode cX6_areAllWaysSound 0 = .ok (.iconst 0, 1) := by decide +kernel
theorem dX6_areAllWaysSound_1 : decode cX6_areAllWaysSound 1 = .ok (.istore_n 1, 1) := by decide +kernel
theorem dX6_areAllWaysSound_2 : decode cX6_areAllWaysSound 2 = .ok (.iload_n 1, 1) := by decide +kernel
theorem dX6_areAllWaysSound_3 : decode cX6_areAllWaysSound 3 = .ok (.aload_n 0, 1) := by decide +kernel
theorem dX6_areAllWaysSound_4 : decode cX6_areAllWaysSound 4 = .ok (.getfield 10, 3) := by decide +kernel
theorem dX6_areAllWaysSound_7 : decode cX6_areAllWaysSound 7 = .ok (.getfield 57, 3) := by decide +kernel
theorem dX6_areAllWaysSound_10 : decode cX6_areAllWaysSound 10 = .ok (.if_icmp .ge 41, 3) := by decide +kernel
theorem dX6_areAllWaysSound_13 : decode cX6_areAllWaysSound 13 = .ok (.iload_n 1, 1) := by decide +kernel
theorem dX6_areAllWaysSound_14 : decode cX6_areAllWaysSound 14 = .ok (.iconst 1, 1) := by decide +kernel
theorem dX6_areAllWaysSound_15 : decode cX6_areAllWaysSound 15 = .ok (.iadd, 1) := by decide +kernel
theorem dX6_areAllWaysSound_16 : decode cX6_areAllWaysSound 16 = .ok (.istore_n 2, 1) := by decide +kernel
theorem dX6_areAllWaysSound_17 : decode cX6_areAllWaysSound 17 = .ok (.iload_n 2, 1) := by decide +kernel
theorem dX6_areAllWaysSound_18 : decode cX6_areAllWaysSound 18 = .ok (.aload_n 0, 1) := by decide +kernel
theorem dX6_areAllWaysSound_19 : decode cX6_areAllWaysSound 19 = .ok (.getfield 10, 3) := by decide +kernel
theorem dX6_areAllWaysSound_22 : decode cX6_areAllWaysSound 22 = .ok (.getfield 57, 3) := by decide +kernel
theorem dX6_areAllWaysSound_25 : decode cX6_areAllWaysSound 25 = .ok (.if_icmp .ge 20, 3) := by decide +kernel
theorem dX6_areAllWaysSound_28 : decode cX6_areAllWaysSound 28 = .ok (.aload_n 0, 1) := by decide +kernel
theorem dX6_areAllWaysSound_29 : decode cX6_areAllWaysSound 29 = .ok (.iload_n 1, 1) := by decide +kernel
theorem dX6_areAllWaysSound_30 : decode cX6_areAllWaysSound 30 = .ok (.iload_n 2, 1) := by decide +kernel
theorem dX6_areAllWaysSound_31 : decode cX6_areAllWaysSound 31 = .ok (.invokevirtual 323, 3) := by decide +kernel
theorem dX6_areAllWaysSound_34 : decode cX6_areAllWaysSound 34 = .ok (.ifCond .ne 5, 3) := by decide +kernel
theorem dX6_areAllWaysSound_37 : decode cX6_areAllWaysSound 37 = .ok (.iconst 0, 1) := by decide +kernel
theorem dX6_areAllWaysSound_38 : decode cX6_areAllWaysSound 38 = .ok (.ireturn, 1) := by decide +kernel
theorem dX6_areAllWaysSound_39 : decode cX6_areAllWaysSound 39 = .ok (.iinc 2 1, 3) := by decide +kernel
theorem dX6_areAllWaysSound_42 : decode cX6_areAllWaysSound 42 = .ok (.goto (-25), 3) := by decide +kernel
theorem dX6_areAllWaysSound_45 : decode cX6_areAllWaysSound 45 = .ok (.iinc 1 1, 3) := by decide +kernel
theorem dX6_areAllWaysSound_48 : decode cX6_areAllWaysSound 48 = .ok (.goto (-46), 3) := by decide +kernel
theorem dX6_areAllWaysSound_51 : decode cX6_areAllWaysSound 51 = .ok (.iconst 1, 1) := by decide +kernel
theorem dX6_areAllWaysSound_52 : decode cX6_areAllWaysSound 52 = .ok (.ireturn, 1) := by decide +kernel
set_option maxRecDepth 20000 in
theorem ggX6_areWaysSound_X4_countWays : GoodIn wsX6_areWaysSound wsX4_countWays := goodIn_r _ [7, 8, 9, 10, 11, 12, 6, 13, 14, 15, 16, 17, 18, 19, 20, 21, 22, 23, 24, 25, 26, 27, 28, 29, 30, 89, 90, 91, 92, 93, 94, 95, 96, 97, 98, 99, 100] (by decide +kernel) (by decide +kernel)
set_option maxRecDepth 20000 in
theorem gX6_areWaysSound_X4_countWays : GoodIn wsX6_areWaysSound (wsV RX6 219 RX4 yX4_countWays wsX4_countWays) := goodIn_app (goodIn_of _ (by decide +kernel)) ggX6_areWaysSound_X4_countWays
set_option maxRecDepth 20000 in
theorem ggX6_areWaysSound_X4_countLineWays : GoodIn wsX6_areWaysSound wsX4_countLineWays := goodIn_r _ [34, 8, 9, 10, 11, 12, 6, 13, 14, 15, 16, 17, 18, 19, 20, 21, 22, 23, 24, 25, 26, 27, 28, 29, 30, 89, 90, 91, 92, 93, 94, 95, 96, 97, 98, 99, 100] (by decide +kernel) (by decide +kernel)
set_option maxRecDepth 20000 in
theorem gX6_areWaysSound_X4_countLineWays : GoodIn wsX6_areWaysSound (wsV RX6 222 RX4 yX4_countLineWays wsX4_countLineWays) := goodIn_app (goodIn_of _ (by decide +kernel)) ggX6_areWaysSound_X4_countLineWays
set_option maxRecDepth 20000 in
theorem ggX6_areWaysSound_X4_gap : GoodIn wsX6_areWaysSound wsX4_gap := goodIn_r _ [38, 8, 39, 40, 41, 42, 43, 44, 45, 46, 47, 14, 15, 16, 48, 49, 50, 51, 52, 53, 54, 55, 56, 57, 58, 59, 60, 61, 62, 6, 63, 64, 65, 66, 67, 89, 90, 91, 92, 93, 94, 95, 96, 97, 98, 99, 100] (by decide +kernel) (by decide +kernel)
set_option maxRecDepth 20000 in
theorem gX6_areWaysSound_X4_gap : GoodIn wsX6_areWaysSound (wsV RX6 228 RX4 yX4_gap wsX4_gap) := goodIn_app (goodIn_of _ (by decide +kernel)) ggX6_areWaysSound_X4_gap
set_option maxRecDepth 20000 in
theorem ggX6_areWaysSound_J6_bitCount_0f7a4 : GoodIn wsX6_areWaysSound wsJ6_bitCount_0f7a4 := goodIn_r _ [56, 57, 58, 59] (by decide +kernel) (by decide +kernel)
set_option maxRecDepth 20000 in
theorem gX6_areWaysSound_J6_bitCount_0f7a4 : GoodIn wsX6_areWaysSound (va_wsS RX6 143 yJ6_bitCount_0f7a4 wsJ6_bitCount_0f7a4) := goodIn_app (goodIn_of _ (by decide +kernel)) ggX6_areWaysSound_J6_bitCount_0f7a4
set_option maxRecDepth 20000 in
theorem ggX6_areWaysSound_X4_side : GoodIn wsX6_areWaysSound wsX4_side := goodIn_r _ [72, 8, 73, 74, 75, 42, 76, 52, 14, 15, 16, 77, 78, 79, 80, 45, 46, 53, 54, 55, 56, 57, 58, 59, 48, 49, 50, 51, 89, 90, 91, 92, 93, 94, 95, 96, 97, 98, 99, 100] (by decide +kernel) (by decide +kernel)
set_option maxRecDepth 20000 in
theorem gX6_areWaysSound_X4_side : GoodIn wsX6_areWaysSound (wsV RX6 231 RX4 yX4_side wsX4_side) := goodIn_app (goodIn_of _ (by decide +kernel)) ggX6_areWaysSound_X4_side
set_option maxRecDepth 20000 in
theorem ggX6_areWaysSound_X5_linesOutOf : GoodIn wsX6_areWaysSound wsX5_linesOutOf := goodIn_r _ [76, 52, 14, 15, 16, 77, 78, 79, 42, 80, 45, 46, 93, 94, 95, 96, 97, 98, 99, 100] (by decide +kernel) (by decide +kernel)
set_option maxRecDepth 20000 in
theorem gX6_areWaysSound_X5_linesOutOf : GoodIn wsX6_areWaysSound (wsV RX6 234 RX5 yX5_linesOutOf wsX5_linesOutOf) := goodIn_app (goodIn_of _ (by decide +kernel)) ggX6_areWaysSound_X5_linesOutOf
theorem dX6_areWaysSound_0 : decode cX6_areWaysSound 0 = .ok (.aload_n 0, 1) := by decide +kernel
theorem dX6_areWaysSound_1 : decode cX6_areWaysSound 1 = .ok (.getfield 28, 3) := by decide +kernel
theorem dX6_areWaysSound_4 : decode cX6_areWaysSound 4 = .ok (.iload_n 1, 1) := by decide +kernel
theorem dX6_areWaysSound_5 : decode cX6_areWaysSound 5 = .ok (.iload_n 2, 1) := by decide +kernel
theorem dX6_areWaysSound_6 : decode cX6_areWaysSound 6 = .ok (.invokevirtual 219, 3) := by decide +kernel
theorem dX6_areWaysSound_9 : decode cX6_areWaysSound 9 = .ok (.istore_n 3, 1) := by decide +kernel
theorem dX6_areWaysSound_10 : decode cX6_areWaysSound 10 = .ok (.aload_n 0, 1) := by decide +kernel
theorem dX6_areWaysSound_11 : decode cX6_areWaysSound 11 = .ok (.getfield 28, 3) := by decide +kernel
theorem dX6_areWaysSound_14 : decode cX6_areWaysSound 14 = .ok (.iload_n 1, 1) := by decide +kernel
theorem dX6_areWaysSound_15 : decode cX6_areWaysSound 15 = .ok (.iload_n 2, 1) := by decide +kernel
theorem dX6_areWaysSound_16 : decode cX6_areWaysSound 16 = .ok (.invokevirtual 222, 3) := by decide +kernel
theorem dX6_areWaysSound_19 : decode cX6_areWaysSound 19 = .ok (.istore 4, 2) := by decide +kernel
theorem dX6_areWaysSound_21 : decode cX6_areWaysSound 21 = .ok (.aload_n 0, 1) := by decide +kernel
theorem dX6_areWaysSound_22 : decode cX6_areWaysSound 22 = .ok (.getfield 28, 3) := by decide +kernel
theorem dX6_areWaysSound_25 : decode cX6_areWaysSound 25 = .ok (.iload_n 1, 1) := by decide +kernel
theorem dX6_areWaysSound_26 : decode cX6_areWaysSound 26 = .ok (.iload_n 2, 1) := by decide +kernel
theorem dX6_areWaysSound_27 : decode cX6_areWaysSound 27 = .ok (.invokevirtual 228, 3) := by decide +kernel
theorem dX6_areWaysSound_30 : decode cX6_areWaysSound 30 = .ok (.istore 5, 2) := by decide +kernel
theorem dX6_areWaysSound_32 : decode cX6_areWaysSound 32 = .ok (.iload 5, 2) := by decide +kernel
theorem dX6_areWaysSound_34 : decode cX6_areWaysSound 34 = .ok (.iconst (-1), 1) := by decide +kernel
theorem dX6_areWaysSound_35 : decode cX6_areWaysSound 35 = .ok (.if_icmp .eq 14, 3) := by decide +kernel
theorem dX6_areWaysSound_38 : decode cX6_areWaysSound 38 = .ok (.iload 5, 2) := by decide +kernel
theorem dX6_areWaysSound_40 : decode cX6_areWaysSound 40 = .ok (.invokestatic 143, 3) := by decide +kernel
theorem dX6_areWaysSound_43 : decode cX6_areWaysSound 43 = .ok (.iload_n 3, 1) := by decide +kernel
theorem dX6_areWaysSound_44 : decode cX6_areWaysSound 44 = .ok (.if_icmp .eq 5, 3) := by decide +kernel
theorem dX6_areWaysSound_47 : decode cX6_areWaysSound 47 = .ok (.iconst 0, 1) := by decide +kernel
theorem dX6_areWaysSound_48 : decode cX6_areWaysSound 48 = .ok (.ireturn, 1) := by decide +kernel
theorem dX6_areWaysSound_49 : decode cX6_areWaysSound 49 = .ok (.aload_n 0, 1) := by decide +kernel
theorem dX6_areWaysSound_50 : decode cX6_areWaysSound 50 = .ok (.getfield 10, 3) := by decide +kernel
theorem dX6_areWaysSound_53 : decode cX6_areWaysSound 53 = .ok (.aload_n 0, 1) := by decide +kernel
theorem dX6_areWaysSound_54 : decode cX6_areWaysSound 54 = .ok (.getfield 28, 3) := by decide +kernel
theorem dX6_areWaysSound_57 : decode cX6_areWaysSound 57 = .ok (.iload_n 1, 1) := by decide +kernel
theorem dX6_areWaysSound_58 : decode cX6_areWaysSound 58 = .ok (.iload_n 2, 1) := by decide +kernel
theorem dX6_areWaysSound_59 : decode cX6_areWaysSound 59 = .ok (.invokevirtual 231, 3) := by decide +kernel
theorem dX6_areWaysSound_62 : decode cX6_areWaysSound 62 = .ok (.invokevirtual 234, 3) := by decide +kernel
theorem dX6_areWaysSound_65 : decode cX6_areWaysSound 65 = .ok (.istore 6, 2) := by decide +kernel
theorem dX6_areWaysSound_67 : decode cX6_areWaysSound 67 = .ok (.iload 4, 2) := by decide +kernel
theorem dX6_areWaysSound_69 : decode cX6_areWaysSound 69 = .ok (.iload 6, 2) := by decide +kernel
theorem dX6_areWaysSound_71 : decode cX6_areWaysSound 71 = .ok (.invokestatic 143, 3) := by decide +kernel
theorem dX6_areWaysSound_74 : decode cX6_areWaysSound 74 = .ok (.if_icmp .ne 13, 3) := by decide +kernel
theorem dX6_areWaysSound_77 : decode cX6_areWaysSound 77 = .ok (.iload 4, 2) := by decide +kernel
theorem dX6_areWaysSound_79 : decode cX6_areWaysSound 79 = .ok (.iload_n 3, 1) := by decide +kernel
theorem dX6_areWaysSound_80 : decode cX6_areWaysSound 80 = .ok (.if_icmp .lt 7, 3) := by decide +kernel
theorem dX6_areWaysSound_83 : decode cX6_areWaysSound 83 = .ok (.iconst 1, 1) := by decide +kernel
theorem dX6_areWaysSound_84 : decode cX6_areWaysSound 84 = .ok (.goto 4, 3) := by decide +kernel
theorem dX6_areWaysSound_87 : decode cX6_areWaysSound 87 = .ok (.iconst 0, 1) := by decide +kernel
theorem dX6_areWaysSound_88 : decode cX6_areWaysSound 88 = .ok (.ireturn, 1) := by decide +kernel
set_option maxRecDepth 20000 in
theorem ggX6_areTreesSound_X2_countTrees : GoodIn wsX6_areTreesSound wsX2_countTrees := goodIn_r _ [7, 8, 9, 10, 6, 11, 12, 13, 14, 15, 16, 17, 18, 19, 20, 21, 22, 23, 24, 47, 48, 49, 50, 51, 52, 53, 54, 55, 56, 57, 58, 59] (by decide +kernel) (by decide +kernel)
set_option maxRecDepth 20000 in
theorem gX6_areTreesSound_X2_countTrees : GoodIn wsX6_areTreesSound (wsV RX6 237 RX2 yX2_countTrees wsX2_countTrees) := goodIn_app (goodIn_of _ (by decide +kernel)) ggX6_areTreesSound_X2_countTrees
theorem dX6_areTreesSound_0 : decode cX6_areTreesSound 0 = .ok (.aload_n 0, 1) := by decide +kernel
theorem dX6_areTreesSound_1 : decode cX6_areTreesSound 1 = .ok (.getfield 35, 3) := by decide +kernel
theorem dX6_areTreesSound_4 : decode cX6_areTreesSound 4 = .ok (.invokevirtual 237, 3) := by decide +kernel
theorem dX6_areTreesSound_7 : decode cX6_areTreesSound 7 = .ok (.lstore_n 1, 1) := by decide +kernel
theorem dX6_areTreesSound_8 : decode cX6_areTreesSound 8 = .ok (.aload_n 0, 1) := by decide +kernel
theorem dX6_areTreesSound_9 : decode cX6_areTreesSound 9 = .ok (.getfield 21, 3) := by decide +kernel
theorem dX6_areTreesSound_12 : decode cX6_areTreesSound 12 = .ok (.getfield 113, 3) := by decide +kernel
theorem dX6_areTreesSound_15 : decode cX6_areTreesSound 15 = .ok (.iconst 1, 1) := by decide +kernel
theorem dX6_areTreesSound_16 : decode cX6_areTreesSound 16 = .ok (.if_icmp .ne 15, 3) := by decide +kernel
theorem dX6_areTreesSound_19 : decode cX6_areTreesSound 19 = .ok (.lload_n 1, 1) := by decide +kernel
theorem dX6_areTreesSound_20 : decode cX6_areTreesSound 20 = .ok (.lconst 0, 1) := by decide +kernel
theorem dX6_areTreesSound_21 : decode cX6_areTreesSound 21 = .ok (.lcmp, 1) := by decide +kernel
theorem dX6_areTreesSound_22 : decode cX6_areTreesSound 22 = .ok (.ifCond .le 7, 3) := by decide +kernel
theorem dX6_areTreesSound_25 : decode cX6_areTreesSound 25 = .ok (.iconst 1, 1) := by decide +kernel
theorem dX6_areTreesSound_26 : decode cX6_areTreesSound 26 = .ok (.goto 4, 3) := by decide +kernel
theorem dX6_areTreesSound_29 : decode cX6_areTreesSound 29 = .ok (.iconst 0, 1) := by decide +kernel
theorem dX6_areTreesSound_30 : decode cX6_areTreesSound 30 = .ok (.ireturn, 1) := by decide +kernel
theorem dX6_areTreesSound_31 : decode cX6_areTreesSound 31 = .ok (.aload_n 0, 1) := by decide +kernel
theorem dX6_areTreesSound_32 : decode cX6_areTreesSound 32 = .ok (.getfield 21, 3) := by decide +kernel
theorem dX6_areTreesSound_35 : decode cX6_areTreesSound 35 = .ok (.getfield 113, 3) := by decide +kernel
theorem dX6_areTreesSound_38 : decode cX6_areTreesSound 38 = .ok (.ifCond .eq 9, 3) := by decide +kernel
theorem dX6_areTreesSound_41 : decode cX6_areTreesSound 41 = .ok (.lload_n 1, 1) := by decide +kernel
theorem dX6_areTreesSound_42 : decode cX6_areTreesSound 42 = .ok (.lconst 0, 1) := by decide +kernel
theorem dX6_areTreesSound_43 : decode cX6_areTreesSound 43 = .ok (.lcmp, 1) := by decide +kernel
theorem dX6_areTreesSound_44 : decode cX6_areTreesSound 44 = .ok (.ifCond .ne 7, 3) := by decide +kernel
theorem dX6_areTreesSound_47 : decode cX6_areTreesSound 47 = .ok (.iconst 1, 1) := by decide +kernel
theorem dX6_areTreesSound_48 : decode cX6_areTreesSound 48 = .ok (.goto 4, 3) := by decide +kernel
theorem dX6_areTreesSound_51 : decode cX6_areTreesSound 51 = .ok (.iconst 0, 1) := by decide +kernel
theorem dX6_areTreesSound_52 : decode cX6_areTreesSound 52 = .ok (.ireturn, 1) := by decide +kernel
set_option maxRecDepth 20000 in
theorem ggX6_isColouringSound_X6_has : GoodIn wsX6_isColouringSound wsX6_has := goodIn_r _ [6] (by decide +kernel) (by decide +kernel)
set_option maxRecDepth 20000 in
theorem gX6_isColouringSound_X6_has : GoodIn wsX6_isColouringSound (va_wsS RX6 151 yX6_has wsX6_has) := goodIn_app (goodIn_of _ (by decide +kernel)) ggX6_isColouringSound_X6_has
theorem dX6_isColouringSound_0 : decode cX6_isColouringSound 0 = .ok (.iconst 0, 1) := by decide +kernel
theorem dX6_isColouringSound_1 : decode cX6_isColouringSound 1 = .ok (.istore_n 1, 1) := by decide +kernel
theorem dX6_isColouringSound_2 : decode cX6_isColouringSound 2 = .ok (.iload_n 1, 1) := by decide +kernel
theorem dX6_isColouringSound_3 : decode cX6_isColouringSound 3 = .ok (.aload_n 0, 1) := by decide +kernel
theorem dX6_isColouringSound_4 : decode cX6_isColouringSound 4 = .ok (.getfield 10, 3) := by decide +kernel
theorem dX6_isColouringSound_7 : decode cX6_isColouringSound 7 = .ok (.getfield 85, 3) := by decide +kernel
theorem dX6_isColouringSound_10 : decode cX6_isColouringSound 10 = .ok (.if_icmp .ge 72, 3) := by decide +kernel
theorem dX6_isColouringSound_13 : decode cX6_isColouringSound 13 = .ok (.aload_n 0, 1) := by decide +kernel
theorem dX6_isColouringSound_14 : decode cX6_isColouringSound 14 = .ok (.getfield 42, 3) := by decide +kernel
theorem dX6_isColouringSound_17 : decode cX6_isColouringSound 17 = .ok (.getfield 158, 3) := by decide +kernel
theorem dX6_isColouringSound_20 : decode cX6_isColouringSound 20 = .ok (.aload_n 0, 1) := by decide +kernel
theorem dX6_isColouringSound_21 : decode cX6_isColouringSound 21 = .ok (.getfield 10, 3) := by decide +kernel
theorem dX6_isColouringSound_24 : decode cX6_isColouringSound 24 = .ok (.getfield 167, 3) := by decide +kernel
theorem dX6_isColouringSound_27 : decode cX6_isColouringSound 27 = .ok (.iload_n 1, 1) := by decide +kernel
theorem dX6_isColouringSound_28 : decode cX6_isColouringSound 28 = .ok (.iaload, 1) := by decide +kernel
theorem dX6_isColouringSound_29 : decode cX6_isColouringSound 29 = .ok (.iaload, 1) := by decide +kernel
theorem dX6_isColouringSound_30 : decode cX6_isColouringSound 30 = .ok (.aload_n 0, 1) := by decide +kernel
theorem dX6_isColouringSound_31 : decode cX6_isColouringSound 31 = .ok (.getfield 42, 3) := by decide +kernel
theorem dX6_isColouringSound_34 : decode cX6_isColouringSound 34 = .ok (.getfield 158, 3) := by decide +kernel
theorem dX6_isColouringSound_37 : decode cX6_isColouringSound 37 = .ok (.aload_n 0, 1) := by decide +kernel
theorem dX6_isColouringSound_38 : decode cX6_isColouringSound 38 = .ok (.getfield 10, 3) := by decide +kernel
theorem dX6_isColouringSound_41 : decode cX6_isColouringSound 41 = .ok (.getfield 170, 3) := by decide +kernel
theorem dX6_isColouringSound_44 : decode cX6_isColouringSound 44 = .ok (.iload_n 1, 1) := by decide +kernel
theorem dX6_isColouringSound_45 : decode cX6_isColouringSound 45 = .ok (.iaload, 1) := by decide +kernel
theorem dX6_isColouringSound_46 : decode cX6_isColouringSound 46 = .ok (.iaload, 1) := by decide +kernel
theorem dX6_isColouringSound_47 : decode cX6_isColouringSound 47 = .ok (.if_icmp .ne 7, 3) := by decide +kernel
theorem dX6_isColouringSound_50 : decode cX6_isColouringSound 50 = .ok (.iconst 1, 1) := by decide +kernel
theorem dX6_isColouringSound_51 : decode cX6_isColouringSound 51 = .ok (.goto 4, 3) := by decide +kernel
theorem dX6_isColouringSound_54 : decode cX6_isColouringSound 54 = .ok (.iconst 0, 1) := by decide +kernel
theorem dX6_isColouringSound_55 : decode cX6_isColouringSound 55 = .ok (.istore_n 2, 1) := by decide +kernel
theorem dX6_isColouringSound_56 : decode cX6_isColouringSound 56 = .ok (.aload_n 0, 1) := by decide +kernel
theorem dX6_isColouringSound_57 : decode cX6_isColouringSound 57 = .ok (.getfield 10, 3) := by decide +kernel
theorem dX6_isColouringSound_60 : decode cX6_isColouringSound 60 = .ok (.getfield 173, 3) := by decide +kernel
theorem dX6_isColouringSound_63 : decode cX6_isColouringSound 63 = .ok (.iload_n 1, 1) := by decide +kernel
theorem dX6_isColouringSound_64 : decode cX6_isColouringSound 64 = .ok (.invokestatic 151, 3) := by decide +kernel
theorem dX6_isColouringSound_67 : decode cX6_isColouringSound 67 = .ok (.ifCond .eq 9, 3) := by decide +kernel
theorem dX6_isColouringSound_70 : decode cX6_isColouringSound 70 = .ok (.iload_n 2, 1) := by decide +kernel
theorem dX6_isColouringSound_71 : decode cX6_isColouringSound 71 = .ok (.ifCond .eq 5, 3) := by decide +kernel
theorem dX6_isColouringSound_74 : decode cX6_isColouringSound 74 = .ok (.iconst 0, 1) := by decide +kernel
theorem dX6_isColouringSound_75 : decode cX6_isColouringSound 75 = .ok (.ireturn, 1) := by decide +kernel
theorem dX6_isColouringSound_76 : decode cX6_isColouringSound 76 = .ok (.iinc 1 1, 3) := by decide +kernel
theorem dX6_isColouringSound_79 : decode cX6_isColouringSound 79 = .ok (.goto (-77), 3) := by decide +kernel
theorem dX6_isColouringSound_82 : decode cX6_isColouringSound 82 = .ok (.iconst 1, 1) := by decide +kernel
theorem dX6_isColouringSound_83 : decode cX6_isColouringSound 83 = .ok (.ireturn, 1) := by decide +kernel
set_option maxRecDepth 20000 in
theorem ggX6_areBlocksSound_X6_has : GoodIn wsX6_areBlocksSound wsX6_has := goodIn_r _ [6] (by decide +kernel) (by decide +kernel)
set_option maxRecDepth 20000 in
theorem gX6_areBlocksSound_X6_has : GoodIn wsX6_areBlocksSound (va_wsS RX6 151 yX6_has wsX6_has) := goodIn_app (goodIn_of _ (by decide +kernel)) ggX6_areBlocksSound_X6_has
set_option maxRecDepth 20000 in
theorem ggX6_areBlocksSound_X1_isAloneInBlock : GoodIn wsX6_areBlocksSound wsX1_isAloneInBlock := goodIn_r _ [11, 12, 13, 29, 30, 31, 32, 33, 34, 35, 36, 37, 38, 39, 40, 41, 42, 43, 21, 22, 23, 24, 25, 26, 27, 28] (by decide +kernel) (by decide +kernel)
set_option maxRecDepth 20000 in
theorem gX6_areBlocksSound_X1_isAloneInBlock : GoodIn wsX6_areBlocksSound (wsV RX6 326 RX1 yX1_isAloneInBlock wsX1_isAloneInBlock) := goodIn_app (goodIn_of _ (by decide +kernel)) ggX6_areBlocksSound_X1_isAloneInBlock
theorem dX6_areBlocksSound_0 : decode cX6_areBlocksSound 0 = .ok (.iconst 0, 1) := by decide +kernel
theorem dX6_areBlocksSound_1 : decode cX6_areBlocksSound 1 = .ok (.istore_n 1, 1) := by decide +kernel
theorem dX6_areBlocksSound_2 : decode cX6_areBlocksSound 2 = .ok (.iload_n 1, 1) := by decide +kernel
theorem dX6_areBlocksSound_3 : decode cX6_areBlocksSound 3 = .ok (.aload_n 0, 1) := by decide +kernel
theorem dX6_areBlocksSound_4 : decode cX6_areBlocksSound 4 = .ok (.getfield 10, 3) := by decide +kernel
theorem dX6_areBlocksSound_7 : decode cX6_areBlocksSound 7 = .ok (.getfield 85, 3) := by decide +kernel
theorem dX6_areBlocksSound_10 : decode cX6_areBlocksSound 10 = .ok (.if_icmp .ge 90, 3) := by decide +kernel
theorem dX6_areBlocksSound_13 : decode cX6_areBlocksSound 13 = .ok (.aload_n 0, 1) := by decide +kernel
theorem dX6_areBlocksSound_14 : decode cX6_areBlocksSound 14 = .ok (.getfield 21, 3) := by decide +kernel
theorem dX6_areBlocksSound_17 : decode cX6_areBlocksSound 17 = .ok (.getfield 179, 3) := by decide +kernel
theorem dX6_areBlocksSound_20 : decode cX6_areBlocksSound 20 = .ok (.iload_n 1, 1) := by decide +kernel
theorem dX6_areBlocksSound_21 : decode cX6_areBlocksSound 21 = .ok (.iaload, 1) := by decide +kernel
theorem dX6_areBlocksSound_22 : decode cX6_areBlocksSound 22 = .ok (.ifCond .lt 26, 3) := by decide +kernel
theorem dX6_areBlocksSound_25 : decode cX6_areBlocksSound 25 = .ok (.aload_n 0, 1) := by decide +kernel
theorem dX6_areBlocksSound_26 : decode cX6_areBlocksSound 26 = .ok (.getfield 21, 3) := by decide +kernel
theorem dX6_areBlocksSound_29 : decode cX6_areBlocksSound 29 = .ok (.getfield 179, 3) := by decide +kernel
theorem dX6_areBlocksSound_32 : decode cX6_areBlocksSound 32 = .ok (.iload_n 1, 1) := by decide +kernel
theorem dX6_areBlocksSound_33 : decode cX6_areBlocksSound 33 = .ok (.iaload, 1) := by decide +kernel
theorem dX6_areBlocksSound_34 : decode cX6_areBlocksSound 34 = .ok (.aload_n 0, 1) := by decide +kernel
theorem dX6_areBlocksSound_35 : decode cX6_areBlocksSound 35 = .ok (.getfield 21, 3) := by decide +kernel
theorem dX6_areBlocksSound_38 : decode cX6_areBlocksSound 38 = .ok (.getfield 188, 3) := by decide +kernel
theorem dX6_areBlocksSound_41 : decode cX6_areBlocksSound 41 = .ok (.if_icmp .ge 7, 3) := by decide +kernel
theorem dX6_areBlocksSound_44 : decode cX6_areBlocksSound 44 = .ok (.iconst 1, 1) := by decide +kernel
theorem dX6_areBlocksSound_45 : decode cX6_areBlocksSound 45 = .ok (.goto 4, 3) := by decide +kernel
theorem dX6_areBlocksSound_48 : decode cX6_areBlocksSound 48 = .ok (.iconst 0, 1) := by decide +kernel
theorem dX6_areBlocksSound_49 : decode cX6_areBlocksSound 49 = .ok (.istore_n 2, 1) := by decide +kernel
theorem dX6_areBlocksSound_50 : decode cX6_areBlocksSound 50 = .ok (.iload_n 2, 1) := by decide +kernel
theorem dX6_areBlocksSound_51 : decode cX6_areBlocksSound 51 = .ok (.aload_n 0, 1) := by decide +kernel
theorem dX6_areBlocksSound_52 : decode cX6_areBlocksSound 52 = .ok (.getfield 10, 3) := by decide +kernel
theorem dX6_areBlocksSound_55 : decode cX6_areBlocksSound 55 = .ok (.getfield 173, 3) := by decide +kernel
theorem dX6_areBlocksSound_58 : decode cX6_areBlocksSound 58 = .ok (.iload_n 1, 1) := by decide +kernel
theorem dX6_areBlocksSound_59 : decode cX6_areBlocksSound 59 = .ok (.invokestatic 151, 3) := by decide +kernel
theorem dX6_areBlocksSound_62 : decode cX6_areBlocksSound 62 = .ok (.if_icmp .eq 5, 3) := by decide +kernel
theorem dX6_areBlocksSound_65 : decode cX6_areBlocksSound 65 = .ok (.iconst 0, 1) := by decide +kernel
theorem dX6_areBlocksSound_66 : decode cX6_areBlocksSound 66 = .ok (.ireturn, 1) := by decide +kernel
theorem dX6_areBlocksSound_67 : decode cX6_areBlocksSound 67 = .ok (.aload_n 0, 1) := by decide +kernel
theorem dX6_areBlocksSound_68 : decode cX6_areBlocksSound 68 = .ok (.getfield 21, 3) := by decide +kernel
theorem dX6_areBlocksSound_71 : decode cX6_areBlocksSound 71 = .ok (.getfield 176, 3) := by decide +kernel
theorem dX6_areBlocksSound_74 : decode cX6_areBlocksSound 74 = .ok (.iload_n 1, 1) := by decide +kernel
theorem dX6_areBlocksSound_75 : decode cX6_areBlocksSound 75 = .ok (.invokestatic 151, 3) := by decide +kernel
theorem dX6_areBlocksSound_78 : decode cX6_areBlocksSound 78 = .ok (.ifCond .eq 16, 3) := by decide +kernel
theorem dX6_areBlocksSound_81 : decode cX6_areBlocksSound 81 = .ok (.aload_n 0, 1) := by decide +kernel
theorem dX6_areBlocksSound_82 : decode cX6_areBlocksSound 82 = .ok (.getfield 21, 3) := by decide +kernel
theorem dX6_areBlocksSound_85 : decode cX6_areBlocksSound 85 = .ok (.iload_n 1, 1) := by decide +kernel
theorem dX6_areBlocksSound_86 : decode cX6_areBlocksSound 86 = .ok (.invokevirtual 326, 3) := by decide +kernel
theorem dX6_areBlocksSound_89 : decode cX6_areBlocksSound 89 = .ok (.ifCond .ne 5, 3) := by decide +kernel
theorem dX6_areBlocksSound_92 : decode cX6_areBlocksSound 92 = .ok (.iconst 0, 1) := by decide +kernel
theorem dX6_areBlocksSound_93 : decode cX6_areBlocksSound 93 = .ok (.ireturn, 1) := by decide +kernel
theorem dX6_areBlocksSound_94 : decode cX6_areBlocksSound 94 = .ok (.iinc 1 1, 3) := by decide +kernel
theorem dX6_areBlocksSound_97 : decode cX6_areBlocksSound 97 = .ok (.goto (-95), 3) := by decide +kernel
theorem dX6_areBlocksSound_100 : decode cX6_areBlocksSound 100 = .ok (.iconst 1, 1) := by decide +kernel
theorem dX6_areBlocksSound_101 : decode cX6_areBlocksSound 101 = .ok (.ireturn, 1) := by decide +kernel
theorem dX6_demandPoint_0 : decode cX6_demandPoint 0 = .ok (.iload_n 1, 1) := by decide +kernel
theorem dX6_demandPoint_1 : decode cX6_demandPoint 1 = .ok (.ifCond .lt 14, 3) := by decide +kernel
theorem dX6_demandPoint_4 : decode cX6_demandPoint 4 = .ok (.iload_n 1, 1) := by decide +kernel
theorem dX6_demandPoint_5 : decode cX6_demandPoint 5 = .ok (.aload_n 0, 1) := by decide +kernel
theorem dX6_demandPoint_6 : decode cX6_demandPoint 6 = .ok (.getfield 10, 3) := by decide +kernel
theorem dX6_demandPoint_9 : decode cX6_demandPoint 9 = .ok (.getfield 57, 3) := by decide +kernel
theorem dX6_demandPoint_12 : decode cX6_demandPoint 12 = .ok (.if_icmp .lt 14, 3) := by decide +kernel
theorem dX6_demandPoint_15 : decode cX6_demandPoint 15 = .ok (.new 330, 3) := by decide +kernel
theorem dX6_demandPoint_18 : decode cX6_demandPoint 18 = .ok (.dup, 1) := by decide +kernel
theorem dX6_demandPoint_19 : decode cX6_demandPoint 19 = .ok (.ldc_w 332, 3) := by decide +kernel
theorem dX6_demandPoint_22 : decode cX6_demandPoint 22 = .ok (.invokespecial 334, 3) := by decide +kernel
theorem dX6_demandPoint_25 : decode cX6_demandPoint 25 = .ok (.athrow, 1) := by decide +kernel
theorem dX6_demandPoint_26 : decode cX6_demandPoint 26 = .ok (.return_, 1) := by decide +kernel
theorem dX6_demandLine_0 : decode cX6_demandLine 0 = .ok (.iload_n 1, 1) := by decide +kernel
theorem dX6_demandLine_1 : decode cX6_demandLine 1 = .ok (.ifCond .lt 14, 3) := by decide +kernel
theorem dX6_demandLine_4 : decode cX6_demandLine 4 = .ok (.iload_n 1, 1) := by decide +kernel
theorem dX6_demandLine_5 : decode cX6_demandLine 5 = .ok (.aload_n 0, 1) := by decide +kernel
theorem dX6_demandLine_6 : decode cX6_demandLine 6 = .ok (.getfield 10, 3) := by decide +kernel
theorem dX6_demandLine_9 : decode cX6_demandLine 9 = .ok (.getfield 85, 3) := by decide +kernel
theorem dX6_demandLine_12 : decode cX6_demandLine 12 = .ok (.if_icmp .lt 14, 3) := by decide +kernel
theorem dX6_demandLine_15 : decode cX6_demandLine 15 = .ok (.new 330, 3) := by decide +kernel
theorem dX6_demandLine_18 : decode cX6_demandLine 18 = .ok (.dup, 1) := by decide +kernel
theorem dX6_demandLine_19 : decode cX6_demandLine 19 = .ok (.ldc_w 335, 3) := by decide +kernel
theorem dX6_demandLine_22 : decode cX6_demandLine 22 = .ok (.invokespecial 334, 3) := by decide +kernel
theorem dX6_demandLine_25 : decode cX6_demandLine 25 = .ok (.athrow, 1) := by decide +kernel
theorem dX6_demandLine_26 : decode cX6_demandLine 26 = .ok (.return_, 1) := by decide +kernel
theorem dX6_demandPlace_0 : decode cX6_demandPlace 0 = .ok (.iload_n 2, 1) := by decide +kernel
theorem dX6_demandPlace_1 : decode cX6_demandPlace 1 = .ok (.ifCond .lt 16, 3) := by decide +kernel
theorem dX6_demandPlace_4 : decode cX6_demandPlace 4 = .ok (.iload_n 2, 1) := by decide +kernel
theorem dX6_demandPlace_5 : decode cX6_demandPlace 5 = .ok (.aload_n 0, 1) := by decide +kernel
theorem dX6_demandPlace_6 : decode cX6_demandPlace 6 = .ok (.getfield 49, 3) := by decide +kernel
theorem dX6_demandPlace_9 : decode cX6_demandPlace 9 = .ok (.getfield 164, 3) := by decide +kernel
theorem dX6_demandPlace_12 : decode cX6_demandPlace 12 = .ok (.iload_n 1, 1) := by decide +kernel
theorem dX6_demandPlace_13 : decode cX6_demandPlace 13 = .ok (.iaload, 1) := by decide +kernel
theorem dX6_demandPlace_14 : decode cX6_demandPlace 14 = .ok (.if_icmp .lt 14, 3) := by decide +kernel
theorem dX6_demandPlace_17 : decode cX6_demandPlace 17 = .ok (.new 330, 3) := by decide +kernel
theorem dX6_demandPlace_20 : decode cX6_demandPlace 20 = .ok (.dup, 1) := by decide +kernel
theorem dX6_demandPlace_21 : decode cX6_demandPlace 21 = .ok (.ldc_w 337, 3) := by decide +kernel
theorem dX6_demandPlace_24 : decode cX6_demandPlace 24 = .ok (.invokespecial 334, 3) := by decide +kernel
theorem dX6_demandPlace_27 : decode cX6_demandPlace 27 = .ok (.athrow, 1) := by decide +kernel
theorem dX6_demandPlace_28 : decode cX6_demandPlace 28 = .ok (.return_, 1) := by decide +kernel
theorem dX6_demandUnlike_0 : decode cX6_demandUnlike 0 = .ok (.iload_n 0, 1) := by decide +kernel
theorem dX6_demandUnlike_1 : decode cX6_demandUnlike 1 = .ok (.iload_n 1, 1) := by decide +kernel
theorem dX6_demandUnlike_2 : decode cX6_demandUnlike 2 = .ok (.if_icmp .ne 14, 3) := by decide +kernel
theorem dX6_demandUnlike_5 : decode cX6_demandUnlike 5 = .ok (.new 249, 3) := by decide +kernel
theorem dX6_demandUnlike_8 : decode cX6_demandUnlike 8 = .ok (.dup, 1) := by decide +kernel
theorem dX6_demandUnlike_9 : decode cX6_demandUnlike 9 = .ok (.ldc_w 339, 3) := by decide +kernel
theorem dX6_demandUnlike_12 : decode cX6_demandUnlike 12 = .ok (.invokespecial 253, 3) := by decide +kernel
theorem dX6_demandUnlike_15 : decode cX6_demandUnlike 15 = .ok (.athrow, 1) := by decide +kernel
theorem dX6_demandUnlike_16 : decode cX6_demandUnlike 16 = .ok (.return_, 1) := by decide +kernel
theorem dX6_demandCost_0 : decode cX6_demandCost 0 = .ok (.iload_n 0, 1) := by decide +kernel
theorem dX6_demandCost_1 : decode cX6_demandCost 1 = .ok (.iconst 1, 1) := by decide +kernel
theorem dX6_demandCost_2 : decode cX6_demandCost 2 = .ok (.if_icmp .lt 9, 3) := by decide +kernel
theorem dX6_demandCost_5 : decode cX6_demandCost 5 = .ok (.iload_n 0, 1) := by decide +kernel
theorem dX6_demandCost_6 : decode cX6_demandCost 6 = .ok (.bipush 20, 2) := by decide +kernel
theorem dX6_demandCost_8 : decode cX6_demandCost 8 = .ok (.if_icmp .le 14, 3) := by decide +kernel
theorem dX6_demandCost_11 : decode cX6_demandCost 11 = .ok (.new 249, 3) := by decide +kernel
theorem dX6_demandCost_14 : decode cX6_demandCost 14 = .ok (.dup, 1) := by decide +kernel
theorem dX6_demandCost_15 : decode cX6_demandCost 15 = .ok (.ldc_w 341, 3) := by decide +kernel
theorem dX6_demandCost_18 : decode cX6_demandCost 18 = .ok (.invokespecial 253, 3) := by decide +kernel
theorem dX6_demandCost_21 : decode cX6_demandCost 21 = .ok (.athrow, 1) := by decide +kernel
theorem dX6_demandCost_22 : decode cX6_demandCost 22 = .ok (.return_, 1) := by decide +kernel
theorem dX6_demandWhat_0 : decode cX6_demandWhat 0 = .ok (.iload_n 0, 1) := by decide +kernel
theorem dX6_demandWhat_1 : decode cX6_demandWhat 1 = .ok (.ifCond .lt 8, 3) := by decide +kernel
theorem dX6_demandWhat_4 : decode cX6_demandWhat 4 = .ok (.iload_n 0, 1) := by decide +kernel
theorem dX6_demandWhat_5 : decode cX6_demandWhat 5 = .ok (.iload_n 1, 1) := by decide +kernel
theorem dX6_demandWhat_6 : decode cX6_demandWhat 6 = .ok (.if_icmp .le 14, 3) := by decide +kernel
theorem dX6_demandWhat_9 : decode cX6_demandWhat 9 = .ok (.new 249, 3) := by decide +kernel
theorem dX6_demandWhat_12 : decode cX6_demandWhat 12 = .ok (.dup, 1) := by decide +kernel
theorem dX6_demandWhat_13 : decode cX6_demandWhat 13 = .ok (.ldc_w 343, 3) := by decide +kernel
theorem dX6_demandWhat_16 : decode cX6_demandWhat 16 = .ok (.invokespecial 253, 3) := by decide +kernel
theorem dX6_demandWhat_19 : decode cX6_demandWhat 19 = .ok (.athrow, 1) := by decide +kernel
theorem dX6_demandWhat_20 : decode cX6_demandWhat 20 = .ok (.return_, 1) := by decide +kernel
theorem dX6_demandNth_0 : decode cX6_demandNth 0 = .ok (.iload_n 0, 1) := by decide +kernel
theorem dX6_demandNth_1 : decode cX6_demandNth 1 = .ok (.ifCond .ge 14, 3) := by decide +kernel
theorem dX6_demandNth_4 : decode cX6_demandNth 4 = .ok (.new 249, 3) := by decide +kernel
theorem dX6_demandNth_7 : decode cX6_demandNth 7 = .ok (.dup, 1) := by decide +kernel
theorem dX6_demandNth_8 : decode cX6_demandNth 8 = .ok (.ldc_w 345, 3) := by decide +kernel
theorem dX6_demandNth_11 : decode cX6_demandNth 11 = .ok (.invokespecial 253, 3) := by decide +kernel
theorem dX6_demandNth_14 : decode cX6_demandNth 14 = .ok (.athrow, 1) := by decide +kernel
theorem dX6_demandNth_15 : decode cX6_demandNth 15 = .ok (.return_, 1) := by decide +kernel
theorem dX6_has_0 : decode cX6_has 0 = .ok (.iload_n 0, 1) := by decide +kernel
theorem dX6_has_1 : decode cX6_has 1 = .ok (.iload_n 1, 1) := by decide +kernel
theorem dX6_has_2 : decode cX6_has 2 = .ok (.ishr, 1) := by decide +kernel
theorem dX6_has_3 : decode cX6_has 3 = .ok (.iconst 1, 1) := by decide +kernel
theorem dX6_has_4 : decode cX6_has 4 = .ok (.iand, 1) := by decide +kernel
theorem dX6_has_5 : decode cX6_has 5 = .ok (.ifCond .eq 7, 3) := by decide +kernel
theorem dX6_has_8 : decode cX6_has 8 = .ok (.iconst 1, 1) := by decide +kernel
theorem dX6_has_9 : decode cX6_has 9 = .ok (.goto 4, 3) := by decide +kernel
theorem dX6_has_12 : decode cX6_has 12 = .ok (.iconst 0, 1) := by decide +kernel
theorem dX6_has_13 : decode cX6_has 13 = .ok (.ireturn, 1) := by decide +kernel
theorem dJ6_bitCount_0f7a4_0 : decode cJ6_bitCount_0f7a4 0 = .ok (.iload_n 0, 1) := by decide +kernel
theorem dJ6_bitCount_0f7a4_1 : decode cJ6_bitCount_0f7a4 1 = .ok (.iload_n 0, 1) := by decide +kernel
theorem dJ6_bitCount_0f7a4_2 : decode cJ6_bitCount_0f7a4 2 = .ok (.iconst 1, 1) := by decide +kernel
theorem dJ6_bitCount_0f7a4_3 : decode cJ6_bitCount_0f7a4 3 = .ok (.iushr, 1) := by decide +kernel
theorem dJ6_bitCount_0f7a4_4 : decode cJ6_bitCount_0f7a4 4 = .ok (.ldc_w 265, 3) := by decide +kernel
theorem dJ6_bitCount_0f7a4_7 : decode cJ6_bitCount_0f7a4 7 = .ok (.iand, 1) := by decide +kernel
theorem dJ6_bitCount_0f7a4_8 : decode cJ6_bitCount_0f7a4 8 = .ok (.isub, 1) := by decide +kernel
theorem dJ6_bitCount_0f7a4_9 : decode cJ6_bitCount_0f7a4 9 = .ok (.istore_n 0, 1) := by decide +kernel
theorem dJ6_bitCount_0f7a4_10 : decode cJ6_bitCount_0f7a4 10 = .ok (.iload_n 0, 1) := by decide +kernel
theorem dJ6_bitCount_0f7a4_11 : decode cJ6_bitCount_0f7a4 11 = .ok (.ldc_w 266, 3) := by decide +kernel
theorem dJ6_bitCount_0f7a4_14 : decode cJ6_bitCount_0f7a4 14 = .ok (.iand, 1) := by decide +kernel
theorem dJ6_bitCount_0f7a4_15 : decode cJ6_bitCount_0f7a4 15 = .ok (.iload_n 0, 1) := by decide +kernel
theorem dJ6_bitCount_0f7a4_16 : decode cJ6_bitCount_0f7a4 16 = .ok (.iconst 2, 1) := by decide +kernel
theorem dJ6_bitCount_0f7a4_17 : decode cJ6_bitCount_0f7a4 17 = .ok (.iushr, 1) := by decide +kernel
theorem dJ6_bitCount_0f7a4_18 : decode cJ6_bitCount_0f7a4 18 = .ok (.ldc_w 266, 3) := by decide +kernel
theorem dJ6_bitCount_0f7a4_21 : decode cJ6_bitCount_0f7a4 21 = .ok (.iand, 1) := by decide +kernel
theorem dJ6_bitCount_0f7a4_22 : decode cJ6_bitCount_0f7a4 22 = .ok (.iadd, 1) := by decide +kernel
theorem dJ6_bitCount_0f7a4_23 : decode cJ6_bitCount_0f7a4 23 = .ok (.istore_n 0, 1) := by decide +kernel
theorem dJ6_bitCount_0f7a4_24 : decode cJ6_bitCount_0f7a4 24 = .ok (.iload_n 0, 1) := by decide +kernel
theorem dJ6_bitCount_0f7a4_25 : decode cJ6_bitCount_0f7a4 25 = .ok (.iload_n 0, 1) := by decide +kernel
theorem dJ6_bitCount_0f7a4_26 : decode cJ6_bitCount_0f7a4 26 = .ok (.iconst 4, 1) := by decide +kernel
theorem dJ6_bitCount_0f7a4_27 : decode cJ6_bitCount_0f7a4 27 = .ok (.iushr, 1) := by decide +kernel
theorem dJ6_bitCount_0f7a4_28 : decode cJ6_bitCount_0f7a4 28 = .ok (.iadd, 1) := by decide +kernel
theorem dJ6_bitCount_0f7a4_29 : decode cJ6_bitCount_0f7a4 29 = .ok (.ldc_w 267, 3) := by decide +kernel
theorem dJ6_bitCount_0f7a4_32 : decode cJ6_bitCount_0f7a4 32 = .ok (.iand, 1) := by decide +kernel
theorem dJ6_bitCount_0f7a4_33 : decode cJ6_bitCount_0f7a4 33 = .ok (.istore_n 0, 1) := by decide +kernel
theorem dJ6_bitCount_0f7a4_34 : decode cJ6_bitCount_0f7a4 34 = .ok (.iload_n 0, 1) := by decide +kernel
theorem dJ6_bitCount_0f7a4_35 : decode cJ6_bitCount_0f7a4 35 = .ok (.iload_n 0, 1) := by decide +kernel
theorem dJ6_bitCount_0f7a4_36 : decode cJ6_bitCount_0f7a4 36 = .ok (.bipush 8, 2) := by decide +kernel
theorem dJ6_bitCount_0f7a4_38 : decode cJ6_bitCount_0f7a4 38 = .ok (.iushr, 1) := by decide +kernel
theorem dJ6_bitCount_0f7a4_39 : decode cJ6_bitCount_0f7a4 39 = .ok (.iadd, 1) := by decide +kernel
theorem dJ6_bitCount_0f7a4_40 : decode cJ6_bitCount_0f7a4 40 = .ok (.istore_n 0, 1) := by decide +kernel
theorem dJ6_bitCount_0f7a4_41 : decode cJ6_bitCount_0f7a4 41 = .ok (.iload_n 0, 1) := by decide +kernel
theorem dJ6_bitCount_0f7a4_42 : decode cJ6_bitCount_0f7a4 42 = .ok (.iload_n 0, 1) := by decide +kernel
theorem dJ6_bitCount_0f7a4_43 : decode cJ6_bitCount_0f7a4 43 = .ok (.bipush 16, 2) := by decide +kernel
theorem dJ6_bitCount_0f7a4_45 : decode cJ6_bitCount_0f7a4 45 = .ok (.iushr, 1) := by decide +kernel
theorem dJ6_bitCount_0f7a4_46 : decode cJ6_bitCount_0f7a4 46 = .ok (.iadd, 1) := by decide +kernel
theorem dJ6_bitCount_0f7a4_47 : decode cJ6_bitCount_0f7a4 47 = .ok (.istore_n 0, 1) := by decide +kernel
theorem dJ6_bitCount_0f7a4_48 : decode cJ6_bitCount_0f7a4 48 = .ok (.iload_n 0, 1) := by decide +kernel
theorem dJ6_bitCount_0f7a4_49 : decode cJ6_bitCount_0f7a4 49 = .ok (.bipush 63, 2) := by decide +kernel
theorem dJ6_bitCount_0f7a4_51 : decode cJ6_bitCount_0f7a4 51 = .ok (.iand, 1) := by decide +kernel
theorem dJ6_bitCount_0f7a4_52 : decode cJ6_bitCount_0f7a4 52 = .ok (.ireturn, 1) := by decide +kernel
theorem dJ9_max_7cf53_0 : decode cJ9_max_7cf53 0 = .ok (.iload_n 0, 1) := by decide +kernel
theorem dJ9_max_7cf53_1 : decode cJ9_max_7cf53 1 = .ok (.iload_n 1, 1) := by decide +kernel
theorem dJ9_max_7cf53_2 : decode cJ9_max_7cf53 2 = .ok (.if_icmp .lt 7, 3) := by decide +kernel
