theorem dX5_reach_6 : decode cX5_reach 6 = .ok (.istore 5, 2) := by decide +kernel
theorem dX5_reach_8 : decode cX5_reach 8 = .ok (.iload 5, 2) := by decide +kernel
theorem dX5_reach_10 : decode cX5_reach 10 = .ok (.bipush 8, 2) := by decide +kernel
theorem dX5_reach_12 : decode cX5_reach 12 = .ok (.if_icmp .ge 101, 3) := by decide +kernel
theorem dX5_reach_15 : decode cX5_reach 15 = .ok (.iload 4, 2) := by decide +kernel
theorem dX5_reach_17 : decode cX5_reach 17 = .ok (.istore 6, 2) := by decide +kernel
theorem dX5_reach_19 : decode cX5_reach 19 = .ok (.iconst 0, 1) := by decide +kernel
theorem dX5_reach_20 : decode cX5_reach 20 = .ok (.istore 7, 2) := by decide +kernel
theorem dX5_reach_22 : decode cX5_reach 22 = .ok (.iload 7, 2) := by decide +kernel
theorem dX5_reach_24 : decode cX5_reach 24 = .ok (.aload_n 0, 1) := by decide +kernel
theorem dX5_reach_25 : decode cX5_reach 25 = .ok (.getfield 15, 3) := by decide +kernel
theorem dX5_reach_28 : decode cX5_reach 28 = .ok (.if_icmp .ge 69, 3) := by decide +kernel
theorem dX5_reach_31 : decode cX5_reach 31 = .ok (.iload_n 3, 1) := by decide +kernel
theorem dX5_reach_32 : decode cX5_reach 32 = .ok (.iload 7, 2) := by decide +kernel
theorem dX5_reach_34 : decode cX5_reach 34 = .ok (.ishr, 1) := by decide +kernel
theorem dX5_reach_35 : decode cX5_reach 35 = .ok (.iconst 1, 1) := by decide +kernel
theorem dX5_reach_36 : decode cX5_reach 36 = .ok (.iand, 1) := by decide +kernel
theorem dX5_reach_37 : decode cX5_reach 37 = .ok (.ifCond .eq 20, 3) := by decide +kernel
theorem dX5_reach_40 : decode cX5_reach 40 = .ok (.aload_n 0, 1) := by decide +kernel
theorem dX5_reach_41 : decode cX5_reach 41 = .ok (.getfield 31, 3) := by decide +kernel
theorem dX5_reach_44 : decode cX5_reach 44 = .ok (.iload 7, 2) := by decide +kernel
theorem dX5_reach_46 : decode cX5_reach 46 = .ok (.iaload, 1) := by decide +kernel
theorem dX5_reach_47 : decode cX5_reach 47 = .ok (.iload 4, 2) := by decide +kernel
theorem dX5_reach_49 : decode cX5_reach 49 = .ok (.iand, 1) := by decide +kernel
theorem dX5_reach_50 : decode cX5_reach 50 = .ok (.ifCond .eq 7, 3) := by decide +kernel
theorem dX5_reach_53 : decode cX5_reach 53 = .ok (.iconst 1, 1) := by decide +kernel
theorem dX5_reach_54 : decode cX5_reach 54 = .ok (.goto 4, 3) := by decide +kernel
theorem dX5_reach_57 : decode cX5_reach 57 = .ok (.iconst 0, 1) := by decide +kernel
theorem dX5_reach_58 : decode cX5_reach 58 = .ok (.istore 8, 2) := by decide +kernel
theorem dX5_reach_60 : decode cX5_reach 60 = .ok (.iload 8, 2) := by decide +kernel
theorem dX5_reach_62 : decode cX5_reach 62 = .ok (.ifCond .eq 29, 3) := by decide +kernel
theorem dX5_reach_65 : decode cX5_reach 65 = .ok (.aload_n 0, 1) := by decide +kernel
theorem dX5_reach_66 : decode cX5_reach 66 = .ok (.getfield 31, 3) := by decide +kernel
theorem dX5_reach_69 : decode cX5_reach 69 = .ok (.iload 7, 2) := by decide +kernel
theorem dX5_reach_71 : decode cX5_reach 71 = .ok (.iaload, 1) := by decide +kernel
theorem dX5_reach_72 : decode cX5_reach 72 = .ok (.iload_n 2, 1) := by decide +kernel
theorem dX5_reach_73 : decode cX5_reach 73 = .ok (.iconst (-1), 1) := by decide +kernel
theorem dX5_reach_74 : decode cX5_reach 74 = .ok (.ixor, 1) := by decide +kernel
theorem dX5_reach_75 : decode cX5_reach 75 = .ok (.iand, 1) := by decide +kernel
theorem dX5_reach_76 : decode cX5_reach 76 = .ok (.ifCond .ne 15, 3) := by decide +kernel
theorem dX5_reach_79 : decode cX5_reach 79 = .ok (.iload 4, 2) := by decide +kernel
theorem dX5_reach_81 : decode cX5_reach 81 = .ok (.aload_n 0, 1) := by decide +kernel
theorem dX5_reach_82 : decode cX5_reach 82 = .ok (.getfield 31, 3) := by decide +kernel
theorem dX5_reach_85 : decode cX5_reach 85 = .ok (.iload 7, 2) := by decide +kernel
theorem dX5_reach_87 : decode cX5_reach 87 = .ok (.iaload, 1) := by decide +kernel
theorem dX5_reach_88 : decode cX5_reach 88 = .ok (.ior, 1) := by decide +kernel
theorem dX5_reach_89 : decode cX5_reach 89 = .ok (.istore 4, 2) := by decide +kernel
theorem dX5_reach_91 : decode cX5_reach 91 = .ok (.iinc 7 1, 3) := by decide +kernel
theorem dX5_reach_94 : decode cX5_reach 94 = .ok (.goto (-72), 3) := by decide +kernel
theorem dX5_reach_97 : decode cX5_reach 97 = .ok (.iload 4, 2) := by decide +kernel
theorem dX5_reach_99 : decode cX5_reach 99 = .ok (.iload 6, 2) := by decide +kernel
theorem dX5_reach_101 : decode cX5_reach 101 = .ok (.if_icmp .ne 6, 3) := by decide +kernel
theorem dX5_reach_104 : decode cX5_reach 104 = .ok (.iload 4, 2) := by decide +kernel
theorem dX5_reach_106 : decode cX5_reach 106 = .ok (.ireturn, 1) := by decide +kernel
theorem dX5_reach_107 : decode cX5_reach 107 = .ok (.iinc 5 1, 3) := by decide +kernel
theorem dX5_reach_110 : decode cX5_reach 110 = .ok (.goto (-102), 3) := by decide +kernel
theorem dX5_reach_113 : decode cX5_reach 113 = .ok (.iload 4, 2) := by decide +kernel
theorem dX5_reach_115 : decode cX5_reach 115 = .ok (.ireturn, 1) := by decide +kernel
set_option maxRecDepth 20000 in
theorem ggX5_countParts_X6_has : GoodIn wsX5_countParts wsX6_has := goodIn_r _ [4] (by decide +kernel) (by decide +kernel)
set_option maxRecDepth 20000 in
theorem gX5_countParts_X6_has_n37 : GoodIn wsX5_countParts (wsX6_has) := ggX5_countParts_X6_has
set_option maxRecDepth 20000 in
theorem ggX5_countParts_X5_reach : GoodIn wsX5_countParts wsX5_reach := goodIn_r _ [9, 10, 11, 12, 13, 14, 15, 16, 17, 18, 19] (by decide +kernel) (by decide +kernel)
set_option maxRecDepth 20000 in
theorem gX5_countParts_X5_reach : GoodIn wsX5_countParts (wsV RX5 41 RX5 yX5_reach wsX5_reach) := goodIn_app (goodIn_of _ (by decide +kernel)) ggX5_countParts_X5_reach
theorem dX5_countParts_0 : decode cX5_countParts 0 = .ok (.iconst 0, 1) := by decide +kernel
theorem dX5_countParts_1 : decode cX5_countParts 1 = .ok (.istore_n 3, 1) := by decide +kernel
theorem dX5_countParts_2 : decode cX5_countParts 2 = .ok (.iconst 0, 1) := by decide +kernel
theorem dX5_countParts_3 : decode cX5_countParts 3 = .ok (.istore 4, 2) := by decide +kernel
theorem dX5_countParts_5 : decode cX5_countParts 5 = .ok (.iconst 0, 1) := by decide +kernel
theorem dX5_countParts_6 : decode cX5_countParts 6 = .ok (.istore 5, 2) := by decide +kernel
theorem dX5_countParts_8 : decode cX5_countParts 8 = .ok (.iload 5, 2) := by decide +kernel
theorem dX5_countParts_10 : decode cX5_countParts 10 = .ok (.aload_n 0, 1) := by decide +kernel
theorem dX5_countParts_11 : decode cX5_countParts 11 = .ok (.getfield 9, 3) := by decide +kernel
theorem dX5_countParts_14 : decode cX5_countParts 14 = .ok (.if_icmp .ge 39, 3) := by decide +kernel
theorem dX5_countParts_17 : decode cX5_countParts 17 = .ok (.iload_n 1, 1) := by decide +kernel
theorem dX5_countParts_18 : decode cX5_countParts 18 = .ok (.iload 4, 2) := by decide +kernel
theorem dX5_countParts_20 : decode cX5_countParts 20 = .ok (.iconst (-1), 1) := by decide +kernel
theorem dX5_countParts_21 : decode cX5_countParts 21 = .ok (.ixor, 1) := by decide +kernel
theorem dX5_countParts_22 : decode cX5_countParts 22 = .ok (.iand, 1) := by decide +kernel
theorem dX5_countParts_23 : decode cX5_countParts 23 = .ok (.iload 5, 2) := by decide +kernel
theorem dX5_countParts_25 : decode cX5_countParts 25 = .ok (.invokestatic 37, 3) := by decide +kernel
theorem dX5_countParts_28 : decode cX5_countParts 28 = .ok (.ifCond .eq 19, 3) := by decide +kernel
theorem dX5_countParts_31 : decode cX5_countParts 31 = .ok (.iload 4, 2) := by decide +kernel
theorem dX5_countParts_33 : decode cX5_countParts 33 = .ok (.aload_n 0, 1) := by decide +kernel
theorem dX5_countParts_34 : decode cX5_countParts 34 = .ok (.iload 5, 2) := by decide +kernel
theorem dX5_countParts_36 : decode cX5_countParts 36 = .ok (.iload_n 1, 1) := by decide +kernel
theorem dX5_countParts_37 : decode cX5_countParts 37 = .ok (.iload_n 2, 1) := by decide +kernel
theorem dX5_countParts_38 : decode cX5_countParts 38 = .ok (.invokevirtual 41, 3) := by decide +kernel
theorem dX5_countParts_41 : decode cX5_countParts 41 = .ok (.ior, 1) := by decide +kernel
theorem dX5_countParts_42 : decode cX5_countParts 42 = .ok (.istore 4, 2) := by decide +kernel
theorem dX5_countParts_44 : decode cX5_countParts 44 = .ok (.iinc 3 1, 3) := by decide +kernel
theorem dX5_countParts_47 : decode cX5_countParts 47 = .ok (.iinc 5 1, 3) := by decide +kernel
theorem dX5_countParts_50 : decode cX5_countParts 50 = .ok (.goto (-42), 3) := by decide +kernel
theorem dX5_countParts_53 : decode cX5_countParts 53 = .ok (.iload_n 3, 1) := by decide +kernel
theorem dX5_countParts_54 : decode cX5_countParts 54 = .ok (.ireturn, 1) := by decide +kernel
set_option maxRecDepth 20000 in
theorem ggX5_distance_X6_has : GoodIn wsX5_distance wsX6_has := goodIn_r _ [3] (by decide +kernel) (by decide +kernel)
set_option maxRecDepth 20000 in
theorem gX5_distance_X6_has_n37 : GoodIn wsX5_distance (wsX6_has) := ggX5_distance_X6_has
set_option maxRecDepth 20000 in
theorem ggX5_distance_X5_linkedWithAny : GoodIn wsX5_distance wsX5_linkedWithAny := goodIn_r _ [8, 9, 1, 2, 3, 10, 11, 12, 7, 13, 14, 15, 16, 17, 18, 19, 20, 21, 22, 23, 24, 25] (by decide +kernel) (by decide +kernel)
set_option maxRecDepth 20000 in
theorem gX5_distance_X5_linkedWithAny : GoodIn wsX5_distance (wsV RX5 45 RX5 yX5_linkedWithAny wsX5_linkedWithAny) := goodIn_app (goodIn_of _ (by decide +kernel)) ggX5_distance_X5_linkedWithAny
theorem dX5_distance_0 : decode cX5_distance 0 = .ok (.iconst 1, 1) := by decide +kernel
theorem dX5_distance_1 : decode cX5_distance 1 = .ok (.iload_n 1, 1) := by decide +kernel
theorem dX5_distance_2 : decode cX5_distance 2 = .ok (.ishl, 1) := by decide +kernel
theorem dX5_distance_3 : decode cX5_distance 3 = .ok (.istore_n 3, 1) := by decide +kernel
theorem dX5_distance_4 : decode cX5_distance 4 = .ok (.iconst 0, 1) := by decide +kernel
theorem dX5_distance_5 : decode cX5_distance 5 = .ok (.istore 4, 2) := by decide +kernel
theorem dX5_distance_7 : decode cX5_distance 7 = .ok (.iload 4, 2) := by decide +kernel
theorem dX5_distance_9 : decode cX5_distance 9 = .ok (.bipush 8, 2) := by decide +kernel
theorem dX5_distance_11 : decode cX5_distance 11 = .ok (.if_icmp .ge 28, 3) := by decide +kernel
theorem dX5_distance_14 : decode cX5_distance 14 = .ok (.iload_n 3, 1) := by decide +kernel
theorem dX5_distance_15 : decode cX5_distance 15 = .ok (.iload_n 2, 1) := by decide +kernel
theorem dX5_distance_16 : decode cX5_distance 16 = .ok (.invokestatic 37, 3) := by decide +kernel
theorem dX5_distance_19 : decode cX5_distance 19 = .ok (.ifCond .eq 6, 3) := by decide +kernel
theorem dX5_distance_22 : decode cX5_distance 22 = .ok (.iload 4, 2) := by decide +kernel
theorem dX5_distance_24 : decode cX5_distance 24 = .ok (.ireturn, 1) := by decide +kernel
theorem dX5_distance_25 : decode cX5_distance 25 = .ok (.iload_n 3, 1) := by decide +kernel
theorem dX5_distance_26 : decode cX5_distance 26 = .ok (.aload_n 0, 1) := by decide +kernel
theorem dX5_distance_27 : decode cX5_distance 27 = .ok (.iload_n 3, 1) := by decide +kernel
theorem dX5_distance_28 : decode cX5_distance 28 = .ok (.invokevirtual 45, 3) := by decide +kernel
theorem dX5_distance_31 : decode cX5_distance 31 = .ok (.ior, 1) := by decide +kernel
theorem dX5_distance_32 : decode cX5_distance 32 = .ok (.istore_n 3, 1) := by decide +kernel
theorem dX5_distance_33 : decode cX5_distance 33 = .ok (.iinc 4 1, 3) := by decide +kernel
theorem dX5_distance_36 : decode cX5_distance 36 = .ok (.goto (-29), 3) := by decide +kernel
theorem dX5_distance_39 : decode cX5_distance 39 = .ok (.iconst (-1), 1) := by decide +kernel
theorem dX5_distance_40 : decode cX5_distance 40 = .ok (.ireturn, 1) := by decide +kernel
set_option maxRecDepth 20000 in
theorem ggX5_linkedWithAny_X6_has : GoodIn wsX5_linkedWithAny wsX6_has := goodIn_r _ [4] (by decide +kernel) (by decide +kernel)
set_option maxRecDepth 20000 in
theorem gX5_linkedWithAny_X6_has_n37 : GoodIn wsX5_linkedWithAny (wsX6_has) := ggX5_linkedWithAny_X6_has
set_option maxRecDepth 20000 in
theorem ggX5_linkedWithAny_X5_linkedWith : GoodIn wsX5_linkedWithAny wsX5_linkedWith := goodIn_r _ [9, 10, 11, 12, 13, 2, 3, 4, 14, 15, 16, 17, 18, 19, 20, 21] (by decide +kernel) (by decide +kernel)
set_option maxRecDepth 20000 in
theorem gX5_linkedWithAny_X5_linkedWith : GoodIn wsX5_linkedWithAny (wsV RX5 49 RX5 yX5_linkedWith wsX5_linkedWith) := goodIn_app (goodIn_of _ (by decide +kernel)) ggX5_linkedWithAny_X5_linkedWith
theorem dX5_linkedWithAny_0 : decode cX5_linkedWithAny 0 = .ok (.iconst 0, 1) := by decide +kernel
theorem dX5_linkedWithAny_1 : decode cX5_linkedWithAny 1 = .ok (.istore_n 2, 1) := by decide +kernel
theorem dX5_linkedWithAny_2 : decode cX5_linkedWithAny 2 = .ok (.iconst 0, 1) := by decide +kernel
theorem dX5_linkedWithAny_3 : decode cX5_linkedWithAny 3 = .ok (.istore_n 3, 1) := by decide +kernel
theorem dX5_linkedWithAny_4 : decode cX5_linkedWithAny 4 = .ok (.iload_n 3, 1) := by decide +kernel
theorem dX5_linkedWithAny_5 : decode cX5_linkedWithAny 5 = .ok (.aload_n 0, 1) := by decide +kernel
theorem dX5_linkedWithAny_6 : decode cX5_linkedWithAny 6 = .ok (.getfield 9, 3) := by decide +kernel
theorem dX5_linkedWithAny_9 : decode cX5_linkedWithAny 9 = .ok (.if_icmp .ge 25, 3) := by decide +kernel
theorem dX5_linkedWithAny_12 : decode cX5_linkedWithAny 12 = .ok (.iload_n 1, 1) := by decide +kernel
theorem dX5_linkedWithAny_13 : decode cX5_linkedWithAny 13 = .ok (.iload_n 3, 1) := by decide +kernel
theorem dX5_linkedWithAny_14 : decode cX5_linkedWithAny 14 = .ok (.invokestatic 37, 3) := by decide +kernel
theorem dX5_linkedWithAny_17 : decode cX5_linkedWithAny 17 = .ok (.ifCond .eq 11, 3) := by decide +kernel
theorem dX5_linkedWithAny_20 : decode cX5_linkedWithAny 20 = .ok (.iload_n 2, 1) := by decide +kernel
theorem dX5_linkedWithAny_21 : decode cX5_linkedWithAny 21 = .ok (.aload_n 0, 1) := by decide +kernel
theorem dX5_linkedWithAny_22 : decode cX5_linkedWithAny 22 = .ok (.iload_n 3, 1) := by decide +kernel
theorem dX5_linkedWithAny_23 : decode cX5_linkedWithAny 23 = .ok (.invokevirtual 49, 3) := by decide +kernel
theorem dX5_linkedWithAny_26 : decode cX5_linkedWithAny 26 = .ok (.ior, 1) := by decide +kernel
theorem dX5_linkedWithAny_27 : decode cX5_linkedWithAny 27 = .ok (.istore_n 2, 1) := by decide +kernel
theorem dX5_linkedWithAny_28 : decode cX5_linkedWithAny 28 = .ok (.iinc 3 1, 3) := by decide +kernel
theorem dX5_linkedWithAny_31 : decode cX5_linkedWithAny 31 = .ok (.goto (-27), 3) := by decide +kernel
theorem dX5_linkedWithAny_34 : decode cX5_linkedWithAny 34 = .ok (.iload_n 2, 1) := by decide +kernel
theorem dX5_linkedWithAny_35 : decode cX5_linkedWithAny 35 = .ok (.ireturn, 1) := by decide +kernel
set_option maxRecDepth 20000 in
theorem ggX5_greatestDistance_X5_distance : GoodIn wsX5_greatestDistance wsX5_distance := goodIn_r _ [10, 11, 12, 13, 14, 15, 16, 9, 17, 1, 18, 19, 20, 21, 22, 23, 24, 25, 26, 27, 28, 29, 30, 31, 32, 33] (by decide +kernel) (by decide +kernel)
set_option maxRecDepth 20000 in
theorem gX5_greatestDistance_X5_distance : GoodIn wsX5_greatestDistance (wsV RX5 52 RX5 yX5_distance wsX5_distance) := goodIn_app (goodIn_of _ (by decide +kernel)) ggX5_greatestDistance_X5_distance
theorem dX5_greatestDistance_0 : decode cX5_greatestDistance 0 = .ok (.iconst 0, 1) := by decide +kernel
theorem dX5_greatestDistance_1 : decode cX5_greatestDistance 1 = .ok (.istore_n 1, 1) := by decide +kernel
theorem dX5_greatestDistance_2 : decode cX5_greatestDistance 2 = .ok (.iconst 0, 1) := by decide +kernel
theorem dX5_greatestDistance_3 : decode cX5_greatestDistance 3 = .ok (.istore_n 2, 1) := by decide +kernel
theorem dX5_greatestDistance_4 : decode cX5_greatestDistance 4 = .ok (.iload_n 2, 1) := by decide +kernel
theorem dX5_greatestDistance_5 : decode cX5_greatestDistance 5 = .ok (.aload_n 0, 1) := by decide +kernel
theorem dX5_greatestDistance_6 : decode cX5_greatestDistance 6 = .ok (.getfield 9, 3) := by decide +kernel
theorem dX5_greatestDistance_9 : decode cX5_greatestDistance 9 = .ok (.if_icmp .ge 38, 3) := by decide +kernel
theorem dX5_greatestDistance_12 : decode cX5_greatestDistance 12 = .ok (.iload_n 2, 1) := by decide +kernel
theorem dX5_greatestDistance_13 : decode cX5_greatestDistance 13 = .ok (.iconst 1, 1) := by decide +kernel
theorem dX5_greatestDistance_14 : decode cX5_greatestDistance 14 = .ok (.iadd, 1) := by decide +kernel
theorem dX5_greatestDistance_15 : decode cX5_greatestDistance 15 = .ok (.istore_n 3, 1) := by decide +kernel
theorem dX5_greatestDistance_16 : decode cX5_greatestDistance 16 = .ok (.iload_n 3, 1) := by decide +kernel
theorem dX5_greatestDistance_17 : decode cX5_greatestDistance 17 = .ok (.aload_n 0, 1) := by decide +kernel
theorem dX5_greatestDistance_18 : decode cX5_greatestDistance 18 = .ok (.getfield 9, 3) := by decide +kernel
theorem dX5_greatestDistance_21 : decode cX5_greatestDistance 21 = .ok (.if_icmp .ge 20, 3) := by decide +kernel
theorem dX5_greatestDistance_24 : decode cX5_greatestDistance 24 = .ok (.iload_n 1, 1) := by decide +kernel
theorem dX5_greatestDistance_25 : decode cX5_greatestDistance 25 = .ok (.aload_n 0, 1) := by decide +kernel
theorem dX5_greatestDistance_26 : decode cX5_greatestDistance 26 = .ok (.iload_n 2, 1) := by decide +kernel
theorem dX5_greatestDistance_27 : decode cX5_greatestDistance 27 = .ok (.iload_n 3, 1) := by decide +kernel
theorem dX5_greatestDistance_28 : decode cX5_greatestDistance 28 = .ok (.invokevirtual 52, 3) := by decide +kernel
theorem dX5_greatestDistance_31 : decode cX5_greatestDistance 31 = .ok (.invokestatic 56, 3) := by decide +kernel
theorem dX5_greatestDistance_34 : decode cX5_greatestDistance 34 = .ok (.istore_n 1, 1) := by decide +kernel
theorem dX5_greatestDistance_35 : decode cX5_greatestDistance 35 = .ok (.iinc 3 1, 3) := by decide +kernel
theorem dX5_greatestDistance_38 : decode cX5_greatestDistance 38 = .ok (.goto (-22), 3) := by decide +kernel
theorem dX5_greatestDistance_41 : decode cX5_greatestDistance 41 = .ok (.iinc 2 1, 3) := by decide +kernel
theorem dX5_greatestDistance_44 : decode cX5_greatestDistance 44 = .ok (.goto (-40), 3) := by decide +kernel
theorem dX5_greatestDistance_47 : decode cX5_greatestDistance 47 = .ok (.iload_n 1, 1) := by decide +kernel
theorem dX5_greatestDistance_48 : decode cX5_greatestDistance 48 = .ok (.ireturn, 1) := by decide +kernel
set_option maxRecDepth 20000 in
theorem ggX5_linesOutOf_X6_has : GoodIn wsX5_linesOutOf wsX6_has := goodIn_r _ [4] (by decide +kernel) (by decide +kernel)
set_option maxRecDepth 20000 in
theorem gX5_linesOutOf_X6_has_n37 : GoodIn wsX5_linesOutOf (wsX6_has) := ggX5_linesOutOf_X6_has
set_option maxRecDepth 20000 in
theorem ggX5_linesOutOf_X5_standingAt : GoodIn wsX5_linesOutOf wsX5_standingAt := goodIn_r _ [9, 10, 11, 12, 13, 14, 15, 16, 17, 18, 19] (by decide +kernel) (by decide +kernel)
set_option maxRecDepth 20000 in
theorem gX5_linesOutOf_X5_standingAt : GoodIn wsX5_linesOutOf (wsV RX5 61 RX5 yX5_standingAt wsX5_standingAt) := goodIn_app (goodIn_of _ (by decide +kernel)) ggX5_linesOutOf_X5_standingAt
theorem dX5_linesOutOf_0 : decode cX5_linesOutOf 0 = .ok (.iconst 0, 1) := by decide +kernel
theorem dX5_linesOutOf_1 : decode cX5_linesOutOf 1 = .ok (.istore_n 2, 1) := by decide +kernel
theorem dX5_linesOutOf_2 : decode cX5_linesOutOf 2 = .ok (.iconst 0, 1) := by decide +kernel
theorem dX5_linesOutOf_3 : decode cX5_linesOutOf 3 = .ok (.istore_n 3, 1) := by decide +kernel
theorem dX5_linesOutOf_4 : decode cX5_linesOutOf 4 = .ok (.iload_n 3, 1) := by decide +kernel
theorem dX5_linesOutOf_5 : decode cX5_linesOutOf 5 = .ok (.aload_n 0, 1) := by decide +kernel
theorem dX5_linesOutOf_6 : decode cX5_linesOutOf 6 = .ok (.getfield 9, 3) := by decide +kernel
theorem dX5_linesOutOf_9 : decode cX5_linesOutOf 9 = .ok (.if_icmp .ge 25, 3) := by decide +kernel
theorem dX5_linesOutOf_12 : decode cX5_linesOutOf 12 = .ok (.iload_n 1, 1) := by decide +kernel
theorem dX5_linesOutOf_13 : decode cX5_linesOutOf 13 = .ok (.iload_n 3, 1) := by decide +kernel
theorem dX5_linesOutOf_14 : decode cX5_linesOutOf 14 = .ok (.invokestatic 37, 3) := by decide +kernel
theorem dX5_linesOutOf_17 : decode cX5_linesOutOf 17 = .ok (.ifCond .eq 11, 3) := by decide +kernel
theorem dX5_linesOutOf_20 : decode cX5_linesOutOf 20 = .ok (.iload_n 2, 1) := by decide +kernel
theorem dX5_linesOutOf_21 : decode cX5_linesOutOf 21 = .ok (.aload_n 0, 1) := by decide +kernel
theorem dX5_linesOutOf_22 : decode cX5_linesOutOf 22 = .ok (.iload_n 3, 1) := by decide +kernel
theorem dX5_linesOutOf_23 : decode cX5_linesOutOf 23 = .ok (.invokevirtual 61, 3) := by decide +kernel
theorem dX5_linesOutOf_26 : decode cX5_linesOutOf 26 = .ok (.ixor, 1) := by decide +kernel
theorem dX5_linesOutOf_27 : decode cX5_linesOutOf 27 = .ok (.istore_n 2, 1) := by decide +kernel
theorem dX5_linesOutOf_28 : decode cX5_linesOutOf 28 = .ok (.iinc 3 1, 3) := by decide +kernel
theorem dX5_linesOutOf_31 : decode cX5_linesOutOf 31 = .ok (.goto (-27), 3) := by decide +kernel
theorem dX5_linesOutOf_34 : decode cX5_linesOutOf 34 = .ok (.iload_n 2, 1) := by decide +kernel
theorem dX5_linesOutOf_35 : decode cX5_linesOutOf 35 = .ok (.ireturn, 1) := by decide +kernel
set_option maxRecDepth 20000 in
theorem ggX6_init_X5_init : GoodIn wsX6_init wsX5_init := goodIn_r _ [30, 31, 2, 3, 32, 33, 34, 35, 36, 37, 38, 39, 40, 97, 98, 99, 100, 101, 102, 103, 104] (by decide +kernel) (by decide +kernel)
set_option maxRecDepth 20000 in
theorem gX6_init_X5_init_n9 : GoodIn wsX6_init (wsX5_init) := ggX6_init_X5_init
set_option maxRecDepth 20000 in
theorem ggX6_init_X1_init : GoodIn wsX6_init wsX1_init := goodIn_r _ [43, 44, 2, 3, 45, 46, 47, 48, 49, 50, 35, 51, 52, 53, 54, 55, 56, 57, 58, 59, 112, 113, 114, 115, 116, 117, 118, 119, 120, 121, 122, 123, 124, 125, 126] (by decide +kernel) (by decide +kernel)
set_option maxRecDepth 20000 in
theorem gX6_init_X1_init : GoodIn wsX6_init (wsX1_init) := ggX6_init_X1_init
set_option maxRecDepth 20000 in
theorem ggX6_init_X4_init : GoodIn wsX6_init wsX4_init := goodIn_r _ [62, 63, 2, 3, 64, 35, 65, 66, 67, 68, 127, 128, 129, 130] (by decide +kernel) (by decide +kernel)
set_option maxRecDepth 20000 in
theorem gX6_init_X4_init : GoodIn wsX6_init (wsX4_init) := ggX6_init_X4_init
set_option maxRecDepth 20000 in
theorem ggX6_init_X2_init : GoodIn wsX6_init wsX2_init := goodIn_r _ [71, 72, 2, 3, 73, 74, 75, 76, 77, 35, 78, 79, 131, 132, 133, 134, 135] (by decide +kernel) (by decide +kernel)
set_option maxRecDepth 20000 in
theorem gX6_init_X2_init : GoodIn wsX6_init (wsX2_init) := ggX6_init_X2_init
set_option maxRecDepth 20000 in
theorem ggX6_init_X3_init : GoodIn wsX6_init wsX3_init := goodIn_r _ [82, 83, 2, 3, 84, 35, 85, 86, 136, 137, 138] (by decide +kernel) (by decide +kernel)
set_option maxRecDepth 20000 in
theorem gX6_init_X3_init : GoodIn wsX6_init (wsX3_init) := ggX6_init_X3_init
set_option maxRecDepth 20000 in
theorem ggX6_init_X0_init : GoodIn wsX6_init wsX0_init := goodIn_r _ [89, 90, 2, 3, 91, 35, 92, 93, 94, 95, 96, 139, 140, 141, 142, 143] (by decide +kernel) (by decide +kernel)
set_option maxRecDepth 20000 in
theorem gX6_init_X0_init : GoodIn wsX6_init (wsX0_init) := ggX6_init_X0_init
theorem dX6_init_0 : decode cX6_init 0 = .ok (.aload_n 0, 1) := by decide +kernel
theorem dX6_init_1 : decode cX6_init 1 = .ok (.invokespecial 1, 3) := by decide +kernel
theorem dX6_init_4 : decode cX6_init 4 = .ok (.aload_n 0, 1) := by decide +kernel
theorem dX6_init_5 : decode cX6_init 5 = .ok (.new 7, 3) := by decide +kernel
theorem dX6_init_8 : decode cX6_init 8 = .ok (.dup, 1) := by decide +kernel
theorem dX6_init_9 : decode cX6_init 9 = .ok (.invokespecial 9, 3) := by decide +kernel
theorem dX6_init_12 : decode cX6_init 12 = .ok (.putfield 10, 3) := by decide +kernel
theorem dX6_init_15 : decode cX6_init 15 = .ok (.aload_n 0, 1) := by decide +kernel
theorem dX6_init_16 : decode cX6_init 16 = .ok (.new 16, 3) := by decide +kernel
theorem dX6_init_19 : decode cX6_init 19 = .ok (.dup, 1) := by decide +kernel
theorem dX6_init_20 : decode cX6_init 20 = .ok (.aload_n 0, 1) := by decide +kernel
theorem dX6_init_21 : decode cX6_init 21 = .ok (.getfield 10, 3) := by decide +kernel
theorem dX6_init_24 : decode cX6_init 24 = .ok (.invokespecial 18, 3) := by decide +kernel
theorem dX6_init_27 : decode cX6_init 27 = .ok (.putfield 21, 3) := by decide +kernel
theorem dX6_init_30 : decode cX6_init 30 = .ok (.aload_n 0, 1) := by decide +kernel
theorem dX6_init_31 : decode cX6_init 31 = .ok (.new 25, 3) := by decide +kernel
theorem dX6_init_34 : decode cX6_init 34 = .ok (.dup, 1) := by decide +kernel
theorem dX6_init_35 : decode cX6_init 35 = .ok (.aload_n 0, 1) := by decide +kernel
theorem dX6_init_36 : decode cX6_init 36 = .ok (.getfield 10, 3) := by decide +kernel
theorem dX6_init_39 : decode cX6_init 39 = .ok (.invokespecial 27, 3) := by decide +kernel
theorem dX6_init_42 : decode cX6_init 42 = .ok (.putfield 28, 3) := by decide +kernel
theorem dX6_init_45 : decode cX6_init 45 = .ok (.aload_n 0, 1) := by decide +kernel
theorem dX6_init_46 : decode cX6_init 46 = .ok (.new 32, 3) := by decide +kernel
theorem dX6_init_49 : decode cX6_init 49 = .ok (.dup, 1) := by decide +kernel
theorem dX6_init_50 : decode cX6_init 50 = .ok (.aload_n 0, 1) := by decide +kernel
theorem dX6_init_51 : decode cX6_init 51 = .ok (.getfield 10, 3) := by decide +kernel
theorem dX6_init_54 : decode cX6_init 54 = .ok (.invokespecial 34, 3) := by decide +kernel
theorem dX6_init_57 : decode cX6_init 57 = .ok (.putfield 35, 3) := by decide +kernel
theorem dX6_init_60 : decode cX6_init 60 = .ok (.aload_n 0, 1) := by decide +kernel
theorem dX6_init_61 : decode cX6_init 61 = .ok (.new 39, 3) := by decide +kernel
theorem dX6_init_64 : decode cX6_init 64 = .ok (.dup, 1) := by decide +kernel
theorem dX6_init_65 : decode cX6_init 65 = .ok (.aload_n 0, 1) := by decide +kernel
theorem dX6_init_66 : decode cX6_init 66 = .ok (.getfield 10, 3) := by decide +kernel
theorem dX6_init_69 : decode cX6_init 69 = .ok (.invokespecial 41, 3) := by decide +kernel
theorem dX6_init_72 : decode cX6_init 72 = .ok (.putfield 42, 3) := by decide +kernel
theorem dX6_init_75 : decode cX6_init 75 = .ok (.aload_n 0, 1) := by decide +kernel
theorem dX6_init_76 : decode cX6_init 76 = .ok (.new 46, 3) := by decide +kernel
theorem dX6_init_79 : decode cX6_init 79 = .ok (.dup, 1) := by decide +kernel
theorem dX6_init_80 : decode cX6_init 80 = .ok (.aload_n 0, 1) := by decide +kernel
theorem dX6_init_81 : decode cX6_init 81 = .ok (.getfield 10, 3) := by decide +kernel
theorem dX6_init_84 : decode cX6_init 84 = .ok (.invokespecial 48, 3) := by decide +kernel
theorem dX6_init_87 : decode cX6_init 87 = .ok (.putfield 49, 3) := by decide +kernel
theorem dX6_init_90 : decode cX6_init 90 = .ok (.aload_n 0, 1) := by decide +kernel
theorem dX6_init_91 : decode cX6_init 91 = .ok (.iconst 0, 1) := by decide +kernel
theorem dX6_init_92 : decode cX6_init 92 = .ok (.putfield 53, 3) := by decide +kernel
theorem dX6_init_95 : decode cX6_init 95 = .ok (.return_, 1) := by decide +kernel
set_option maxRecDepth 20000 in
theorem ggX6_point_X5_addPoint : GoodIn wsX6_point wsX5_addPoint := goodIn_r _ [8, 9, 191, 192, 193, 194, 195, 196, 197, 198] (by decide +kernel) (by decide +kernel)
set_option maxRecDepth 20000 in
theorem gX6_point_X5_addPoint : GoodIn wsX6_point (wsV RX6 67 RX5 yX5_addPoint wsX5_addPoint) := goodIn_app (goodIn_of _ (by decide +kernel)) ggX6_point_X5_addPoint
set_option maxRecDepth 20000 in
theorem ggX6_point_X6_learnAll : GoodIn wsX6_point wsX6_learnAll := goodIn_r _ [14, 15, 16, 17, 18, 19, 20, 21, 22, 23, 24, 25, 26, 27, 28, 29, 30, 13, 31, 32, 33, 34, 7, 35, 9, 36, 37, 38, 39, 40, 41, 42, 43, 44, 45, 46, 47, 48, 49, 50, 51, 52, 53, 54, 55, 56, 57, 58, 59, 60, 61, 62, 63, 64, 65, 66, 67, 68, 69, 70, 71, 72, 73, 74, 75, 76, 77, 78, 79, 80, 81, 82, 83, 84, 85, 86, 87, 88, 89, 90, 91, 92, 93, 94, 95, 96, 97, 98, 99, 100, 101, 102, 103, 104, 105, 106, 107, 108, 109, 110, 111, 112, 113, 114, 115, 116, 117, 118, 119, 120, 121, 122, 123, 124, 125, 126, 127, 128, 129, 130, 131, 132, 133, 134, 135, 136, 137, 138, 139, 140, 141, 142, 143, 144, 145, 146, 147, 148, 149, 150, 151, 152, 153, 154, 155, 156, 157, 158, 159, 160, 161, 162, 163, 164, 165, 166, 167, 168, 169, 170, 171, 172, 173, 174, 175, 176, 177, 178, 179, 180, 181, 182, 183, 184, 185, 186, 187, 188, 189, 190, 199, 200, 201, 202, 203, 204, 205, 206, 207, 208, 209, 210, 211, 212, 213, 191, 192, 193, 194, 195, 196, 197, 198, 214, 215, 216, 217, 218, 219, 220, 221, 222, 223, 224, 225, 226] (by decide +kernel) (by decide +kernel)
set_option maxRecDepth 20000 in
theorem gX6_point_X6_learnAll : GoodIn wsX6_point (wsV RX6 71 RX6 yX6_learnAll wsX6_learnAll) := goodIn_app (goodIn_of _ (by decide +kernel)) ggX6_point_X6_learnAll
theorem dX6_point_0 : decode cX6_point 0 = .ok (.aload_n 0, 1) := by decide +kernel
theorem dX6_point_1 : decode cX6_point 1 = .ok (.getfield 10, 3) := by decide +kernel
theorem dX6_point_4 : decode cX6_point 4 = .ok (.getfield 57, 3) := by decide +kernel
theorem dX6_point_7 : decode cX6_point 7 = .ok (.bipush 8, 2) := by decide +kernel
theorem dX6_point_9 : decode cX6_point 9 = .ok (.if_icmp .lt 13, 3) := by decide +kernel
theorem dX6_point_12 : decode cX6_point 12 = .ok (.new 60, 3) := by decide +kernel
theorem dX6_point_15 : decode cX6_point 15 = .ok (.dup, 1) := by decide +kernel
theorem dX6_point_16 : decode cX6_point 16 = .ok (.ldc 62, 2) := by decide +kernel
theorem dX6_point_18 : decode cX6_point 18 = .ok (.invokespecial 64, 3) := by decide +kernel
theorem dX6_point_21 : decode cX6_point 21 = .ok (.athrow, 1) := by decide +kernel
theorem dX6_point_22 : decode cX6_point 22 = .ok (.aload_n 0, 1) := by decide +kernel
theorem dX6_point_23 : decode cX6_point 23 = .ok (.getfield 10, 3) := by decide +kernel
theorem dX6_point_26 : decode cX6_point 26 = .ok (.invokevirtual 67, 3) := by decide +kernel
theorem dX6_point_29 : decode cX6_point 29 = .ok (.istore_n 1, 1) := by decide +kernel
theorem dX6_point_30 : decode cX6_point 30 = .ok (.aload_n 0, 1) := by decide +kernel
theorem dX6_point_31 : decode cX6_point 31 = .ok (.invokevirtual 71, 3) := by decide +kernel
theorem dX6_point_34 : decode cX6_point 34 = .ok (.iload_n 1, 1) := by decide +kernel
theorem dX6_point_35 : decode cX6_point 35 = .ok (.ireturn, 1) := by decide +kernel
set_option maxRecDepth 20000 in
theorem ggX6_line_X6_demandPoint : GoodIn wsX6_line wsX6_demandPoint := goodIn_ca (goodIn_r _ [16, 17, 18, 3, 205, 206, 207, 208, 209, 210, 211, 212, 213, 214, 215, 216, 217, 218, 219] (by decide +kernel) (by decide +kernel)) (goodIn_sub (fun _ h => List.mem_cons_of_mem _ (List.mem_append_left _ (List.mem_append_right _ h))) (by decide +kernel))
set_option maxRecDepth 20000 in
theorem gX6_line_X6_demandPoint : GoodIn wsX6_line (wsV RX6 74 RX6 yX6_demandPoint wsX6_demandPoint) := goodIn_app (goodIn_of _ (by decide +kernel)) ggX6_line_X6_demandPoint
set_option maxRecDepth 20000 in
theorem ggX6_line_X6_demandUnlike : GoodIn wsX6_line wsX6_demandUnlike := goodIn_ca (goodIn_r _ [21, 22, 23] (by decide +kernel) (by decide +kernel)) (goodIn_sub (fun _ h => List.mem_cons_of_mem _ (List.mem_append_right _ h)) (by decide +kernel))
set_option maxRecDepth 20000 in
theorem gX6_line_X6_demandUnlike : GoodIn wsX6_line (va_wsS RX6 78 yX6_demandUnlike wsX6_demandUnlike) := goodIn_app (goodIn_of _ (by decide +kernel)) ggX6_line_X6_demandUnlike
set_option maxRecDepth 20000 in
theorem ggX6_line_X6_demandCost : GoodIn wsX6_line wsX6_demandCost := goodIn_ca (goodIn_r _ [26, 22, 23] (by decide +kernel) (by decide +kernel)) (goodIn_sub (fun _ h => List.mem_cons_of_mem _ (List.mem_append_right _ h)) (by decide +kernel))
set_option maxRecDepth 20000 in
theorem gX6_line_X6_demandCost : GoodIn wsX6_line (va_wsS RX6 82 yX6_demandCost wsX6_demandCost) := goodIn_app (goodIn_of _ (by decide +kernel)) ggX6_line_X6_demandCost
set_option maxRecDepth 20000 in
theorem ggX6_line_X5_addLine : GoodIn wsX6_line wsX5_addLine := goodIn_r _ [31, 32, 33, 34, 35, 36, 37, 38, 212, 213, 214, 215, 216, 217, 218, 219] (by decide +kernel) (by decide +kernel)
set_option maxRecDepth 20000 in
theorem gX6_line_X5_addLine : GoodIn wsX6_line (wsV RX6 99 RX5 yX5_addLine wsX5_addLine) := goodIn_app (goodIn_of _ (by decide +kernel)) ggX6_line_X5_addLine
set_option maxRecDepth 20000 in
theorem ggX6_line_X0_append : GoodIn wsX6_line wsX0_append := goodIn_r _ [43, 44, 45, 220, 221, 222, 223, 224] (by decide +kernel) (by decide +kernel)
set_option maxRecDepth 20000 in
theorem gX6_line_X0_append : GoodIn wsX6_line (wsV RX6 103 RX0 yX0_append wsX0_append) := goodIn_app (goodIn_of _ (by decide +kernel)) ggX6_line_X0_append
set_option maxRecDepth 20000 in
theorem ggX6_line_X6_learnAll : GoodIn wsX6_line wsX6_learnAll := goodIn_r _ [49, 50, 51, 52, 11, 53, 54, 55, 56, 57, 58, 59, 60, 61, 62, 63, 64, 15, 65, 66, 67, 68, 30, 69, 70, 71, 72, 73, 74, 32, 36, 75, 76, 77, 78, 79, 80, 81, 82, 83, 84, 85, 86, 87, 88, 89, 90, 91, 92, 93, 94, 95, 96, 97, 98, 99, 100, 101, 102, 103, 104, 37, 38, 105, 106, 107, 108, 109, 110, 111, 112, 33, 34, 113, 114, 115, 116, 117, 5, 6, 7, 118, 119, 120, 121, 122, 123, 124, 125, 126, 127, 128, 129, 130, 131, 132, 133, 134, 135, 136, 137, 138, 139, 140, 141, 142, 143, 144, 145, 146, 147, 148, 149, 150, 151, 152, 153, 154, 155, 156, 157, 158, 159, 160, 161, 162, 163, 164, 165, 166, 167, 168, 169, 170, 171, 172, 173, 174, 175, 176, 177, 9, 10, 178, 179, 180, 181, 182, 183, 184, 185, 186, 187, 188, 42, 189, 190, 191, 192, 193, 194, 195, 196, 44, 45, 197, 198, 199, 200, 201, 202, 203, 204, 205, 206, 207, 208, 209, 210, 211, 225, 226, 227, 228, 229, 230, 231, 232, 233, 234, 235, 236, 237, 238, 239, 212, 213, 214, 215, 216, 217, 218, 219, 240, 241, 242, 243, 244, 245, 246, 247, 220, 221, 222, 223, 224] (by decide +kernel) (by decide +kernel)
set_option maxRecDepth 20000 in
theorem gX6_line_X6_learnAll : GoodIn wsX6_line (wsV RX6 71 RX6 yX6_learnAll wsX6_learnAll) := goodIn_app (goodIn_of _ (by decide +kernel)) ggX6_line_X6_learnAll
theorem dX6_line_0 : decode cX6_line 0 = .ok (.aload_n 0, 1) := by decide +kernel
theorem dX6_line_1 : decode cX6_line 1 = .ok (.iload_n 1, 1) := by decide +kernel
theorem dX6_line_2 : decode cX6_line 2 = .ok (.invokevirtual 74, 3) := by decide +kernel
theorem dX6_line_5 : decode cX6_line 5 = .ok (.aload_n 0, 1) := by decide +kernel
theorem dX6_line_6 : decode cX6_line 6 = .ok (.iload_n 2, 1) := by decide +kernel
theorem dX6_line_7 : decode cX6_line 7 = .ok (.invokevirtual 74, 3) := by decide +kernel
theorem dX6_line_10 : decode cX6_line 10 = .ok (.iload_n 1, 1) := by decide +kernel
theorem dX6_line_11 : decode cX6_line 11 = .ok (.iload_n 2, 1) := by decide +kernel
theorem dX6_line_12 : decode cX6_line 12 = .ok (.invokestatic 78, 3) := by decide +kernel
theorem dX6_line_15 : decode cX6_line 15 = .ok (.iload_n 3, 1) := by decide +kernel
theorem dX6_line_16 : decode cX6_line 16 = .ok (.invokestatic 82, 3) := by decide +kernel
theorem dX6_line_19 : decode cX6_line 19 = .ok (.aload_n 0, 1) := by decide +kernel
theorem dX6_line_20 : decode cX6_line 20 = .ok (.getfield 10, 3) := by decide +kernel
theorem dX6_line_23 : decode cX6_line 23 = .ok (.getfield 85, 3) := by decide +kernel
theorem dX6_line_26 : decode cX6_line 26 = .ok (.bipush 16, 2) := by decide +kernel
theorem dX6_line_28 : decode cX6_line 28 = .ok (.if_icmp .lt 13, 3) := by decide +kernel
theorem dX6_line_31 : decode cX6_line 31 = .ok (.new 60, 3) := by decide +kernel
theorem dX6_line_34 : decode cX6_line 34 = .ok (.dup, 1) := by decide +kernel
theorem dX6_line_35 : decode cX6_line 35 = .ok (.ldc 88, 2) := by decide +kernel
theorem dX6_line_37 : decode cX6_line 37 = .ok (.invokespecial 64, 3) := by decide +kernel
theorem dX6_line_40 : decode cX6_line 40 = .ok (.athrow, 1) := by decide +kernel
theorem dX6_line_41 : decode cX6_line 41 = .ok (.aload_n 0, 1) := by decide +kernel
theorem dX6_line_42 : decode cX6_line 42 = .ok (.getfield 10, 3) := by decide +kernel
theorem dX6_line_45 : decode cX6_line 45 = .ok (.iload_n 1, 1) := by decide +kernel
theorem dX6_line_46 : decode cX6_line 46 = .ok (.iload_n 2, 1) := by decide +kernel
theorem dX6_line_47 : decode cX6_line 47 = .ok (.invokestatic 90, 3) := by decide +kernel
theorem dX6_line_50 : decode cX6_line 50 = .ok (.iload_n 1, 1) := by decide +kernel
theorem dX6_line_51 : decode cX6_line 51 = .ok (.iload_n 2, 1) := by decide +kernel
theorem dX6_line_52 : decode cX6_line 52 = .ok (.invokestatic 96, 3) := by decide +kernel
theorem dX6_line_55 : decode cX6_line 55 = .ok (.iload_n 3, 1) := by decide +kernel
theorem dX6_line_56 : decode cX6_line 56 = .ok (.invokevirtual 99, 3) := by decide +kernel
theorem dX6_line_59 : decode cX6_line 59 = .ok (.istore 4, 2) := by decide +kernel
theorem dX6_line_61 : decode cX6_line 61 = .ok (.aload_n 0, 1) := by decide +kernel
theorem dX6_line_62 : decode cX6_line 62 = .ok (.getfield 49, 3) := by decide +kernel
theorem dX6_line_65 : decode cX6_line 65 = .ok (.iload_n 1, 1) := by decide +kernel
theorem dX6_line_66 : decode cX6_line 66 = .ok (.iload 4, 2) := by decide +kernel
theorem dX6_line_68 : decode cX6_line 68 = .ok (.invokevirtual 103, 3) := by decide +kernel
theorem dX6_line_71 : decode cX6_line 71 = .ok (.aload_n 0, 1) := by decide +kernel
theorem dX6_line_72 : decode cX6_line 72 = .ok (.getfield 49, 3) := by decide +kernel
theorem dX6_line_75 : decode cX6_line 75 = .ok (.iload_n 2, 1) := by decide +kernel
theorem dX6_line_76 : decode cX6_line 76 = .ok (.iload 4, 2) := by decide +kernel
theorem dX6_line_78 : decode cX6_line 78 = .ok (.invokevirtual 103, 3) := by decide +kernel
theorem dX6_line_81 : decode cX6_line 81 = .ok (.aload_n 0, 1) := by decide +kernel
theorem dX6_line_82 : decode cX6_line 82 = .ok (.invokevirtual 71, 3) := by decide +kernel
theorem dX6_line_85 : decode cX6_line 85 = .ok (.iload 4, 2) := by decide +kernel
theorem dX6_line_87 : decode cX6_line 87 = .ok (.ireturn, 1) := by decide +kernel
set_option maxRecDepth 20000 in
theorem ggX6_cut_X6_demandLine : GoodIn wsX6_cut wsX6_demandLine := goodIn_ca (goodIn_r _ [7, 8, 9, 1, 188, 189, 190, 191, 192, 193, 194, 210, 211, 212, 213, 214, 215, 216, 217] (by decide +kernel) (by decide +kernel)) (goodIn_sub (fun _ h => List.mem_cons_of_mem _ (List.mem_append_right _ h)) (by decide +kernel))
set_option maxRecDepth 20000 in
theorem gX6_cut_X6_demandLine : GoodIn wsX6_cut (wsV RX6 106 RX6 yX6_demandLine wsX6_demandLine) := goodIn_app (goodIn_of _ (by decide +kernel)) ggX6_cut_X6_demandLine
set_option maxRecDepth 20000 in
theorem ggX6_cut_X5_setCut : GoodIn wsX6_cut wsX5_setCut := goodIn_r _ [14, 15, 210, 211, 212, 213, 214, 215, 216, 217] (by decide +kernel) (by decide +kernel)
set_option maxRecDepth 20000 in
theorem gX6_cut_X5_setCut : GoodIn wsX6_cut (wsV RX6 109 RX5 yX5_setCut wsX5_setCut) := goodIn_app (goodIn_of _ (by decide +kernel)) ggX6_cut_X5_setCut
set_option maxRecDepth 20000 in
theorem ggX6_cut_X6_learnAll : GoodIn wsX6_cut wsX6_learnAll := goodIn_r _ [19, 2, 20, 21, 22, 23, 24, 25, 26, 27, 28, 29, 30, 31, 32, 33, 34, 6, 35, 36, 37, 38, 13, 39, 40, 41, 42, 43, 44, 45, 46, 47, 48, 49, 50, 51, 52, 53, 54, 55, 56, 57, 58, 59, 60, 61, 62, 63, 64, 65, 66, 67, 68, 69, 70, 71, 72, 73, 74, 75, 76, 77, 15, 78, 79, 80, 81, 82, 83, 84, 85, 86, 87, 88, 89, 90, 91, 92, 93, 94, 95, 96, 97, 98, 99, 100, 101, 102, 103, 104, 105, 106, 107, 108, 109, 110, 111, 112, 113, 114, 115, 116, 117, 118, 119, 120, 121, 122, 123, 124, 125, 126, 127, 128, 129, 130, 131, 132, 133, 134, 135, 136, 137, 138, 139, 140, 141, 142, 143, 144, 145, 146, 147, 148, 149, 150, 151, 152, 153, 154, 155, 156, 157, 158, 159, 160, 161, 162, 163, 164, 165, 166, 167, 168, 169, 170, 171, 172, 173, 174, 175, 176, 177, 178, 179, 180, 181, 182, 183, 184, 185, 186, 187, 188, 189, 190, 191, 192, 193, 194, 195, 196, 197, 198, 199, 200, 201, 202, 203, 204, 205, 206, 207, 208, 209, 210, 211, 212, 213, 214, 215, 216, 217, 218, 219, 220, 221, 222, 223, 224, 225, 226, 227, 228, 229, 230] (by decide +kernel) (by decide +kernel)
set_option maxRecDepth 20000 in
theorem gX6_cut_X6_learnAll : GoodIn wsX6_cut (wsV RX6 71 RX6 yX6_learnAll wsX6_learnAll) := goodIn_app (goodIn_of _ (by decide +kernel)) ggX6_cut_X6_learnAll
theorem dX6_cut_0 : decode cX6_cut 0 = .ok (.aload_n 0, 1) := by decide +kernel
theorem dX6_cut_1 : decode cX6_cut 1 = .ok (.iload_n 1, 1) := by decide +kernel
theorem dX6_cut_2 : decode cX6_cut 2 = .ok (.invokevirtual 106, 3) := by decide +kernel
theorem dX6_cut_5 : decode cX6_cut 5 = .ok (.aload_n 0, 1) := by decide +kernel
theorem dX6_cut_6 : decode cX6_cut 6 = .ok (.getfield 10, 3) := by decide +kernel
theorem dX6_cut_9 : decode cX6_cut 9 = .ok (.iload_n 1, 1) := by decide +kernel
theorem dX6_cut_10 : decode cX6_cut 10 = .ok (.iload_n 2, 1) := by decide +kernel
theorem dX6_cut_11 : decode cX6_cut 11 = .ok (.invokevirtual 109, 3) := by decide +kernel
theorem dX6_cut_14 : decode cX6_cut 14 = .ok (.aload_n 0, 1) := by decide +kernel
theorem dX6_cut_15 : decode cX6_cut 15 = .ok (.invokevirtual 71, 3) := by decide +kernel
theorem dX6_cut_18 : decode cX6_cut 18 = .ok (.aload_n 0, 1) := by decide +kernel
theorem dX6_cut_19 : decode cX6_cut 19 = .ok (.getfield 21, 3) := by decide +kernel
theorem dX6_cut_22 : decode cX6_cut 22 = .ok (.getfield 113, 3) := by decide +kernel
theorem dX6_cut_25 : decode cX6_cut 25 = .ok (.ireturn, 1) := by decide +kernel
set_option maxRecDepth 20000 in
theorem ggX6_price_X6_demandLine : GoodIn wsX6_price wsX6_demandLine := goodIn_ca (goodIn_r _ [7, 8, 9, 1, 50, 51, 52, 53, 54, 55, 56, 57, 58, 59, 60, 61, 62, 63, 64] (by decide +kernel) (by decide +kernel)) (goodIn_sub (fun _ h => List.mem_cons_of_mem _ (List.mem_append_left _ (List.mem_append_right _ h))) (by decide +kernel))
set_option maxRecDepth 20000 in
theorem gX6_price_X6_demandLine : GoodIn wsX6_price (wsV RX6 106 RX6 yX6_demandLine wsX6_demandLine) := goodIn_app (goodIn_of _ (by decide +kernel)) ggX6_price_X6_demandLine
set_option maxRecDepth 20000 in
theorem ggX6_price_X6_demandCost : GoodIn wsX6_price wsX6_demandCost := goodIn_ca (goodIn_r _ [12, 13, 14] (by decide +kernel) (by decide +kernel)) (goodIn_sub (fun _ h => List.mem_cons_of_mem _ (List.mem_append_right _ h)) (by decide +kernel))
set_option maxRecDepth 20000 in
theorem gX6_price_X6_demandCost : GoodIn wsX6_price (va_wsS RX6 82 yX6_demandCost wsX6_demandCost) := goodIn_app (goodIn_of _ (by decide +kernel)) ggX6_price_X6_demandCost
set_option maxRecDepth 20000 in
theorem ggX6_price_X2_learn : GoodIn wsX6_price wsX2_learn := goodIn_r _ [19, 20, 21, 22, 23, 24, 25, 26, 27, 28, 29, 30, 31, 32, 33, 6, 34, 35, 36, 37, 38, 39, 40, 41, 42, 43, 18, 44, 45, 46, 47, 48, 49, 65, 66, 67, 68, 69, 57, 58, 59, 60, 61, 62, 63, 64] (by decide +kernel) (by decide +kernel)
set_option maxRecDepth 20000 in
theorem gX6_price_X2_learn : GoodIn wsX6_price (wsV RX6 120 RX2 yX2_learn wsX2_learn) := goodIn_app (goodIn_of _ (by decide +kernel)) ggX6_price_X2_learn
theorem dX6_price_0 : decode cX6_price 0 = .ok (.aload_n 0, 1) := by decide +kernel
theorem dX6_price_1 : decode cX6_price 1 = .ok (.iload_n 1, 1) := by decide +kernel
theorem dX6_price_2 : decode cX6_price 2 = .ok (.invokevirtual 106, 3) := by decide +kernel
theorem dX6_price_5 : decode cX6_price 5 = .ok (.iload_n 2, 1) := by decide +kernel
theorem dX6_price_6 : decode cX6_price 6 = .ok (.invokestatic 82, 3) := by decide +kernel
theorem dX6_price_9 : decode cX6_price 9 = .ok (.aload_n 0, 1) := by decide +kernel
theorem dX6_price_10 : decode cX6_price 10 = .ok (.getfield 10, 3) := by decide +kernel
theorem dX6_price_13 : decode cX6_price 13 = .ok (.getfield 116, 3) := by decide +kernel
theorem dX6_price_16 : decode cX6_price 16 = .ok (.iload_n 1, 1) := by decide +kernel
theorem dX6_price_17 : decode cX6_price 17 = .ok (.iaload, 1) := by decide +kernel
theorem dX6_price_18 : decode cX6_price 18 = .ok (.istore_n 3, 1) := by decide +kernel
theorem dX6_price_19 : decode cX6_price 19 = .ok (.aload_n 0, 1) := by decide +kernel
theorem dX6_price_20 : decode cX6_price 20 = .ok (.getfield 10, 3) := by decide +kernel
theorem dX6_price_23 : decode cX6_price 23 = .ok (.getfield 116, 3) := by decide +kernel
theorem dX6_price_26 : decode cX6_price 26 = .ok (.iload_n 1, 1) := by decide +kernel
theorem dX6_price_27 : decode cX6_price 27 = .ok (.iload_n 2, 1) := by decide +kernel
theorem dX6_price_28 : decode cX6_price 28 = .ok (.iastore, 1) := by decide +kernel
theorem dX6_price_29 : decode cX6_price 29 = .ok (.aload_n 0, 1) := by decide +kernel
theorem dX6_price_30 : decode cX6_price 30 = .ok (.getfield 35, 3) := by decide +kernel
theorem dX6_price_33 : decode cX6_price 33 = .ok (.invokevirtual 120, 3) := by decide +kernel
theorem dX6_price_36 : decode cX6_price 36 = .ok (.iload_n 3, 1) := by decide +kernel
theorem dX6_price_37 : decode cX6_price 37 = .ok (.ireturn, 1) := by decide +kernel
set_option maxRecDepth 20000 in
theorem ggX6_turn_X6_demandPoint : GoodIn wsX6_turn wsX6_demandPoint := goodIn_ca (goodIn_r _ [6, 7, 8, 9, 53, 54, 55, 56, 57, 58, 59, 60, 61, 62, 63, 64, 65, 66, 67] (by decide +kernel) (by decide +kernel)) (goodIn_sub (fun _ h => List.mem_cons_of_mem _ (List.mem_append_right _ h)) (by decide +kernel))
set_option maxRecDepth 20000 in
theorem gX6_turn_X6_demandPoint : GoodIn wsX6_turn (wsV RX6 74 RX6 yX6_demandPoint wsX6_demandPoint) := goodIn_app (goodIn_of _ (by decide +kernel)) ggX6_turn_X6_demandPoint
set_option maxRecDepth 20000 in
theorem ggX6_turn_X6_demandPlace : GoodIn wsX6_turn wsX6_demandPlace := goodIn_ca (goodIn_r _ [13, 7, 8, 1, 53, 54, 55, 56, 57, 58, 59, 68, 69, 70, 71, 72] (by decide +kernel) (by decide +kernel)) (goodIn_sub (fun _ h => List.mem_cons_of_mem _ (List.mem_append_right _ h)) (by decide +kernel))
set_option maxRecDepth 20000 in
theorem gX6_turn_X6_demandPlace : GoodIn wsX6_turn (wsV RX6 123 RX6 yX6_demandPlace wsX6_demandPlace) := goodIn_app (goodIn_of _ (by decide +kernel)) ggX6_turn_X6_demandPlace
set_option maxRecDepth 20000 in
theorem ggX6_turn_X0_swap : GoodIn wsX6_turn wsX0_swap := goodIn_r _ [18, 19, 20, 21, 22, 17, 23, 24, 68, 69, 70, 71, 72] (by decide +kernel) (by decide +kernel)
set_option maxRecDepth 20000 in
theorem gX6_turn_X0_swap : GoodIn wsX6_turn (wsV RX6 126 RX0 yX0_swap wsX0_swap) := goodIn_app (goodIn_of _ (by decide +kernel)) ggX6_turn_X0_swap
set_option maxRecDepth 20000 in
theorem ggX6_turn_X0_learn : GoodIn wsX6_turn wsX0_learn := goodIn_r _ [28, 29, 30, 31, 32, 5, 33, 34, 35, 36, 17, 37, 24, 19, 38, 39, 40, 41, 20, 21, 22, 23, 68, 69, 70, 71, 72, 60, 61, 62, 63, 64, 65, 66, 67] (by decide +kernel) (by decide +kernel)
set_option maxRecDepth 20000 in
theorem gX6_turn_X0_learn : GoodIn wsX6_turn (wsV RX6 129 RX0 yX0_learn wsX0_learn) := goodIn_app (goodIn_of _ (by decide +kernel)) ggX6_turn_X0_learn
set_option maxRecDepth 20000 in
theorem ggX6_turn_X0_allFaces : GoodIn wsX6_turn wsX0_allFaces := goodIn_r _ [45, 29, 31, 46, 47, 48, 49, 50, 51, 52, 68, 69, 70, 71, 72, 60, 61, 62, 63, 64, 65, 66, 67] (by decide +kernel) (by decide +kernel)
set_option maxRecDepth 20000 in
theorem gX6_turn_X0_allFaces : GoodIn wsX6_turn (wsV RX6 130 RX0 yX0_allFaces wsX0_allFaces) := goodIn_app (goodIn_of _ (by decide +kernel)) ggX6_turn_X0_allFaces
theorem dX6_turn_0 : decode cX6_turn 0 = .ok (.aload_n 0, 1) := by decide +kernel
theorem dX6_turn_1 : decode cX6_turn 1 = .ok (.iload_n 1, 1) := by decide +kernel
theorem dX6_turn_2 : decode cX6_turn 2 = .ok (.invokevirtual 74, 3) := by decide +kernel
theorem dX6_turn_5 : decode cX6_turn 5 = .ok (.aload_n 0, 1) := by decide +kernel
theorem dX6_turn_6 : decode cX6_turn 6 = .ok (.iload_n 1, 1) := by decide +kernel
theorem dX6_turn_7 : decode cX6_turn 7 = .ok (.iload_n 2, 1) := by decide +kernel
theorem dX6_turn_8 : decode cX6_turn 8 = .ok (.invokevirtual 123, 3) := by decide +kernel
theorem dX6_turn_11 : decode cX6_turn 11 = .ok (.aload_n 0, 1) := by decide +kernel
theorem dX6_turn_12 : decode cX6_turn 12 = .ok (.getfield 49, 3) := by decide +kernel
theorem dX6_turn_15 : decode cX6_turn 15 = .ok (.iload_n 1, 1) := by decide +kernel
theorem dX6_turn_16 : decode cX6_turn 16 = .ok (.iload_n 2, 1) := by decide +kernel
theorem dX6_turn_17 : decode cX6_turn 17 = .ok (.invokevirtual 126, 3) := by decide +kernel
theorem dX6_turn_20 : decode cX6_turn 20 = .ok (.aload_n 0, 1) := by decide +kernel
theorem dX6_turn_21 : decode cX6_turn 21 = .ok (.getfield 49, 3) := by decide +kernel
theorem dX6_turn_24 : decode cX6_turn 24 = .ok (.invokevirtual 129, 3) := by decide +kernel
theorem dX6_turn_27 : decode cX6_turn 27 = .ok (.aload_n 0, 1) := by decide +kernel
theorem dX6_turn_28 : decode cX6_turn 28 = .ok (.getfield 49, 3) := by decide +kernel
theorem dX6_turn_31 : decode cX6_turn 31 = .ok (.invokevirtual 130, 3) := by decide +kernel
theorem dX6_turn_34 : decode cX6_turn 34 = .ok (.ireturn, 1) := by decide +kernel
set_option maxRecDepth 20000 in
theorem ggX6_ofPoint_X6_demandPoint : GoodIn wsX6_ofPoint wsX6_demandPoint := goodIn_ca (goodIn_r _ [9, 10, 11, 2, 49, 50, 51, 52, 53, 54, 55, 79, 80, 81, 82, 83, 84, 85, 86] (by decide +kernel) (by decide +kernel)) (goodIn_sub (fun _ h => List.mem_cons_of_mem _ (List.mem_append_left _ (List.mem_append_right _ h))) (by decide +kernel))
set_option maxRecDepth 20000 in
theorem gX6_ofPoint_X6_demandPoint : GoodIn wsX6_ofPoint (wsV RX6 74 RX6 yX6_demandPoint wsX6_demandPoint) := goodIn_app (goodIn_of _ (by decide +kernel)) ggX6_ofPoint_X6_demandPoint
set_option maxRecDepth 20000 in
theorem ggX6_ofPoint_X6_demandWhat : GoodIn wsX6_ofPoint wsX6_demandWhat := goodIn_ca (goodIn_r _ [14, 15, 16] (by decide +kernel) (by decide +kernel)) (goodIn_sub (fun _ h => List.mem_cons_of_mem _ (List.mem_append_right _ h)) (by decide +kernel))
set_option maxRecDepth 20000 in
theorem gX6_ofPoint_X6_demandWhat : GoodIn wsX6_ofPoint (va_wsS RX6 133 yX6_demandWhat wsX6_demandWhat) := goodIn_app (goodIn_of _ (by decide +kernel)) ggX6_ofPoint_X6_demandWhat
set_option maxRecDepth 20000 in
theorem ggX6_ofPoint_X5_standingAt : GoodIn wsX6_ofPoint wsX5_standingAt := goodIn_r _ [21, 22, 23, 79, 80, 81, 82, 83, 84, 85, 86] (by decide +kernel) (by decide +kernel)
set_option maxRecDepth 20000 in
theorem gX6_ofPoint_X5_standingAt : GoodIn wsX6_ofPoint (wsV RX6 139 RX5 yX5_standingAt wsX5_standingAt) := goodIn_app (goodIn_of _ (by decide +kernel)) ggX6_ofPoint_X5_standingAt
set_option maxRecDepth 20000 in
theorem ggX6_ofPoint_J6_bitCount_0f7a4 : GoodIn wsX6_ofPoint wsJ6_bitCount_0f7a4 := goodIn_r _ [27, 28, 29, 30] (by decide +kernel) (by decide +kernel)
set_option maxRecDepth 20000 in
theorem gX6_ofPoint_J6_bitCount_0f7a4 : GoodIn wsX6_ofPoint (va_wsS RX6 143 yJ6_bitCount_0f7a4 wsJ6_bitCount_0f7a4) := goodIn_app (goodIn_of _ (by decide +kernel)) ggX6_ofPoint_J6_bitCount_0f7a4
set_option maxRecDepth 20000 in
theorem ggX6_ofPoint_X6_has : GoodIn wsX6_ofPoint wsX6_has := goodIn_r _ [33] (by decide +kernel) (by decide +kernel)
set_option maxRecDepth 20000 in
theorem gX6_ofPoint_X6_has : GoodIn wsX6_ofPoint (va_wsS RX6 151 yX6_has wsX6_has) := goodIn_app (goodIn_of _ (by decide +kernel)) ggX6_ofPoint_X6_has
set_option maxRecDepth 20000 in
theorem ggX6_ofPoint_X1_blocksAt : GoodIn wsX6_ofPoint wsX1_blocksAt := goodIn_r _ [38, 39, 40, 41, 18, 19, 20, 21, 22, 23, 32, 8, 33, 42, 25, 26, 27, 28, 29, 30, 56, 57, 58, 59, 60, 61, 62, 63, 64, 65, 66, 67, 68, 69, 70, 79, 80, 81, 82, 83, 84, 85, 86] (by decide +kernel) (by decide +kernel)
set_option maxRecDepth 20000 in
theorem gX6_ofPoint_X1_blocksAt : GoodIn wsX6_ofPoint (wsV RX6 155 RX1 yX1_blocksAt wsX1_blocksAt) := goodIn_app (goodIn_of _ (by decide +kernel)) ggX6_ofPoint_X1_blocksAt
set_option maxRecDepth 20000 in
theorem ggX6_ofPoint_X5_linkedWith : GoodIn wsX6_ofPoint wsX5_linkedWith := goodIn_r _ [46, 47, 22, 23, 48, 32, 8, 33, 79, 80, 81, 82, 83, 84, 85, 86] (by decide +kernel) (by decide +kernel)
set_option maxRecDepth 20000 in
theorem gX6_ofPoint_X5_linkedWith : GoodIn wsX6_ofPoint (wsV RX6 161 RX5 yX5_linkedWith wsX5_linkedWith) := goodIn_app (goodIn_of _ (by decide +kernel)) ggX6_ofPoint_X5_linkedWith
theorem dX6_ofPoint_0 : decode cX6_ofPoint 0 = .ok (.aload_n 0, 1) := by decide +kernel
theorem dX6_ofPoint_1 : decode cX6_ofPoint 1 = .ok (.iload_n 1, 1) := by decide +kernel
theorem dX6_ofPoint_2 : decode cX6_ofPoint 2 = .ok (.invokevirtual 74, 3) := by decide +kernel
theorem dX6_ofPoint_5 : decode cX6_ofPoint 5 = .ok (.iload_n 2, 1) := by decide +kernel
theorem dX6_ofPoint_6 : decode cX6_ofPoint 6 = .ok (.bipush 6, 2) := by decide +kernel
theorem dX6_ofPoint_8 : decode cX6_ofPoint 8 = .ok (.invokestatic 133, 3) := by decide +kernel
theorem dX6_ofPoint_11 : decode cX6_ofPoint 11 = .ok (.iload_n 2, 1) := by decide +kernel
theorem dX6_ofPoint_12 : decode cX6_ofPoint 12 = .ok (.tableswitch 110 0 5 #[40, 50, 62, 82, 91, 101], 40) := by decide +kernel
theorem dX6_ofPoint_52 : decode cX6_ofPoint 52 = .ok (.aload_n 0, 1) := by decide +kernel
theorem dX6_ofPoint_53 : decode cX6_ofPoint 53 = .ok (.getfield 21, 3) := by decide +kernel
theorem dX6_ofPoint_56 : decode cX6_ofPoint 56 = .ok (.getfield 136, 3) := by decide +kernel
theorem dX6_ofPoint_59 : decode cX6_ofPoint 59 = .ok (.iload_n 1, 1) := by decide +kernel
theorem dX6_ofPoint_60 : decode cX6_ofPoint 60 = .ok (.iaload, 1) := by decide +kernel
theorem dX6_ofPoint_61 : decode cX6_ofPoint 61 = .ok (.ireturn, 1) := by decide +kernel
theorem dX6_ofPoint_62 : decode cX6_ofPoint 62 = .ok (.aload_n 0, 1) := by decide +kernel
theorem dX6_ofPoint_63 : decode cX6_ofPoint 63 = .ok (.getfield 10, 3) := by decide +kernel
theorem dX6_ofPoint_66 : decode cX6_ofPoint 66 = .ok (.iload_n 1, 1) := by decide +kernel
theorem dX6_ofPoint_67 : decode cX6_ofPoint 67 = .ok (.invokevirtual 139, 3) := by decide +kernel
theorem dX6_ofPoint_70 : decode cX6_ofPoint 70 = .ok (.invokestatic 143, 3) := by decide +kernel
theorem dX6_ofPoint_73 : decode cX6_ofPoint 73 = .ok (.ireturn, 1) := by decide +kernel
theorem dX6_ofPoint_74 : decode cX6_ofPoint 74 = .ok (.aload_n 0, 1) := by decide +kernel
theorem dX6_ofPoint_75 : decode cX6_ofPoint 75 = .ok (.getfield 21, 3) := by decide +kernel
theorem dX6_ofPoint_78 : decode cX6_ofPoint 78 = .ok (.getfield 148, 3) := by decide +kernel
theorem dX6_ofPoint_81 : decode cX6_ofPoint 81 = .ok (.iload_n 1, 1) := by decide +kernel
theorem dX6_ofPoint_82 : decode cX6_ofPoint 82 = .ok (.invokestatic 151, 3) := by decide +kernel
theorem dX6_ofPoint_85 : decode cX6_ofPoint 85 = .ok (.ifCond .eq 7, 3) := by decide +kernel
theorem dX6_ofPoint_88 : decode cX6_ofPoint 88 = .ok (.iconst 1, 1) := by decide +kernel
theorem dX6_ofPoint_89 : decode cX6_ofPoint 89 = .ok (.goto 4, 3) := by decide +kernel
theorem dX6_ofPoint_92 : decode cX6_ofPoint 92 = .ok (.iconst 0, 1) := by decide +kernel
theorem dX6_ofPoint_93 : decode cX6_ofPoint 93 = .ok (.ireturn, 1) := by decide +kernel
theorem dX6_ofPoint_94 : decode cX6_ofPoint 94 = .ok (.aload_n 0, 1) := by decide +kernel
theorem dX6_ofPoint_95 : decode cX6_ofPoint 95 = .ok (.getfield 21, 3) := by decide +kernel
theorem dX6_ofPoint_98 : decode cX6_ofPoint 98 = .ok (.iload_n 1, 1) := by decide +kernel
theorem dX6_ofPoint_99 : decode cX6_ofPoint 99 = .ok (.invokevirtual 155, 3) := by decide +kernel
theorem dX6_ofPoint_102 : decode cX6_ofPoint 102 = .ok (.ireturn, 1) := by decide +kernel
theorem dX6_ofPoint_103 : decode cX6_ofPoint 103 = .ok (.aload_n 0, 1) := by decide +kernel
theorem dX6_ofPoint_104 : decode cX6_ofPoint 104 = .ok (.getfield 42, 3) := by decide +kernel
theorem dX6_ofPoint_107 : decode cX6_ofPoint 107 = .ok (.getfield 158, 3) := by decide +kernel
theorem dX6_ofPoint_110 : decode cX6_ofPoint 110 = .ok (.iload_n 1, 1) := by decide +kernel
theorem dX6_ofPoint_111 : decode cX6_ofPoint 111 = .ok (.iaload, 1) := by decide +kernel
theorem dX6_ofPoint_112 : decode cX6_ofPoint 112 = .ok (.ireturn, 1) := by decide +kernel
theorem dX6_ofPoint_113 : decode cX6_ofPoint 113 = .ok (.aload_n 0, 1) := by decide +kernel
theorem dX6_ofPoint_114 : decode cX6_ofPoint 114 = .ok (.getfield 10, 3) := by decide +kernel
theorem dX6_ofPoint_117 : decode cX6_ofPoint 117 = .ok (.iload_n 1, 1) := by decide +kernel
theorem dX6_ofPoint_118 : decode cX6_ofPoint 118 = .ok (.invokevirtual 161, 3) := by decide +kernel
theorem dX6_ofPoint_121 : decode cX6_ofPoint 121 = .ok (.ireturn, 1) := by decide +kernel
theorem dX6_ofPoint_122 : decode cX6_ofPoint 122 = .ok (.aload_n 0, 1) := by decide +kernel
theorem dX6_ofPoint_123 : decode cX6_ofPoint 123 = .ok (.getfield 49, 3) := by decide +kernel
theorem dX6_ofPoint_126 : decode cX6_ofPoint 126 = .ok (.getfield 164, 3) := by decide +kernel
theorem dX6_ofPoint_129 : decode cX6_ofPoint 129 = .ok (.iload_n 1, 1) := by decide +kernel
theorem dX6_ofPoint_130 : decode cX6_ofPoint 130 = .ok (.iaload, 1) := by decide +kernel
theorem dX6_ofPoint_131 : decode cX6_ofPoint 131 = .ok (.ireturn, 1) := by decide +kernel
set_option maxRecDepth 20000 in
theorem ggX6_ofLine_X6_demandLine : GoodIn wsX6_ofLine wsX6_demandLine := goodIn_ca (goodIn_r _ [9, 10, 11, 1, 20, 21, 22, 23, 24, 25, 26, 27, 28, 29, 30, 31, 32, 33, 34] (by decide +kernel) (by decide +kernel)) (goodIn_sub (fun _ h => List.mem_cons_of_mem _ (List.mem_append_left _ (List.mem_append_right _ h))) (by decide +kernel))
set_option maxRecDepth 20000 in
theorem gX6_ofLine_X6_demandLine : GoodIn wsX6_ofLine (wsV RX6 106 RX6 yX6_demandLine wsX6_demandLine) := goodIn_app (goodIn_of _ (by decide +kernel)) ggX6_ofLine_X6_demandLine
set_option maxRecDepth 20000 in
theorem ggX6_ofLine_X6_demandWhat : GoodIn wsX6_ofLine wsX6_demandWhat := goodIn_ca (goodIn_r _ [14, 15, 16] (by decide +kernel) (by decide +kernel)) (goodIn_sub (fun _ h => List.mem_cons_of_mem _ (List.mem_append_right _ h)) (by decide +kernel))
set_option maxRecDepth 20000 in
theorem gX6_ofLine_X6_demandWhat : GoodIn wsX6_ofLine (va_wsS RX6 133 yX6_demandWhat wsX6_demandWhat) := goodIn_app (goodIn_of _ (by decide +kernel)) ggX6_ofLine_X6_demandWhat
set_option maxRecDepth 20000 in
theorem ggX6_ofLine_X6_has : GoodIn wsX6_ofLine wsX6_has := goodIn_r _ [19] (by decide +kernel) (by decide +kernel)
set_option maxRecDepth 20000 in
theorem gX6_ofLine_X6_has : GoodIn wsX6_ofLine (va_wsS RX6 151 yX6_has wsX6_has) := goodIn_app (goodIn_of _ (by decide +kernel)) ggX6_ofLine_X6_has
theorem dX6_ofLine_0 : decode cX6_ofLine 0 = .ok (.aload_n 0, 1) := by decide +kernel
theorem dX6_ofLine_1 : decode cX6_ofLine 1 = .ok (.iload_n 1, 1) := by decide +kernel
theorem dX6_ofLine_2 : decode cX6_ofLine 2 = .ok (.invokevirtual 106, 3) := by decide +kernel
theorem dX6_ofLine_5 : decode cX6_ofLine 5 = .ok (.iload_n 2, 1) := by decide +kernel
theorem dX6_ofLine_6 : decode cX6_ofLine 6 = .ok (.bipush 8, 2) := by decide +kernel
theorem dX6_ofLine_8 : decode cX6_ofLine 8 = .ok (.invokestatic 133, 3) := by decide +kernel
theorem dX6_ofLine_11 : decode cX6_ofLine 11 = .ok (.iload_n 2, 1) := by decide +kernel
theorem dX6_ofLine_12 : decode cX6_ofLine 12 = .ok (.tableswitch 160 0 7 #[48, 58, 68, 78, 98, 118, 128, 148], 48) := by decide +kernel
theorem dX6_ofLine_60 : decode cX6_ofLine 60 = .ok (.aload_n 0, 1) := by decide +kernel
theorem dX6_ofLine_61 : decode cX6_ofLine 61 = .ok (.getfield 10, 3) := by decide +kernel
theorem dX6_ofLine_64 : decode cX6_ofLine 64 = .ok (.getfield 167, 3) := by decide +kernel
theorem dX6_ofLine_67 : decode cX6_ofLine 67 = .ok (.iload_n 1, 1) := by decide +kernel
theorem dX6_ofLine_68 : decode cX6_ofLine 68 = .ok (.iaload, 1) := by decide +kernel
theorem dX6_ofLine_69 : decode cX6_ofLine 69 = .ok (.ireturn, 1) := by decide +kernel
theorem dX6_ofLine_70 : decode cX6_ofLine 70 = .ok (.aload_n 0, 1) := by decide +kernel
theorem dX6_ofLine_71 : decode cX6_ofLine 71 = .ok (.getfield 10, 3) := by decide +kernel
theorem dX6_ofLine_74 : decode cX6_ofLine 74 = .ok (.getfield 170, 3) := by decide +kernel
theorem dX6_ofLine_77 : decode cX6_ofLine 77 = .ok (.iload_n 1, 1) := by decide +kernel
theorem dX6_ofLine_78 : decode cX6_ofLine 78 = .ok (.iaload, 1) := by decide +kernel
theorem dX6_ofLine_79 : decode cX6_ofLine 79 = .ok (.ireturn, 1) := by decide +kernel
theorem dX6_ofLine_80 : decode cX6_ofLine 80 = .ok (.aload_n 0, 1) := by decide +kernel
theorem dX6_ofLine_81 : decode cX6_ofLine 81 = .ok (.getfield 10, 3) := by decide +kernel
theorem dX6_ofLine_84 : decode cX6_ofLine 84 = .ok (.getfield 116, 3) := by decide +kernel
theorem dX6_ofLine_87 : decode cX6_ofLine 87 = .ok (.iload_n 1, 1) := by decide +kernel
theorem dX6_ofLine_88 : decode cX6_ofLine 88 = .ok (.iaload, 1) := by decide +kernel
theorem dX6_ofLine_89 : decode cX6_ofLine 89 = .ok (.ireturn, 1) := by decide +kernel
theorem dX6_ofLine_90 : decode cX6_ofLine 90 = .ok (.aload_n 0, 1) := by decide +kernel
theorem dX6_ofLine_91 : decode cX6_ofLine 91 = .ok (.getfield 10, 3) := by decide +kernel
theorem dX6_ofLine_94 : decode cX6_ofLine 94 = .ok (.getfield 173, 3) := by decide +kernel
theorem dX6_ofLine_97 : decode cX6_ofLine 97 = .ok (.iload_n 1, 1) := by decide +kernel
theorem dX6_ofLine_98 : decode cX6_ofLine 98 = .ok (.invokestatic 151, 3) := by decide +kernel
theorem dX6_ofLine_101 : decode cX6_ofLine 101 = .ok (.ifCond .eq 7, 3) := by decide +kernel
theorem dX6_ofLine_104 : decode cX6_ofLine 104 = .ok (.iconst 1, 1) := by decide +kernel
theorem dX6_ofLine_105 : decode cX6_ofLine 105 = .ok (.goto 4, 3) := by decide +kernel
theorem dX6_ofLine_108 : decode cX6_ofLine 108 = .ok (.iconst 0, 1) := by decide +kernel
theorem dX6_ofLine_109 : decode cX6_ofLine 109 = .ok (.ireturn, 1) := by decide +kernel
theorem dX6_ofLine_110 : decode cX6_ofLine 110 = .ok (.aload_n 0, 1) := by decide +kernel
theorem dX6_ofLine_111 : decode cX6_ofLine 111 = .ok (.getfield 21, 3) := by decide +kernel
theorem dX6_ofLine_114 : decode cX6_ofLine 114 = .ok (.getfield 176, 3) := by decide +kernel
theorem dX6_ofLine_117 : decode cX6_ofLine 117 = .ok (.iload_n 1, 1) := by decide +kernel
theorem dX6_ofLine_118 : decode cX6_ofLine 118 = .ok (.invokestatic 151, 3) := by decide +kernel
theorem dX6_ofLine_121 : decode cX6_ofLine 121 = .ok (.ifCond .eq 7, 3) := by decide +kernel
theorem dX6_ofLine_124 : decode cX6_ofLine 124 = .ok (.iconst 1, 1) := by decide +kernel
theorem dX6_ofLine_125 : decode cX6_ofLine 125 = .ok (.goto 4, 3) := by decide +kernel
theorem dX6_ofLine_128 : decode cX6_ofLine 128 = .ok (.iconst 0, 1) := by decide +kernel
theorem dX6_ofLine_129 : decode cX6_ofLine 129 = .ok (.ireturn, 1) := by decide +kernel
theorem dX6_ofLine_130 : decode cX6_ofLine 130 = .ok (.aload_n 0, 1) := by decide +kernel
theorem dX6_ofLine_131 : decode cX6_ofLine 131 = .ok (.getfield 21, 3) := by decide +kernel
theorem dX6_ofLine_134 : decode cX6_ofLine 134 = .ok (.getfield 179, 3) := by decide +kernel
theorem dX6_ofLine_137 : decode cX6_ofLine 137 = .ok (.iload_n 1, 1) := by decide +kernel
theorem dX6_ofLine_138 : decode cX6_ofLine 138 = .ok (.iaload, 1) := by decide +kernel
theorem dX6_ofLine_139 : decode cX6_ofLine 139 = .ok (.ireturn, 1) := by decide +kernel
theorem dX6_ofLine_140 : decode cX6_ofLine 140 = .ok (.aload_n 0, 1) := by decide +kernel
theorem dX6_ofLine_141 : decode cX6_ofLine 141 = .ok (.getfield 35, 3) := by decide +kernel
theorem dX6_ofLine_144 : decode cX6_ofLine 144 = .ok (.getfield 182, 3) := by decide +kernel
theorem dX6_ofLine_147 : decode cX6_ofLine 147 = .ok (.iload_n 1, 1) := by decide +kernel
theorem dX6_ofLine_148 : decode cX6_ofLine 148 = .ok (.invokestatic 151, 3) := by decide +kernel
theorem dX6_ofLine_151 : decode cX6_ofLine 151 = .ok (.ifCond .eq 7, 3) := by decide +kernel
theorem dX6_ofLine_154 : decode cX6_ofLine 154 = .ok (.iconst 1, 1) := by decide +kernel
theorem dX6_ofLine_155 : decode cX6_ofLine 155 = .ok (.goto 4, 3) := by decide +kernel
theorem dX6_ofLine_158 : decode cX6_ofLine 158 = .ok (.iconst 0, 1) := by decide +kernel
theorem dX6_ofLine_159 : decode cX6_ofLine 159 = .ok (.ireturn, 1) := by decide +kernel
theorem dX6_ofLine_160 : decode cX6_ofLine 160 = .ok (.aload_n 0, 1) := by decide +kernel
theorem dX6_ofLine_161 : decode cX6_ofLine 161 = .ok (.getfield 49, 3) := by decide +kernel
theorem dX6_ofLine_164 : decode cX6_ofLine 164 = .ok (.getfield 185, 3) := by decide +kernel
theorem dX6_ofLine_167 : decode cX6_ofLine 167 = .ok (.iconst 2, 1) := by decide +kernel
theorem dX6_ofLine_168 : decode cX6_ofLine 168 = .ok (.iload_n 1, 1) := by decide +kernel
theorem dX6_ofLine_169 : decode cX6_ofLine 169 = .ok (.imul, 1) := by decide +kernel
theorem dX6_ofLine_170 : decode cX6_ofLine 170 = .ok (.iaload, 1) := by decide +kernel
theorem dX6_ofLine_171 : decode cX6_ofLine 171 = .ok (.ireturn, 1) := by decide +kernel
theorem dX6_ofLine_172 : decode cX6_ofLine 172 = .ok (.aload_n 0, 1) := by decide +kernel
theorem dX6_ofLine_173 : decode cX6_ofLine 173 = .ok (.getfield 49, 3) := by decide +kernel
theorem dX6_ofLine_176 : decode cX6_ofLine 176 = .ok (.getfield 185, 3) := by decide +kernel
theorem dX6_ofLine_179 : decode cX6_ofLine 179 = .ok (.iconst 2, 1) := by decide +kernel
theorem dX6_ofLine_180 : decode cX6_ofLine 180 = .ok (.iload_n 1, 1) := by decide +kernel
theorem dX6_ofLine_181 : decode cX6_ofLine 181 = .ok (.imul, 1) := by decide +kernel
theorem dX6_ofLine_182 : decode cX6_ofLine 182 = .ok (.iconst 1, 1) := by decide +kernel
theorem dX6_ofLine_183 : decode cX6_ofLine 183 = .ok (.iadd, 1) := by decide +kernel
theorem dX6_ofLine_184 : decode cX6_ofLine 184 = .ok (.iaload, 1) := by decide +kernel
theorem dX6_ofLine_185 : decode cX6_ofLine 185 = .ok (.ireturn, 1) := by decide +kernel
set_option maxRecDepth 20000 in
theorem ggX6_net_X6_demandWhat : GoodIn wsX6_net wsX6_demandWhat := goodIn_ca (goodIn_r _ [10, 11, 12] (by decide +kernel) (by decide +kernel)) (goodIn_sub (fun _ h => List.mem_cons_of_mem _ (List.mem_append_right _ h)) (by decide +kernel))
set_option maxRecDepth 20000 in
theorem gX6_net_X6_demandWhat : GoodIn wsX6_net (va_wsS RX6 133 yX6_demandWhat wsX6_demandWhat) := goodIn_app (goodIn_of _ (by decide +kernel)) ggX6_net_X6_demandWhat
set_option maxRecDepth 20000 in
theorem ggX6_net_J6_bitCount_0f7a4 : GoodIn wsX6_net wsJ6_bitCount_0f7a4 := goodIn_r _ [16, 17, 18, 19] (by decide +kernel) (by decide +kernel)
set_option maxRecDepth 20000 in
theorem gX6_net_J6_bitCount_0f7a4 : GoodIn wsX6_net (va_wsS RX6 143 yJ6_bitCount_0f7a4 wsJ6_bitCount_0f7a4) := goodIn_app (goodIn_of _ (by decide +kernel)) ggX6_net_J6_bitCount_0f7a4
set_option maxRecDepth 20000 in
theorem ggX6_net_X0_allFaces : GoodIn wsX6_net wsX0_allFaces := goodIn_r _ [24, 25, 26, 27, 28, 29, 30, 31, 32, 33, 101, 102, 103, 104, 105, 70, 71, 72, 73, 74, 75, 76, 77] (by decide +kernel) (by decide +kernel)
set_option maxRecDepth 20000 in
theorem gX6_net_X0_allFaces : GoodIn wsX6_net (wsV RX6 130 RX0 yX0_allFaces wsX0_allFaces) := goodIn_app (goodIn_of _ (by decide +kernel)) ggX6_net_X0_allFaces
set_option maxRecDepth 20000 in
theorem ggX6_net_X6_handles : GoodIn wsX6_net wsX6_handles := goodIn_r _ [37, 2, 1, 5, 13, 14, 15, 16, 17, 18, 19, 20, 21, 22, 23, 24, 25, 26, 27, 28, 29, 30, 31, 32, 33, 63, 64, 65, 66, 67, 68, 69, 78, 79, 80, 81, 82, 83, 84, 85, 86, 87, 88, 89, 90, 91, 92, 70, 71, 72, 73, 74, 75, 76, 77, 101, 102, 103, 104, 105] (by decide +kernel) (by decide +kernel)
set_option maxRecDepth 20000 in
theorem gX6_net_X6_handles : GoodIn wsX6_net (wsV RX6 203 RX6 yX6_handles wsX6_handles) := goodIn_app (goodIn_of _ (by decide +kernel)) ggX6_net_X6_handles
set_option maxRecDepth 20000 in
theorem ggX6_net_X5_greatestDistance : GoodIn wsX6_net wsX5_greatestDistance := goodIn_r _ [41, 42, 43, 44, 45, 46, 47, 48, 49, 30, 50, 51, 9, 52, 53, 54, 55, 56, 57, 58, 59, 60, 61, 32, 33, 62, 70, 71, 72, 73, 74, 75, 76, 77] (by decide +kernel) (by decide +kernel)
set_option maxRecDepth 20000 in
theorem gX6_net_X5_greatestDistance : GoodIn wsX6_net (wsV RX6 206 RX5 yX5_greatestDistance wsX5_greatestDistance) := goodIn_app (goodIn_of _ (by decide +kernel)) ggX6_net_X5_greatestDistance
theorem dX6_net_0 : decode cX6_net 0 = .ok (.iload_n 1, 1) := by decide +kernel
theorem dX6_net_1 : decode cX6_net 1 = .ok (.bipush 14, 2) := by decide +kernel
theorem dX6_net_3 : decode cX6_net 3 = .ok (.invokestatic 133, 3) := by decide +kernel
theorem dX6_net_6 : decode cX6_net 6 = .ok (.iload_n 1, 1) := by decide +kernel
theorem dX6_net_7 : decode cX6_net 7 = .ok (.tableswitch 187 0 13 #[69, 77, 85, 96, 104, 115, 126, 134, 142, 150, 158, 166, 174, 179], 69) := by decide +kernel
theorem dX6_net_76 : decode cX6_net 76 = .ok (.aload_n 0, 1) := by decide +kernel
theorem dX6_net_77 : decode cX6_net 77 = .ok (.getfield 10, 3) := by decide +kernel
theorem dX6_net_80 : decode cX6_net 80 = .ok (.getfield 57, 3) := by decide +kernel
theorem dX6_net_83 : decode cX6_net 83 = .ok (.ireturn, 1) := by decide +kernel
theorem dX6_net_84 : decode cX6_net 84 = .ok (.aload_n 0, 1) := by decide +kernel
theorem dX6_net_85 : decode cX6_net 85 = .ok (.getfield 10, 3) := by decide +kernel
theorem dX6_net_88 : decode cX6_net 88 = .ok (.getfield 85, 3) := by decide +kernel
theorem dX6_net_91 : decode cX6_net 91 = .ok (.ireturn, 1) := by decide +kernel
theorem dX6_net_92 : decode cX6_net 92 = .ok (.aload_n 0, 1) := by decide +kernel
theorem dX6_net_93 : decode cX6_net 93 = .ok (.getfield 10, 3) := by decide +kernel
theorem dX6_net_96 : decode cX6_net 96 = .ok (.getfield 173, 3) := by decide +kernel
theorem dX6_net_99 : decode cX6_net 99 = .ok (.invokestatic 143, 3) := by decide +kernel
theorem dX6_net_102 : decode cX6_net 102 = .ok (.ireturn, 1) := by decide +kernel
theorem dX6_net_103 : decode cX6_net 103 = .ok (.aload_n 0, 1) := by decide +kernel
theorem dX6_net_104 : decode cX6_net 104 = .ok (.getfield 21, 3) := by decide +kernel
theorem dX6_net_107 : decode cX6_net 107 = .ok (.getfield 113, 3) := by decide +kernel
theorem dX6_net_110 : decode cX6_net 110 = .ok (.ireturn, 1) := by decide +kernel
theorem dX6_net_111 : decode cX6_net 111 = .ok (.aload_n 0, 1) := by decide +kernel
theorem dX6_net_112 : decode cX6_net 112 = .ok (.getfield 21, 3) := by decide +kernel
theorem dX6_net_115 : decode cX6_net 115 = .ok (.getfield 176, 3) := by decide +kernel
theorem dX6_net_118 : decode cX6_net 118 = .ok (.invokestatic 143, 3) := by decide +kernel
theorem dX6_net_121 : decode cX6_net 121 = .ok (.ireturn, 1) := by decide +kernel
theorem dX6_net_122 : decode cX6_net 122 = .ok (.aload_n 0, 1) := by decide +kernel
theorem dX6_net_123 : decode cX6_net 123 = .ok (.getfield 21, 3) := by decide +kernel
theorem dX6_net_126 : decode cX6_net 126 = .ok (.getfield 148, 3) := by decide +kernel
theorem dX6_net_129 : decode cX6_net 129 = .ok (.invokestatic 143, 3) := by decide +kernel
theorem dX6_net_132 : decode cX6_net 132 = .ok (.ireturn, 1) := by decide +kernel
theorem dX6_net_133 : decode cX6_net 133 = .ok (.aload_n 0, 1) := by decide +kernel
theorem dX6_net_134 : decode cX6_net 134 = .ok (.getfield 21, 3) := by decide +kernel
theorem dX6_net_137 : decode cX6_net 137 = .ok (.getfield 188, 3) := by decide +kernel
theorem dX6_net_140 : decode cX6_net 140 = .ok (.ireturn, 1) := by decide +kernel
theorem dX6_net_141 : decode cX6_net 141 = .ok (.aload_n 0, 1) := by decide +kernel
theorem dX6_net_142 : decode cX6_net 142 = .ok (.getfield 21, 3) := by decide +kernel
theorem dX6_net_145 : decode cX6_net 145 = .ok (.getfield 191, 3) := by decide +kernel
theorem dX6_net_148 : decode cX6_net 148 = .ok (.ireturn, 1) := by decide +kernel
theorem dX6_net_149 : decode cX6_net 149 = .ok (.aload_n 0, 1) := by decide +kernel
theorem dX6_net_150 : decode cX6_net 150 = .ok (.getfield 21, 3) := by decide +kernel
theorem dX6_net_153 : decode cX6_net 153 = .ok (.getfield 194, 3) := by decide +kernel
theorem dX6_net_156 : decode cX6_net 156 = .ok (.ireturn, 1) := by decide +kernel
theorem dX6_net_157 : decode cX6_net 157 = .ok (.aload_n 0, 1) := by decide +kernel
theorem dX6_net_158 : decode cX6_net 158 = .ok (.getfield 35, 3) := by decide +kernel
theorem dX6_net_161 : decode cX6_net 161 = .ok (.getfield 197, 3) := by decide +kernel
theorem dX6_net_164 : decode cX6_net 164 = .ok (.ireturn, 1) := by decide +kernel
theorem dX6_net_165 : decode cX6_net 165 = .ok (.aload_n 0, 1) := by decide +kernel
theorem dX6_net_166 : decode cX6_net 166 = .ok (.getfield 42, 3) := by decide +kernel
theorem dX6_net_169 : decode cX6_net 169 = .ok (.getfield 200, 3) := by decide +kernel
theorem dX6_net_172 : decode cX6_net 172 = .ok (.ireturn, 1) := by decide +kernel
theorem dX6_net_173 : decode cX6_net 173 = .ok (.aload_n 0, 1) := by decide +kernel
theorem dX6_net_174 : decode cX6_net 174 = .ok (.getfield 49, 3) := by decide +kernel
theorem dX6_net_177 : decode cX6_net 177 = .ok (.invokevirtual 130, 3) := by decide +kernel
theorem dX6_net_180 : decode cX6_net 180 = .ok (.ireturn, 1) := by decide +kernel
theorem dX6_net_181 : decode cX6_net 181 = .ok (.aload_n 0, 1) := by decide +kernel
theorem dX6_net_182 : decode cX6_net 182 = .ok (.invokevirtual 203, 3) := by decide +kernel
theorem dX6_net_185 : decode cX6_net 185 = .ok (.ireturn, 1) := by decide +kernel
theorem dX6_net_186 : decode cX6_net 186 = .ok (.aload_n 0, 1) := by decide +kernel
theorem dX6_net_187 : decode cX6_net 187 = .ok (.getfield 10, 3) := by decide +kernel
theorem dX6_net_190 : decode cX6_net 190 = .ok (.invokevirtual 206, 3) := by decide +kernel
theorem dX6_net_193 : decode cX6_net 193 = .ok (.ireturn, 1) := by decide +kernel
theorem dX6_net_194 : decode cX6_net 194 = .ok (.aload_n 0, 1) := by decide +kernel
theorem dX6_net_195 : decode cX6_net 195 = .ok (.getfield 53, 3) := by decide +kernel
theorem dX6_net_198 : decode cX6_net 198 = .ok (.ireturn, 1) := by decide +kernel
set_option maxRecDepth 20000 in
theorem ggX6_pair_X6_demandNth : GoodIn wsX6_pair wsX6_demandNth := goodIn_ca (goodIn_r _ [5, 6, 7] (by decide +kernel) (by decide +kernel)) (goodIn_sub (fun _ h => List.mem_cons_of_mem _ (List.mem_append_right _ h)) (by decide +kernel))
set_option maxRecDepth 20000 in
theorem gX6_pair_X6_demandNth : GoodIn wsX6_pair (va_wsS RX6 209 yX6_demandNth wsX6_demandNth) := goodIn_app (goodIn_of _ (by decide +kernel)) ggX6_pair_X6_demandNth
set_option maxRecDepth 20000 in
theorem ggX6_pair_X1_pairPoint : GoodIn wsX6_pair wsX1_pairPoint := goodIn_r _ [12, 13, 14, 15, 23, 24, 25, 26, 27, 28, 29, 30, 31, 32, 33, 34, 35, 36, 37] (by decide +kernel) (by decide +kernel)
set_option maxRecDepth 20000 in
theorem gX6_pair_X1_pairPoint : GoodIn wsX6_pair (wsV RX6 212 RX1 yX1_pairPoint wsX1_pairPoint) := goodIn_app (goodIn_of _ (by decide +kernel)) ggX6_pair_X1_pairPoint
theorem dX6_pair_0 : decode cX6_pair 0 = .ok (.iload_n 1, 1) := by decide +kernel
theorem dX6_pair_1 : decode cX6_pair 1 = .ok (.invokestatic 209, 3) := by decide +kernel
theorem dX6_pair_4 : decode cX6_pair 4 = .ok (.aload_n 0, 1) := by decide +kernel
theorem dX6_pair_5 : decode cX6_pair 5 = .ok (.getfield 21, 3) := by decide +kernel
theorem dX6_pair_8 : decode cX6_pair 8 = .ok (.iload_n 1, 1) := by decide +kernel
theorem dX6_pair_9 : decode cX6_pair 9 = .ok (.iload_n 2, 1) := by decide +kernel
theorem dX6_pair_10 : decode cX6_pair 10 = .ok (.invokevirtual 212, 3) := by decide +kernel
theorem dX6_pair_13 : decode cX6_pair 13 = .ok (.ireturn, 1) := by decide +kernel
set_option maxRecDepth 20000 in
theorem ggX6_twin_X6_demandNth : GoodIn wsX6_twin wsX6_demandNth := goodIn_ca (goodIn_r _ [5, 6, 7] (by decide +kernel) (by decide +kernel)) (goodIn_sub (fun _ h => List.mem_cons_of_mem _ (List.mem_append_right _ h)) (by decide +kernel))
set_option maxRecDepth 20000 in
theorem gX6_twin_X6_demandNth : GoodIn wsX6_twin (va_wsS RX6 209 yX6_demandNth wsX6_demandNth) := goodIn_app (goodIn_of _ (by decide +kernel)) ggX6_twin_X6_demandNth
set_option maxRecDepth 20000 in
theorem ggX6_twin_X1_twinLine : GoodIn wsX6_twin wsX1_twinLine := goodIn_r _ [12, 13, 14, 15, 23, 24, 25, 26, 27, 28, 29, 30, 31, 32, 33, 34, 35, 36, 37] (by decide +kernel) (by decide +kernel)
set_option maxRecDepth 20000 in
theorem gX6_twin_X1_twinLine : GoodIn wsX6_twin (wsV RX6 216 RX1 yX1_twinLine wsX1_twinLine) := goodIn_app (goodIn_of _ (by decide +kernel)) ggX6_twin_X1_twinLine
theorem dX6_twin_0 : decode cX6_twin 0 = .ok (.iload_n 1, 1) := by decide +kernel
theorem dX6_twin_1 : decode cX6_twin 1 = .ok (.invokestatic 209, 3) := by decide +kernel
theorem dX6_twin_4 : decode cX6_twin 4 = .ok (.aload_n 0, 1) := by decide +kernel
theorem dX6_twin_5 : decode cX6_twin 5 = .ok (.getfield 21, 3) := by decide +kernel
theorem dX6_twin_8 : decode cX6_twin 8 = .ok (.iload_n 1, 1) := by decide +kernel
theorem dX6_twin_9 : decode cX6_twin 9 = .ok (.iload_n 2, 1) := by decide +kernel
theorem dX6_twin_10 : decode cX6_twin 10 = .ok (.invokevirtual 216, 3) := by decide +kernel
theorem dX6_twin_13 : decode cX6_twin 13 = .ok (.ireturn, 1) := by decide +kernel
set_option maxRecDepth 20000 in
theorem ggX6_between_X6_demandPoint : GoodIn wsX6_between wsX6_demandPoint := goodIn_ca (goodIn_r _ [7, 8, 9, 2, 104, 105, 106, 107, 108, 109, 110, 111, 112, 113, 114, 115, 116, 117, 118] (by decide +kernel) (by decide +kernel)) (goodIn_sub (fun _ h => List.mem_cons_of_mem _ (List.mem_append_left _ (List.mem_append_right _ h))) (by decide +kernel))
set_option maxRecDepth 20000 in
theorem gX6_between_X6_demandPoint : GoodIn wsX6_between (wsV RX6 74 RX6 yX6_demandPoint wsX6_demandPoint) := goodIn_app (goodIn_of _ (by decide +kernel)) ggX6_between_X6_demandPoint
set_option maxRecDepth 20000 in
theorem ggX6_between_X6_demandUnlike : GoodIn wsX6_between wsX6_demandUnlike := goodIn_ca (goodIn_r _ [12, 13, 14] (by decide +kernel) (by decide +kernel)) (goodIn_sub (fun _ h => List.mem_cons_of_mem _ (List.mem_append_right _ h)) (by decide +kernel))
set_option maxRecDepth 20000 in
theorem gX6_between_X6_demandUnlike : GoodIn wsX6_between (va_wsS RX6 78 yX6_demandUnlike wsX6_demandUnlike) := goodIn_app (goodIn_of _ (by decide +kernel)) ggX6_between_X6_demandUnlike
set_option maxRecDepth 20000 in
theorem ggX6_between_X6_demandWhat : GoodIn wsX6_between wsX6_demandWhat := goodIn_ca (goodIn_r _ [17, 13, 14] (by decide +kernel) (by decide +kernel)) (goodIn_sub (fun _ h => List.mem_cons_of_mem _ (List.mem_append_right _ h)) (by decide +kernel))
set_option maxRecDepth 20000 in
theorem gX6_between_X6_demandWhat : GoodIn wsX6_between (va_wsS RX6 133 yX6_demandWhat wsX6_demandWhat) := goodIn_app (goodIn_of _ (by decide +kernel)) ggX6_between_X6_demandWhat
set_option maxRecDepth 20000 in
theorem ggX6_between_X4_countWays : GoodIn wsX6_between wsX4_countWays := goodIn_r _ [22, 23, 24, 25, 26, 27, 21, 28, 29, 6, 30, 31, 32, 33, 34, 35, 36, 37, 38, 39, 40, 41, 42, 43, 44, 119, 120, 121, 122, 111, 112, 113, 114, 115, 116, 117, 118] (by decide +kernel) (by decide +kernel)
set_option maxRecDepth 20000 in
theorem gX6_between_X4_countWays : GoodIn wsX6_between (wsV RX6 219 RX4 yX4_countWays wsX4_countWays) := goodIn_app (goodIn_of _ (by decide +kernel)) ggX6_between_X4_countWays
set_option maxRecDepth 20000 in
theorem ggX6_between_X4_countLineWays : GoodIn wsX6_between wsX4_countLineWays := goodIn_r _ [48, 23, 24, 25, 26, 27, 21, 28, 29, 6, 30, 31, 32, 33, 34, 35, 36, 37, 38, 39, 40, 41, 42, 43, 44, 119, 120, 121, 122, 111, 112, 113, 114, 115, 116, 117, 118] (by decide +kernel) (by decide +kernel)
set_option maxRecDepth 20000 in
theorem gX6_between_X4_countLineWays : GoodIn wsX6_between (wsV RX6 222 RX4 yX4_countLineWays wsX4_countLineWays) := goodIn_app (goodIn_of _ (by decide +kernel)) ggX6_between_X4_countLineWays
set_option maxRecDepth 20000 in
theorem ggX6_between_X5_distance : GoodIn wsX6_between wsX5_distance := goodIn_r _ [53, 29, 6, 30, 54, 55, 56, 52, 57, 58, 59, 60, 61, 62, 63, 64, 65, 66, 111, 112, 113, 114, 115, 116, 117, 118] (by decide +kernel) (by decide +kernel)
set_option maxRecDepth 20000 in
theorem gX6_between_X5_distance : GoodIn wsX6_between (wsV RX6 225 RX5 yX5_distance wsX5_distance) := goodIn_app (goodIn_of _ (by decide +kernel)) ggX6_between_X5_distance
set_option maxRecDepth 20000 in
theorem ggX6_between_X4_gap : GoodIn wsX6_between wsX4_gap := goodIn_r _ [70, 23, 71, 60, 61, 52, 62, 63, 64, 65, 66, 29, 6, 30, 72, 73, 74, 75, 58, 76, 77, 78, 79, 80, 81, 82, 83, 84, 85, 21, 86, 87, 88, 89, 90, 119, 120, 121, 122, 111, 112, 113, 114, 115, 116, 117, 118] (by decide +kernel) (by decide +kernel)
set_option maxRecDepth 20000 in
theorem gX6_between_X4_gap : GoodIn wsX6_between (wsV RX6 228 RX4 yX4_gap wsX4_gap) := goodIn_app (goodIn_of _ (by decide +kernel)) ggX6_between_X4_gap
set_option maxRecDepth 20000 in
theorem ggX6_between_X4_side : GoodIn wsX6_between wsX4_side := goodIn_r _ [94, 23, 95, 96, 97, 52, 98, 58, 29, 6, 30, 99, 100, 101, 102, 64, 65, 76, 77, 78, 79, 80, 81, 82, 72, 73, 74, 75, 119, 120, 121, 122, 111, 112, 113, 114, 115, 116, 117, 118] (by decide +kernel) (by decide +kernel)
set_option maxRecDepth 20000 in
theorem gX6_between_X4_side : GoodIn wsX6_between (wsV RX6 231 RX4 yX4_side wsX4_side) := goodIn_app (goodIn_of _ (by decide +kernel)) ggX6_between_X4_side
set_option maxRecDepth 20000 in
theorem ggX6_between_X5_linesOutOf : GoodIn wsX6_between wsX5_linesOutOf := goodIn_r _ [98, 58, 29, 6, 30, 99, 100, 101, 52, 102, 64, 65, 111, 112, 113, 114, 115, 116, 117, 118] (by decide +kernel) (by decide +kernel)
set_option maxRecDepth 20000 in
theorem gX6_between_X5_linesOutOf : GoodIn wsX6_between (wsV RX6 234 RX5 yX5_linesOutOf wsX5_linesOutOf) := goodIn_app (goodIn_of _ (by decide +kernel)) ggX6_between_X5_linesOutOf
theorem dX6_between_0 : decode cX6_between 0 = .ok (.aload_n 0, 1) := by decide +kernel
theorem dX6_between_1 : decode cX6_between 1 = .ok (.iload_n 1, 1) := by decide +kernel
theorem dX6_between_2 : decode cX6_between 2 = .ok (.invokevirtual 74, 3) := by decide +kernel
theorem dX6_between_5 : decode cX6_between 5 = .ok (.aload_n 0, 1) := by decide +kernel
theorem dX6_between_6 : decode cX6_between 6 = .ok (.iload_n 2, 1) := by decide +kernel
theorem dX6_between_7 : decode cX6_between 7 = .ok (.invokevirtual 74, 3) := by decide +kernel
