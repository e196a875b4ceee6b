set_option maxRecDepth 20000 in
theorem gX1_joinAtPoint_X5_standingAt : GoodIn wsX1_joinAtPoint (wsV RX1 85 RX5 yX5_standingAt wsX5_standingAt) := goodIn_app (goodIn_of _ (by decide +kernel)) ggX1_joinAtPoint_X5_standingAt
set_option maxRecDepth 20000 in
theorem ggX1_joinAtPoint_X6_has : GoodIn wsX1_joinAtPoint wsX6_has := goodIn_r _ [29] (by decide +kernel) (by decide +kernel)
set_option maxRecDepth 20000 in
theorem gX1_joinAtPoint_X6_has_n89 : GoodIn wsX1_joinAtPoint (wsX6_has) := ggX1_joinAtPoint_X6_has
set_option maxRecDepth 20000 in
theorem ggX1_joinAtPoint_X1_join : GoodIn wsX1_joinAtPoint wsX1_join := goodIn_r _ [34, 35, 36, 37, 38, 1, 2, 39, 40, 41, 42, 43, 44, 45, 46, 47, 48, 49, 50, 51, 52, 53, 54, 55, 56, 57, 58, 59, 60, 61] (by decide +kernel) (by decide +kernel)
set_option maxRecDepth 20000 in
theorem gX1_joinAtPoint_X1_join : GoodIn wsX1_joinAtPoint (wsV RX1 127 RX1 yX1_join wsX1_join) := goodIn_app (goodIn_of _ (by decide +kernel)) ggX1_joinAtPoint_X1_join
theorem dX1_joinAtPoint_0 : decode cX1_joinAtPoint 0 = .ok (.aload_n 0, 1) := by decide +kernel
theorem dX1_joinAtPoint_1 : decode cX1_joinAtPoint 1 = .ok (.getfield 55, 3) := by decide +kernel
theorem dX1_joinAtPoint_4 : decode cX1_joinAtPoint 4 = .ok (.invokevirtual 101, 3) := by decide +kernel
theorem dX1_joinAtPoint_7 : decode cX1_joinAtPoint 7 = .ok (.iconst 1, 1) := by decide +kernel
theorem dX1_joinAtPoint_8 : decode cX1_joinAtPoint 8 = .ok (.iload_n 1, 1) := by decide +kernel
theorem dX1_joinAtPoint_9 : decode cX1_joinAtPoint 9 = .ok (.ishl, 1) := by decide +kernel
theorem dX1_joinAtPoint_10 : decode cX1_joinAtPoint 10 = .ok (.iconst (-1), 1) := by decide +kernel
theorem dX1_joinAtPoint_11 : decode cX1_joinAtPoint 11 = .ok (.ixor, 1) := by decide +kernel
theorem dX1_joinAtPoint_12 : decode cX1_joinAtPoint 12 = .ok (.iand, 1) := by decide +kernel
theorem dX1_joinAtPoint_13 : decode cX1_joinAtPoint 13 = .ok (.istore_n 3, 1) := by decide +kernel
theorem dX1_joinAtPoint_14 : decode cX1_joinAtPoint 14 = .ok (.aload_n 0, 1) := by decide +kernel
theorem dX1_joinAtPoint_15 : decode cX1_joinAtPoint 15 = .ok (.getfield 55, 3) := by decide +kernel
theorem dX1_joinAtPoint_18 : decode cX1_joinAtPoint 18 = .ok (.aload_n 0, 1) := by decide +kernel
theorem dX1_joinAtPoint_19 : decode cX1_joinAtPoint 19 = .ok (.getfield 55, 3) := by decide +kernel
theorem dX1_joinAtPoint_22 : decode cX1_joinAtPoint 22 = .ok (.iload_n 2, 1) := by decide +kernel
theorem dX1_joinAtPoint_23 : decode cX1_joinAtPoint 23 = .ok (.iload_n 1, 1) := by decide +kernel
theorem dX1_joinAtPoint_24 : decode cX1_joinAtPoint 24 = .ok (.invokevirtual 124, 3) := by decide +kernel
theorem dX1_joinAtPoint_27 : decode cX1_joinAtPoint 27 = .ok (.iload_n 3, 1) := by decide +kernel
theorem dX1_joinAtPoint_28 : decode cX1_joinAtPoint 28 = .ok (.aload_n 0, 1) := by decide +kernel
theorem dX1_joinAtPoint_29 : decode cX1_joinAtPoint 29 = .ok (.getfield 55, 3) := by decide +kernel
theorem dX1_joinAtPoint_32 : decode cX1_joinAtPoint 32 = .ok (.getfield 105, 3) := by decide +kernel
theorem dX1_joinAtPoint_35 : decode cX1_joinAtPoint 35 = .ok (.invokevirtual 108, 3) := by decide +kernel
theorem dX1_joinAtPoint_38 : decode cX1_joinAtPoint 38 = .ok (.istore 4, 2) := by decide +kernel
theorem dX1_joinAtPoint_40 : decode cX1_joinAtPoint 40 = .ok (.iload_n 2, 1) := by decide +kernel
theorem dX1_joinAtPoint_41 : decode cX1_joinAtPoint 41 = .ok (.iconst 1, 1) := by decide +kernel
theorem dX1_joinAtPoint_42 : decode cX1_joinAtPoint 42 = .ok (.iadd, 1) := by decide +kernel
theorem dX1_joinAtPoint_43 : decode cX1_joinAtPoint 43 = .ok (.istore 5, 2) := by decide +kernel
theorem dX1_joinAtPoint_45 : decode cX1_joinAtPoint 45 = .ok (.iload 5, 2) := by decide +kernel
theorem dX1_joinAtPoint_47 : decode cX1_joinAtPoint 47 = .ok (.aload_n 0, 1) := by decide +kernel
theorem dX1_joinAtPoint_48 : decode cX1_joinAtPoint 48 = .ok (.getfield 55, 3) := by decide +kernel
theorem dX1_joinAtPoint_51 : decode cX1_joinAtPoint 51 = .ok (.getfield 80, 3) := by decide +kernel
theorem dX1_joinAtPoint_54 : decode cX1_joinAtPoint 54 = .ok (.if_icmp .ge 60, 3) := by decide +kernel
theorem dX1_joinAtPoint_57 : decode cX1_joinAtPoint 57 = .ok (.aload_n 0, 1) := by decide +kernel
theorem dX1_joinAtPoint_58 : decode cX1_joinAtPoint 58 = .ok (.getfield 55, 3) := by decide +kernel
theorem dX1_joinAtPoint_61 : decode cX1_joinAtPoint 61 = .ok (.iload_n 1, 1) := by decide +kernel
theorem dX1_joinAtPoint_62 : decode cX1_joinAtPoint 62 = .ok (.invokevirtual 85, 3) := by decide +kernel
theorem dX1_joinAtPoint_65 : decode cX1_joinAtPoint 65 = .ok (.iload 5, 2) := by decide +kernel
theorem dX1_joinAtPoint_67 : decode cX1_joinAtPoint 67 = .ok (.invokestatic 89, 3) := by decide +kernel
theorem dX1_joinAtPoint_70 : decode cX1_joinAtPoint 70 = .ok (.ifCond .eq 38, 3) := by decide +kernel
theorem dX1_joinAtPoint_73 : decode cX1_joinAtPoint 73 = .ok (.iload 4, 2) := by decide +kernel
theorem dX1_joinAtPoint_75 : decode cX1_joinAtPoint 75 = .ok (.aload_n 0, 1) := by decide +kernel
theorem dX1_joinAtPoint_76 : decode cX1_joinAtPoint 76 = .ok (.getfield 55, 3) := by decide +kernel
theorem dX1_joinAtPoint_79 : decode cX1_joinAtPoint 79 = .ok (.iload 5, 2) := by decide +kernel
theorem dX1_joinAtPoint_81 : decode cX1_joinAtPoint 81 = .ok (.iload_n 1, 1) := by decide +kernel
theorem dX1_joinAtPoint_82 : decode cX1_joinAtPoint 82 = .ok (.invokevirtual 124, 3) := by decide +kernel
theorem dX1_joinAtPoint_85 : decode cX1_joinAtPoint 85 = .ok (.invokestatic 89, 3) := by decide +kernel
theorem dX1_joinAtPoint_88 : decode cX1_joinAtPoint 88 = .ok (.ifCond .eq 20, 3) := by decide +kernel
theorem dX1_joinAtPoint_91 : decode cX1_joinAtPoint 91 = .ok (.aload_n 0, 1) := by decide +kernel
theorem dX1_joinAtPoint_92 : decode cX1_joinAtPoint 92 = .ok (.aload_n 0, 1) := by decide +kernel
theorem dX1_joinAtPoint_93 : decode cX1_joinAtPoint 93 = .ok (.getfield 37, 3) := by decide +kernel
theorem dX1_joinAtPoint_96 : decode cX1_joinAtPoint 96 = .ok (.iload_n 2, 1) := by decide +kernel
theorem dX1_joinAtPoint_97 : decode cX1_joinAtPoint 97 = .ok (.iaload, 1) := by decide +kernel
theorem dX1_joinAtPoint_98 : decode cX1_joinAtPoint 98 = .ok (.aload_n 0, 1) := by decide +kernel
theorem dX1_joinAtPoint_99 : decode cX1_joinAtPoint 99 = .ok (.getfield 37, 3) := by decide +kernel
theorem dX1_joinAtPoint_102 : decode cX1_joinAtPoint 102 = .ok (.iload 5, 2) := by decide +kernel
theorem dX1_joinAtPoint_104 : decode cX1_joinAtPoint 104 = .ok (.iaload, 1) := by decide +kernel
theorem dX1_joinAtPoint_105 : decode cX1_joinAtPoint 105 = .ok (.invokevirtual 127, 3) := by decide +kernel
theorem dX1_joinAtPoint_108 : decode cX1_joinAtPoint 108 = .ok (.iinc 5 1, 3) := by decide +kernel
theorem dX1_joinAtPoint_111 : decode cX1_joinAtPoint 111 = .ok (.goto (-66), 3) := by decide +kernel
theorem dX1_joinAtPoint_114 : decode cX1_joinAtPoint 114 = .ok (.return_, 1) := by decide +kernel
theorem dX1_join_0 : decode cX1_join 0 = .ok (.iload_n 1, 1) := by decide +kernel
theorem dX1_join_1 : decode cX1_join 1 = .ok (.iload_n 2, 1) := by decide +kernel
theorem dX1_join_2 : decode cX1_join 2 = .ok (.invokestatic 130, 3) := by decide +kernel
theorem dX1_join_5 : decode cX1_join 5 = .ok (.istore_n 3, 1) := by decide +kernel
theorem dX1_join_6 : decode cX1_join 6 = .ok (.iconst 0, 1) := by decide +kernel
theorem dX1_join_7 : decode cX1_join 7 = .ok (.istore 4, 2) := by decide +kernel
theorem dX1_join_9 : decode cX1_join 9 = .ok (.iload 4, 2) := by decide +kernel
theorem dX1_join_11 : decode cX1_join 11 = .ok (.aload_n 0, 1) := by decide +kernel
theorem dX1_join_12 : decode cX1_join 12 = .ok (.getfield 55, 3) := by decide +kernel
theorem dX1_join_15 : decode cX1_join 15 = .ok (.getfield 80, 3) := by decide +kernel
theorem dX1_join_18 : decode cX1_join 18 = .ok (.if_icmp .ge 39, 3) := by decide +kernel
theorem dX1_join_21 : decode cX1_join 21 = .ok (.aload_n 0, 1) := by decide +kernel
theorem dX1_join_22 : decode cX1_join 22 = .ok (.getfield 37, 3) := by decide +kernel
theorem dX1_join_25 : decode cX1_join 25 = .ok (.iload 4, 2) := by decide +kernel
theorem dX1_join_27 : decode cX1_join 27 = .ok (.iaload, 1) := by decide +kernel
theorem dX1_join_28 : decode cX1_join 28 = .ok (.iload_n 1, 1) := by decide +kernel
theorem dX1_join_29 : decode cX1_join 29 = .ok (.if_icmp .eq 14, 3) := by decide +kernel
theorem dX1_join_32 : decode cX1_join 32 = .ok (.aload_n 0, 1) := by decide +kernel
theorem dX1_join_33 : decode cX1_join 33 = .ok (.getfield 37, 3) := by decide +kernel
theorem dX1_join_36 : decode cX1_join 36 = .ok (.iload 4, 2) := by decide +kernel
theorem dX1_join_38 : decode cX1_join 38 = .ok (.iaload, 1) := by decide +kernel
theorem dX1_join_39 : decode cX1_join 39 = .ok (.iload_n 2, 1) := by decide +kernel
theorem dX1_join_40 : decode cX1_join 40 = .ok (.if_icmp .ne 11, 3) := by decide +kernel
theorem dX1_join_43 : decode cX1_join 43 = .ok (.aload_n 0, 1) := by decide +kernel
theorem dX1_join_44 : decode cX1_join 44 = .ok (.getfield 37, 3) := by decide +kernel
theorem dX1_join_47 : decode cX1_join 47 = .ok (.iload 4, 2) := by decide +kernel
theorem dX1_join_49 : decode cX1_join 49 = .ok (.iload_n 3, 1) := by decide +kernel
theorem dX1_join_50 : decode cX1_join 50 = .ok (.iastore, 1) := by decide +kernel
theorem dX1_join_51 : decode cX1_join 51 = .ok (.iinc 4 1, 3) := by decide +kernel
theorem dX1_join_54 : decode cX1_join 54 = .ok (.goto (-45), 3) := by decide +kernel
theorem dX1_join_57 : decode cX1_join 57 = .ok (.return_, 1) := by decide +kernel
set_option maxRecDepth 20000 in
theorem ggX1_numberBlocks_X6_has : GoodIn wsX1_numberBlocks wsX6_has := goodIn_r _ [7] (by decide +kernel) (by decide +kernel)
set_option maxRecDepth 20000 in
theorem gX1_numberBlocks_X6_has_n89 : GoodIn wsX1_numberBlocks (wsX6_has) := ggX1_numberBlocks_X6_has
theorem dX1_numberBlocks_0 : decode cX1_numberBlocks 0 = .ok (.aload_n 0, 1) := by decide +kernel
theorem dX1_numberBlocks_1 : decode cX1_numberBlocks 1 = .ok (.iconst 0, 1) := by decide +kernel
theorem dX1_numberBlocks_2 : decode cX1_numberBlocks 2 = .ok (.putfield 21, 3) := by decide +kernel
theorem dX1_numberBlocks_5 : decode cX1_numberBlocks 5 = .ok (.iconst 0, 1) := by decide +kernel
theorem dX1_numberBlocks_6 : decode cX1_numberBlocks 6 = .ok (.istore_n 1, 1) := by decide +kernel
theorem dX1_numberBlocks_7 : decode cX1_numberBlocks 7 = .ok (.iload_n 1, 1) := by decide +kernel
theorem dX1_numberBlocks_8 : decode cX1_numberBlocks 8 = .ok (.aload_n 0, 1) := by decide +kernel
theorem dX1_numberBlocks_9 : decode cX1_numberBlocks 9 = .ok (.getfield 55, 3) := by decide +kernel
theorem dX1_numberBlocks_12 : decode cX1_numberBlocks 12 = .ok (.getfield 80, 3) := by decide +kernel
theorem dX1_numberBlocks_15 : decode cX1_numberBlocks 15 = .ok (.if_icmp .ge 83, 3) := by decide +kernel
theorem dX1_numberBlocks_18 : decode cX1_numberBlocks 18 = .ok (.aload_n 0, 1) := by decide +kernel
theorem dX1_numberBlocks_19 : decode cX1_numberBlocks 19 = .ok (.getfield 55, 3) := by decide +kernel
theorem dX1_numberBlocks_22 : decode cX1_numberBlocks 22 = .ok (.getfield 105, 3) := by decide +kernel
theorem dX1_numberBlocks_25 : decode cX1_numberBlocks 25 = .ok (.iload_n 1, 1) := by decide +kernel
theorem dX1_numberBlocks_26 : decode cX1_numberBlocks 26 = .ok (.invokestatic 89, 3) := by decide +kernel
theorem dX1_numberBlocks_29 : decode cX1_numberBlocks 29 = .ok (.ifCond .ne 13, 3) := by decide +kernel
theorem dX1_numberBlocks_32 : decode cX1_numberBlocks 32 = .ok (.aload_n 0, 1) := by decide +kernel
theorem dX1_numberBlocks_33 : decode cX1_numberBlocks 33 = .ok (.getfield 40, 3) := by decide +kernel
theorem dX1_numberBlocks_36 : decode cX1_numberBlocks 36 = .ok (.iload_n 1, 1) := by decide +kernel
theorem dX1_numberBlocks_37 : decode cX1_numberBlocks 37 = .ok (.iconst (-1), 1) := by decide +kernel
theorem dX1_numberBlocks_38 : decode cX1_numberBlocks 38 = .ok (.iastore, 1) := by decide +kernel
theorem dX1_numberBlocks_39 : decode cX1_numberBlocks 39 = .ok (.goto 53, 3) := by decide +kernel
theorem dX1_numberBlocks_42 : decode cX1_numberBlocks 42 = .ok (.aload_n 0, 1) := by decide +kernel
theorem dX1_numberBlocks_43 : decode cX1_numberBlocks 43 = .ok (.getfield 37, 3) := by decide +kernel
theorem dX1_numberBlocks_46 : decode cX1_numberBlocks 46 = .ok (.iload_n 1, 1) := by decide +kernel
theorem dX1_numberBlocks_47 : decode cX1_numberBlocks 47 = .ok (.iaload, 1) := by decide +kernel
theorem dX1_numberBlocks_48 : decode cX1_numberBlocks 48 = .ok (.iload_n 1, 1) := by decide +kernel
theorem dX1_numberBlocks_49 : decode cX1_numberBlocks 49 = .ok (.if_icmp .ne 26, 3) := by decide +kernel
theorem dX1_numberBlocks_52 : decode cX1_numberBlocks 52 = .ok (.aload_n 0, 1) := by decide +kernel
theorem dX1_numberBlocks_53 : decode cX1_numberBlocks 53 = .ok (.getfield 40, 3) := by decide +kernel
theorem dX1_numberBlocks_56 : decode cX1_numberBlocks 56 = .ok (.iload_n 1, 1) := by decide +kernel
theorem dX1_numberBlocks_57 : decode cX1_numberBlocks 57 = .ok (.aload_n 0, 1) := by decide +kernel
theorem dX1_numberBlocks_58 : decode cX1_numberBlocks 58 = .ok (.getfield 21, 3) := by decide +kernel
theorem dX1_numberBlocks_61 : decode cX1_numberBlocks 61 = .ok (.iastore, 1) := by decide +kernel
theorem dX1_numberBlocks_62 : decode cX1_numberBlocks 62 = .ok (.aload_n 0, 1) := by decide +kernel
theorem dX1_numberBlocks_63 : decode cX1_numberBlocks 63 = .ok (.dup, 1) := by decide +kernel
theorem dX1_numberBlocks_64 : decode cX1_numberBlocks 64 = .ok (.getfield 21, 3) := by decide +kernel
theorem dX1_numberBlocks_67 : decode cX1_numberBlocks 67 = .ok (.iconst 1, 1) := by decide +kernel
theorem dX1_numberBlocks_68 : decode cX1_numberBlocks 68 = .ok (.iadd, 1) := by decide +kernel
theorem dX1_numberBlocks_69 : decode cX1_numberBlocks 69 = .ok (.putfield 21, 3) := by decide +kernel
theorem dX1_numberBlocks_72 : decode cX1_numberBlocks 72 = .ok (.goto 20, 3) := by decide +kernel
theorem dX1_numberBlocks_75 : decode cX1_numberBlocks 75 = .ok (.aload_n 0, 1) := by decide +kernel
theorem dX1_numberBlocks_76 : decode cX1_numberBlocks 76 = .ok (.getfield 40, 3) := by decide +kernel
theorem dX1_numberBlocks_79 : decode cX1_numberBlocks 79 = .ok (.iload_n 1, 1) := by decide +kernel
theorem dX1_numberBlocks_80 : decode cX1_numberBlocks 80 = .ok (.aload_n 0, 1) := by decide +kernel
theorem dX1_numberBlocks_81 : decode cX1_numberBlocks 81 = .ok (.getfield 40, 3) := by decide +kernel
theorem dX1_numberBlocks_84 : decode cX1_numberBlocks 84 = .ok (.aload_n 0, 1) := by decide +kernel
theorem dX1_numberBlocks_85 : decode cX1_numberBlocks 85 = .ok (.getfield 37, 3) := by decide +kernel
theorem dX1_numberBlocks_88 : decode cX1_numberBlocks 88 = .ok (.iload_n 1, 1) := by decide +kernel
theorem dX1_numberBlocks_89 : decode cX1_numberBlocks 89 = .ok (.iaload, 1) := by decide +kernel
theorem dX1_numberBlocks_90 : decode cX1_numberBlocks 90 = .ok (.iaload, 1) := by decide +kernel
theorem dX1_numberBlocks_91 : decode cX1_numberBlocks 91 = .ok (.iastore, 1) := by decide +kernel
theorem dX1_numberBlocks_92 : decode cX1_numberBlocks 92 = .ok (.iinc 1 1, 3) := by decide +kernel
theorem dX1_numberBlocks_95 : decode cX1_numberBlocks 95 = .ok (.goto (-88), 3) := by decide +kernel
theorem dX1_numberBlocks_98 : decode cX1_numberBlocks 98 = .ok (.return_, 1) := by decide +kernel
set_option maxRecDepth 20000 in
theorem ggX1_findPairs_X1_isPair : GoodIn wsX1_findPairs wsX1_isPair := goodIn_r _ [9, 10, 11, 2, 12, 13, 14, 15, 16, 17, 18, 19, 20, 21, 22, 23, 24, 25, 26, 27, 28, 29, 30, 31, 32, 33, 34, 35, 36, 37, 38, 39, 40, 41, 42, 43, 44, 45, 46, 47, 48, 49, 50] (by decide +kernel) (by decide +kernel)
set_option maxRecDepth 20000 in
theorem gX1_findPairs_X1_isPair : GoodIn wsX1_findPairs (wsV RX1 135 RX1 yX1_isPair wsX1_isPair) := goodIn_app (goodIn_of _ (by decide +kernel)) ggX1_findPairs_X1_isPair
theorem dX1_findPairs_0 : decode cX1_findPairs 0 = .ok (.aload_n 0, 1) := by decide +kernel
theorem dX1_findPairs_1 : decode cX1_findPairs 1 = .ok (.iconst 0, 1) := by decide +kernel
theorem dX1_findPairs_2 : decode cX1_findPairs 2 = .ok (.putfield 24, 3) := by decide +kernel
theorem dX1_findPairs_5 : decode cX1_findPairs 5 = .ok (.iconst 0, 1) := by decide +kernel
theorem dX1_findPairs_6 : decode cX1_findPairs 6 = .ok (.istore_n 1, 1) := by decide +kernel
theorem dX1_findPairs_7 : decode cX1_findPairs 7 = .ok (.iload_n 1, 1) := by decide +kernel
theorem dX1_findPairs_8 : decode cX1_findPairs 8 = .ok (.aload_n 0, 1) := by decide +kernel
theorem dX1_findPairs_9 : decode cX1_findPairs 9 = .ok (.getfield 55, 3) := by decide +kernel
theorem dX1_findPairs_12 : decode cX1_findPairs 12 = .ok (.getfield 98, 3) := by decide +kernel
theorem dX1_findPairs_15 : decode cX1_findPairs 15 = .ok (.if_icmp .ge 78, 3) := by decide +kernel
theorem dX1_findPairs_18 : decode cX1_findPairs 18 = .ok (.iload_n 1, 1) := by decide +kernel
theorem dX1_findPairs_19 : decode cX1_findPairs 19 = .ok (.iconst 1, 1) := by decide +kernel
theorem dX1_findPairs_20 : decode cX1_findPairs 20 = .ok (.iadd, 1) := by decide +kernel
theorem dX1_findPairs_21 : decode cX1_findPairs 21 = .ok (.istore_n 2, 1) := by decide +kernel
theorem dX1_findPairs_22 : decode cX1_findPairs 22 = .ok (.iload_n 2, 1) := by decide +kernel
theorem dX1_findPairs_23 : decode cX1_findPairs 23 = .ok (.aload_n 0, 1) := by decide +kernel
theorem dX1_findPairs_24 : decode cX1_findPairs 24 = .ok (.getfield 55, 3) := by decide +kernel
theorem dX1_findPairs_27 : decode cX1_findPairs 27 = .ok (.getfield 98, 3) := by decide +kernel
theorem dX1_findPairs_30 : decode cX1_findPairs 30 = .ok (.if_icmp .ge 57, 3) := by decide +kernel
theorem dX1_findPairs_33 : decode cX1_findPairs 33 = .ok (.aload_n 0, 1) := by decide +kernel
theorem dX1_findPairs_34 : decode cX1_findPairs 34 = .ok (.iload_n 1, 1) := by decide +kernel
theorem dX1_findPairs_35 : decode cX1_findPairs 35 = .ok (.iload_n 2, 1) := by decide +kernel
theorem dX1_findPairs_36 : decode cX1_findPairs 36 = .ok (.invokevirtual 135, 3) := by decide +kernel
theorem dX1_findPairs_39 : decode cX1_findPairs 39 = .ok (.ifCond .eq 42, 3) := by decide +kernel
theorem dX1_findPairs_42 : decode cX1_findPairs 42 = .ok (.aload_n 0, 1) := by decide +kernel
theorem dX1_findPairs_43 : decode cX1_findPairs 43 = .ok (.getfield 24, 3) := by decide +kernel
theorem dX1_findPairs_46 : decode cX1_findPairs 46 = .ok (.bipush 28, 2) := by decide +kernel
theorem dX1_findPairs_48 : decode cX1_findPairs 48 = .ok (.if_icmp .ge 33, 3) := by decide +kernel
theorem dX1_findPairs_51 : decode cX1_findPairs 51 = .ok (.aload_n 0, 1) := by decide +kernel
theorem dX1_findPairs_52 : decode cX1_findPairs 52 = .ok (.getfield 43, 3) := by decide +kernel
theorem dX1_findPairs_55 : decode cX1_findPairs 55 = .ok (.aload_n 0, 1) := by decide +kernel
theorem dX1_findPairs_56 : decode cX1_findPairs 56 = .ok (.getfield 24, 3) := by decide +kernel
theorem dX1_findPairs_59 : decode cX1_findPairs 59 = .ok (.iload_n 1, 1) := by decide +kernel
theorem dX1_findPairs_60 : decode cX1_findPairs 60 = .ok (.iastore, 1) := by decide +kernel
theorem dX1_findPairs_61 : decode cX1_findPairs 61 = .ok (.aload_n 0, 1) := by decide +kernel
theorem dX1_findPairs_62 : decode cX1_findPairs 62 = .ok (.getfield 46, 3) := by decide +kernel
theorem dX1_findPairs_65 : decode cX1_findPairs 65 = .ok (.aload_n 0, 1) := by decide +kernel
theorem dX1_findPairs_66 : decode cX1_findPairs 66 = .ok (.getfield 24, 3) := by decide +kernel
theorem dX1_findPairs_69 : decode cX1_findPairs 69 = .ok (.iload_n 2, 1) := by decide +kernel
theorem dX1_findPairs_70 : decode cX1_findPairs 70 = .ok (.iastore, 1) := by decide +kernel
theorem dX1_findPairs_71 : decode cX1_findPairs 71 = .ok (.aload_n 0, 1) := by decide +kernel
theorem dX1_findPairs_72 : decode cX1_findPairs 72 = .ok (.dup, 1) := by decide +kernel
theorem dX1_findPairs_73 : decode cX1_findPairs 73 = .ok (.getfield 24, 3) := by decide +kernel
theorem dX1_findPairs_76 : decode cX1_findPairs 76 = .ok (.iconst 1, 1) := by decide +kernel
theorem dX1_findPairs_77 : decode cX1_findPairs 77 = .ok (.iadd, 1) := by decide +kernel
theorem dX1_findPairs_78 : decode cX1_findPairs 78 = .ok (.putfield 24, 3) := by decide +kernel
theorem dX1_findPairs_81 : decode cX1_findPairs 81 = .ok (.iinc 2 1, 3) := by decide +kernel
theorem dX1_findPairs_84 : decode cX1_findPairs 84 = .ok (.goto (-62), 3) := by decide +kernel
theorem dX1_findPairs_87 : decode cX1_findPairs 87 = .ok (.iinc 1 1, 3) := by decide +kernel
theorem dX1_findPairs_90 : decode cX1_findPairs 90 = .ok (.goto (-83), 3) := by decide +kernel
theorem dX1_findPairs_93 : decode cX1_findPairs 93 = .ok (.return_, 1) := by decide +kernel
set_option maxRecDepth 20000 in
theorem ggX1_isPair_X5_countParts : GoodIn wsX1_isPair wsX5_countParts := goodIn_r _ [9, 10, 11, 12, 13, 14, 15, 16, 8, 17, 18, 19, 35, 36, 37, 38, 39, 40, 41, 42] (by decide +kernel) (by decide +kernel)
set_option maxRecDepth 20000 in
theorem gX1_isPair_X5_countParts : GoodIn wsX1_isPair (wsV RX1 116 RX5 yX5_countParts wsX5_countParts) := goodIn_app (goodIn_of _ (by decide +kernel)) ggX1_isPair_X5_countParts
theorem dX1_isPair_0 : decode cX1_isPair 0 = .ok (.iconst 1, 1) := by decide +kernel
theorem dX1_isPair_1 : decode cX1_isPair 1 = .ok (.iload_n 1, 1) := by decide +kernel
theorem dX1_isPair_2 : decode cX1_isPair 2 = .ok (.ishl, 1) := by decide +kernel
theorem dX1_isPair_3 : decode cX1_isPair 3 = .ok (.iconst 1, 1) := by decide +kernel
theorem dX1_isPair_4 : decode cX1_isPair 4 = .ok (.iload_n 2, 1) := by decide +kernel
theorem dX1_isPair_5 : decode cX1_isPair 5 = .ok (.ishl, 1) := by decide +kernel
theorem dX1_isPair_6 : decode cX1_isPair 6 = .ok (.ior, 1) := by decide +kernel
theorem dX1_isPair_7 : decode cX1_isPair 7 = .ok (.istore_n 3, 1) := by decide +kernel
theorem dX1_isPair_8 : decode cX1_isPair 8 = .ok (.aload_n 0, 1) := by decide +kernel
theorem dX1_isPair_9 : decode cX1_isPair 9 = .ok (.getfield 30, 3) := by decide +kernel
theorem dX1_isPair_12 : decode cX1_isPair 12 = .ok (.iload_n 1, 1) := by decide +kernel
theorem dX1_isPair_13 : decode cX1_isPair 13 = .ok (.iaload, 1) := by decide +kernel
theorem dX1_isPair_14 : decode cX1_isPair 14 = .ok (.aload_n 0, 1) := by decide +kernel
theorem dX1_isPair_15 : decode cX1_isPair 15 = .ok (.getfield 30, 3) := by decide +kernel
theorem dX1_isPair_18 : decode cX1_isPair 18 = .ok (.iload_n 2, 1) := by decide +kernel
theorem dX1_isPair_19 : decode cX1_isPair 19 = .ok (.iaload, 1) := by decide +kernel
theorem dX1_isPair_20 : decode cX1_isPair 20 = .ok (.if_icmp .ne 44, 3) := by decide +kernel
theorem dX1_isPair_23 : decode cX1_isPair 23 = .ok (.aload_n 0, 1) := by decide +kernel
theorem dX1_isPair_24 : decode cX1_isPair 24 = .ok (.getfield 18, 3) := by decide +kernel
theorem dX1_isPair_27 : decode cX1_isPair 27 = .ok (.iload_n 3, 1) := by decide +kernel
theorem dX1_isPair_28 : decode cX1_isPair 28 = .ok (.iand, 1) := by decide +kernel
theorem dX1_isPair_29 : decode cX1_isPair 29 = .ok (.ifCond .ne 35, 3) := by decide +kernel
theorem dX1_isPair_32 : decode cX1_isPair 32 = .ok (.aload_n 0, 1) := by decide +kernel
theorem dX1_isPair_33 : decode cX1_isPair 33 = .ok (.getfield 55, 3) := by decide +kernel
theorem dX1_isPair_36 : decode cX1_isPair 36 = .ok (.aload_n 0, 1) := by decide +kernel
theorem dX1_isPair_37 : decode cX1_isPair 37 = .ok (.getfield 34, 3) := by decide +kernel
theorem dX1_isPair_40 : decode cX1_isPair 40 = .ok (.iload_n 1, 1) := by decide +kernel
theorem dX1_isPair_41 : decode cX1_isPair 41 = .ok (.iaload, 1) := by decide +kernel
theorem dX1_isPair_42 : decode cX1_isPair 42 = .ok (.iload_n 3, 1) := by decide +kernel
theorem dX1_isPair_43 : decode cX1_isPair 43 = .ok (.iconst (-1), 1) := by decide +kernel
theorem dX1_isPair_44 : decode cX1_isPair 44 = .ok (.ixor, 1) := by decide +kernel
theorem dX1_isPair_45 : decode cX1_isPair 45 = .ok (.iand, 1) := by decide +kernel
theorem dX1_isPair_46 : decode cX1_isPair 46 = .ok (.aload_n 0, 1) := by decide +kernel
theorem dX1_isPair_47 : decode cX1_isPair 47 = .ok (.getfield 55, 3) := by decide +kernel
theorem dX1_isPair_50 : decode cX1_isPair 50 = .ok (.getfield 105, 3) := by decide +kernel
theorem dX1_isPair_53 : decode cX1_isPair 53 = .ok (.invokevirtual 116, 3) := by decide +kernel
theorem dX1_isPair_56 : decode cX1_isPair 56 = .ok (.iconst 1, 1) := by decide +kernel
theorem dX1_isPair_57 : decode cX1_isPair 57 = .ok (.if_icmp .le 7, 3) := by decide +kernel
theorem dX1_isPair_60 : decode cX1_isPair 60 = .ok (.iconst 1, 1) := by decide +kernel
theorem dX1_isPair_61 : decode cX1_isPair 61 = .ok (.goto 4, 3) := by decide +kernel
theorem dX1_isPair_64 : decode cX1_isPair 64 = .ok (.iconst 0, 1) := by decide +kernel
theorem dX1_isPair_65 : decode cX1_isPair 65 = .ok (.ireturn, 1) := by decide +kernel
set_option maxRecDepth 20000 in
theorem ggX1_findTwins_X1_areTwins : GoodIn wsX1_findTwins wsX1_areTwins := goodIn_r _ [9, 2, 10, 11, 12, 13, 14, 15, 16, 17, 18, 19, 20, 21, 22, 23, 24, 25, 26, 27, 28, 29, 30, 31, 32, 33, 34, 35, 36, 37, 38, 39, 40, 41, 42, 43, 44, 45, 46, 47, 48, 49, 50, 51, 52, 53] (by decide +kernel) (by decide +kernel)
set_option maxRecDepth 20000 in
theorem gX1_findTwins_X1_areTwins : GoodIn wsX1_findTwins (wsV RX1 138 RX1 yX1_areTwins wsX1_areTwins) := goodIn_app (goodIn_of _ (by decide +kernel)) ggX1_findTwins_X1_areTwins
theorem dX1_findTwins_0 : decode cX1_findTwins 0 = .ok (.aload_n 0, 1) := by decide +kernel
theorem dX1_findTwins_1 : decode cX1_findTwins 1 = .ok (.iconst 0, 1) := by decide +kernel
theorem dX1_findTwins_2 : decode cX1_findTwins 2 = .ok (.putfield 27, 3) := by decide +kernel
theorem dX1_findTwins_5 : decode cX1_findTwins 5 = .ok (.iconst 0, 1) := by decide +kernel
theorem dX1_findTwins_6 : decode cX1_findTwins 6 = .ok (.istore_n 1, 1) := by decide +kernel
theorem dX1_findTwins_7 : decode cX1_findTwins 7 = .ok (.iload_n 1, 1) := by decide +kernel
theorem dX1_findTwins_8 : decode cX1_findTwins 8 = .ok (.aload_n 0, 1) := by decide +kernel
theorem dX1_findTwins_9 : decode cX1_findTwins 9 = .ok (.getfield 55, 3) := by decide +kernel
theorem dX1_findTwins_12 : decode cX1_findTwins 12 = .ok (.getfield 80, 3) := by decide +kernel
theorem dX1_findTwins_15 : decode cX1_findTwins 15 = .ok (.if_icmp .ge 78, 3) := by decide +kernel
theorem dX1_findTwins_18 : decode cX1_findTwins 18 = .ok (.iload_n 1, 1) := by decide +kernel
theorem dX1_findTwins_19 : decode cX1_findTwins 19 = .ok (.iconst 1, 1) := by decide +kernel
theorem dX1_findTwins_20 : decode cX1_findTwins 20 = .ok (.iadd, 1) := by decide +kernel
theorem dX1_findTwins_21 : decode cX1_findTwins 21 = .ok (.istore_n 2, 1) := by decide +kernel
theorem dX1_findTwins_22 : decode cX1_findTwins 22 = .ok (.iload_n 2, 1) := by decide +kernel
theorem dX1_findTwins_23 : decode cX1_findTwins 23 = .ok (.aload_n 0, 1) := by decide +kernel
theorem dX1_findTwins_24 : decode cX1_findTwins 24 = .ok (.getfield 55, 3) := by decide +kernel
theorem dX1_findTwins_27 : decode cX1_findTwins 27 = .ok (.getfield 80, 3) := by decide +kernel
theorem dX1_findTwins_30 : decode cX1_findTwins 30 = .ok (.if_icmp .ge 57, 3) := by decide +kernel
theorem dX1_findTwins_33 : decode cX1_findTwins 33 = .ok (.aload_n 0, 1) := by decide +kernel
theorem dX1_findTwins_34 : decode cX1_findTwins 34 = .ok (.iload_n 1, 1) := by decide +kernel
theorem dX1_findTwins_35 : decode cX1_findTwins 35 = .ok (.iload_n 2, 1) := by decide +kernel
theorem dX1_findTwins_36 : decode cX1_findTwins 36 = .ok (.invokevirtual 138, 3) := by decide +kernel
theorem dX1_findTwins_39 : decode cX1_findTwins 39 = .ok (.ifCond .eq 42, 3) := by decide +kernel
theorem dX1_findTwins_42 : decode cX1_findTwins 42 = .ok (.aload_n 0, 1) := by decide +kernel
theorem dX1_findTwins_43 : decode cX1_findTwins 43 = .ok (.getfield 27, 3) := by decide +kernel
theorem dX1_findTwins_46 : decode cX1_findTwins 46 = .ok (.bipush 120, 2) := by decide +kernel
theorem dX1_findTwins_48 : decode cX1_findTwins 48 = .ok (.if_icmp .ge 33, 3) := by decide +kernel
theorem dX1_findTwins_51 : decode cX1_findTwins 51 = .ok (.aload_n 0, 1) := by decide +kernel
theorem dX1_findTwins_52 : decode cX1_findTwins 52 = .ok (.getfield 49, 3) := by decide +kernel
theorem dX1_findTwins_55 : decode cX1_findTwins 55 = .ok (.aload_n 0, 1) := by decide +kernel
theorem dX1_findTwins_56 : decode cX1_findTwins 56 = .ok (.getfield 27, 3) := by decide +kernel
theorem dX1_findTwins_59 : decode cX1_findTwins 59 = .ok (.iload_n 1, 1) := by decide +kernel
theorem dX1_findTwins_60 : decode cX1_findTwins 60 = .ok (.iastore, 1) := by decide +kernel
theorem dX1_findTwins_61 : decode cX1_findTwins 61 = .ok (.aload_n 0, 1) := by decide +kernel
theorem dX1_findTwins_62 : decode cX1_findTwins 62 = .ok (.getfield 52, 3) := by decide +kernel
theorem dX1_findTwins_65 : decode cX1_findTwins 65 = .ok (.aload_n 0, 1) := by decide +kernel
theorem dX1_findTwins_66 : decode cX1_findTwins 66 = .ok (.getfield 27, 3) := by decide +kernel
theorem dX1_findTwins_69 : decode cX1_findTwins 69 = .ok (.iload_n 2, 1) := by decide +kernel
theorem dX1_findTwins_70 : decode cX1_findTwins 70 = .ok (.iastore, 1) := by decide +kernel
theorem dX1_findTwins_71 : decode cX1_findTwins 71 = .ok (.aload_n 0, 1) := by decide +kernel
theorem dX1_findTwins_72 : decode cX1_findTwins 72 = .ok (.dup, 1) := by decide +kernel
theorem dX1_findTwins_73 : decode cX1_findTwins 73 = .ok (.getfield 27, 3) := by decide +kernel
theorem dX1_findTwins_76 : decode cX1_findTwins 76 = .ok (.iconst 1, 1) := by decide +kernel
theorem dX1_findTwins_77 : decode cX1_findTwins 77 = .ok (.iadd, 1) := by decide +kernel
theorem dX1_findTwins_78 : decode cX1_findTwins 78 = .ok (.putfield 27, 3) := by decide +kernel
theorem dX1_findTwins_81 : decode cX1_findTwins 81 = .ok (.iinc 2 1, 3) := by decide +kernel
theorem dX1_findTwins_84 : decode cX1_findTwins 84 = .ok (.goto (-62), 3) := by decide +kernel
theorem dX1_findTwins_87 : decode cX1_findTwins 87 = .ok (.iinc 1 1, 3) := by decide +kernel
theorem dX1_findTwins_90 : decode cX1_findTwins 90 = .ok (.goto (-83), 3) := by decide +kernel
theorem dX1_findTwins_93 : decode cX1_findTwins 93 = .ok (.return_, 1) := by decide +kernel
set_option maxRecDepth 20000 in
theorem ggX1_areTwins_X5_allPoints : GoodIn wsX1_areTwins wsX5_allPoints := goodIn_r _ [8, 9, 38, 39, 40, 41, 42, 43, 44, 45] (by decide +kernel) (by decide +kernel)
set_option maxRecDepth 20000 in
theorem gX1_areTwins_X5_allPoints : GoodIn wsX1_areTwins (wsV RX1 101 RX5 yX5_allPoints wsX5_allPoints) := goodIn_app (goodIn_of _ (by decide +kernel)) ggX1_areTwins_X5_allPoints
set_option maxRecDepth 20000 in
theorem ggX1_areTwins_X5_countParts : GoodIn wsX1_areTwins wsX5_countParts := goodIn_r _ [13, 9, 14, 15, 16, 17, 18, 19, 7, 20, 21, 22, 38, 39, 40, 41, 42, 43, 44, 45] (by decide +kernel) (by decide +kernel)
set_option maxRecDepth 20000 in
theorem gX1_areTwins_X5_countParts : GoodIn wsX1_areTwins (wsV RX1 116 RX5 yX5_countParts wsX5_countParts) := goodIn_app (goodIn_of _ (by decide +kernel)) ggX1_areTwins_X5_countParts
theorem dX1_areTwins_0 : decode cX1_areTwins 0 = .ok (.iconst 1, 1) := by decide +kernel
theorem dX1_areTwins_1 : decode cX1_areTwins 1 = .ok (.iload_n 1, 1) := by decide +kernel
theorem dX1_areTwins_2 : decode cX1_areTwins 2 = .ok (.ishl, 1) := by decide +kernel
theorem dX1_areTwins_3 : decode cX1_areTwins 3 = .ok (.iconst 1, 1) := by decide +kernel
theorem dX1_areTwins_4 : decode cX1_areTwins 4 = .ok (.iload_n 2, 1) := by decide +kernel
theorem dX1_areTwins_5 : decode cX1_areTwins 5 = .ok (.ishl, 1) := by decide +kernel
theorem dX1_areTwins_6 : decode cX1_areTwins 6 = .ok (.ior, 1) := by decide +kernel
theorem dX1_areTwins_7 : decode cX1_areTwins 7 = .ok (.istore_n 3, 1) := by decide +kernel
theorem dX1_areTwins_8 : decode cX1_areTwins 8 = .ok (.aload_n 0, 1) := by decide +kernel
theorem dX1_areTwins_9 : decode cX1_areTwins 9 = .ok (.getfield 55, 3) := by decide +kernel
theorem dX1_areTwins_12 : decode cX1_areTwins 12 = .ok (.getfield 105, 3) := by decide +kernel
theorem dX1_areTwins_15 : decode cX1_areTwins 15 = .ok (.aload_n 0, 1) := by decide +kernel
theorem dX1_areTwins_16 : decode cX1_areTwins 16 = .ok (.getfield 15, 3) := by decide +kernel
theorem dX1_areTwins_19 : decode cX1_areTwins 19 = .ok (.iconst (-1), 1) := by decide +kernel
theorem dX1_areTwins_20 : decode cX1_areTwins 20 = .ok (.ixor, 1) := by decide +kernel
theorem dX1_areTwins_21 : decode cX1_areTwins 21 = .ok (.iand, 1) := by decide +kernel
theorem dX1_areTwins_22 : decode cX1_areTwins 22 = .ok (.iload_n 3, 1) := by decide +kernel
theorem dX1_areTwins_23 : decode cX1_areTwins 23 = .ok (.iand, 1) := by decide +kernel
theorem dX1_areTwins_24 : decode cX1_areTwins 24 = .ok (.iload_n 3, 1) := by decide +kernel
theorem dX1_areTwins_25 : decode cX1_areTwins 25 = .ok (.if_icmp .ne 39, 3) := by decide +kernel
theorem dX1_areTwins_28 : decode cX1_areTwins 28 = .ok (.aload_n 0, 1) := by decide +kernel
theorem dX1_areTwins_29 : decode cX1_areTwins 29 = .ok (.getfield 55, 3) := by decide +kernel
theorem dX1_areTwins_32 : decode cX1_areTwins 32 = .ok (.aload_n 0, 1) := by decide +kernel
theorem dX1_areTwins_33 : decode cX1_areTwins 33 = .ok (.getfield 55, 3) := by decide +kernel
theorem dX1_areTwins_36 : decode cX1_areTwins 36 = .ok (.invokevirtual 101, 3) := by decide +kernel
theorem dX1_areTwins_39 : decode cX1_areTwins 39 = .ok (.aload_n 0, 1) := by decide +kernel
theorem dX1_areTwins_40 : decode cX1_areTwins 40 = .ok (.getfield 55, 3) := by decide +kernel
theorem dX1_areTwins_43 : decode cX1_areTwins 43 = .ok (.getfield 105, 3) := by decide +kernel
theorem dX1_areTwins_46 : decode cX1_areTwins 46 = .ok (.iload_n 3, 1) := by decide +kernel
theorem dX1_areTwins_47 : decode cX1_areTwins 47 = .ok (.iconst (-1), 1) := by decide +kernel
theorem dX1_areTwins_48 : decode cX1_areTwins 48 = .ok (.ixor, 1) := by decide +kernel
theorem dX1_areTwins_49 : decode cX1_areTwins 49 = .ok (.iand, 1) := by decide +kernel
theorem dX1_areTwins_50 : decode cX1_areTwins 50 = .ok (.invokevirtual 116, 3) := by decide +kernel
theorem dX1_areTwins_53 : decode cX1_areTwins 53 = .ok (.aload_n 0, 1) := by decide +kernel
theorem dX1_areTwins_54 : decode cX1_areTwins 54 = .ok (.getfield 9, 3) := by decide +kernel
theorem dX1_areTwins_57 : decode cX1_areTwins 57 = .ok (.if_icmp .le 7, 3) := by decide +kernel
theorem dX1_areTwins_60 : decode cX1_areTwins 60 = .ok (.iconst 1, 1) := by decide +kernel
theorem dX1_areTwins_61 : decode cX1_areTwins 61 = .ok (.goto 4, 3) := by decide +kernel
theorem dX1_areTwins_64 : decode cX1_areTwins 64 = .ok (.iconst 0, 1) := by decide +kernel
theorem dX1_areTwins_65 : decode cX1_areTwins 65 = .ok (.ireturn, 1) := by decide +kernel
theorem dX2_init_0 : decode cX2_init 0 = .ok (.aload_n 0, 1) := by decide +kernel
theorem dX2_init_1 : decode cX2_init 1 = .ok (.invokespecial 3, 3) := by decide +kernel
theorem dX2_init_4 : decode cX2_init 4 = .ok (.aload_n 0, 1) := by decide +kernel
theorem dX2_init_5 : decode cX2_init 5 = .ok (.bipush 8, 2) := by decide +kernel
theorem dX2_init_7 : decode cX2_init 7 = .ok (.bipush 8, 2) := by decide +kernel
theorem dX2_init_9 : decode cX2_init 9 = .ok (.multianewarray 9 2, 4) := by decide +kernel
theorem dX2_init_13 : decode cX2_init 13 = .ok (.putfield 11, 3) := by decide +kernel
theorem dX2_init_16 : decode cX2_init 16 = .ok (.aload_n 0, 1) := by decide +kernel
theorem dX2_init_17 : decode cX2_init 17 = .ok (.iconst 0, 1) := by decide +kernel
theorem dX2_init_18 : decode cX2_init 18 = .ok (.putfield 16, 3) := by decide +kernel
theorem dX2_init_21 : decode cX2_init 21 = .ok (.aload_n 0, 1) := by decide +kernel
theorem dX2_init_22 : decode cX2_init 22 = .ok (.iconst (-1), 1) := by decide +kernel
theorem dX2_init_23 : decode cX2_init 23 = .ok (.putfield 20, 3) := by decide +kernel
theorem dX2_init_26 : decode cX2_init 26 = .ok (.aload_n 0, 1) := by decide +kernel
theorem dX2_init_27 : decode cX2_init 27 = .ok (.bipush 8, 2) := by decide +kernel
theorem dX2_init_29 : decode cX2_init 29 = .ok (.newarray .int, 2) := by decide +kernel
theorem dX2_init_31 : decode cX2_init 31 = .ok (.putfield 23, 3) := by decide +kernel
theorem dX2_init_34 : decode cX2_init 34 = .ok (.aload_n 0, 1) := by decide +kernel
theorem dX2_init_35 : decode cX2_init 35 = .ok (.aload_n 1, 1) := by decide +kernel
theorem dX2_init_36 : decode cX2_init 36 = .ok (.putfield 27, 3) := by decide +kernel
theorem dX2_init_39 : decode cX2_init 39 = .ok (.return_, 1) := by decide +kernel
set_option maxRecDepth 20000 in
theorem ggX2_countTrees_X2_fillTable : GoodIn wsX2_countTrees wsX2_fillTable := goodIn_r _ [5, 6, 7, 8, 9, 10, 11, 12, 13, 4, 14, 19, 20, 21, 22, 23, 24, 25, 26, 27, 28, 29, 30, 31] (by decide +kernel) (by decide +kernel)
set_option maxRecDepth 20000 in
theorem gX2_countTrees_X2_fillTable : GoodIn wsX2_countTrees (wsV RX2 31 RX2 yX2_fillTable wsX2_fillTable) := goodIn_app (goodIn_of _ (by decide +kernel)) ggX2_countTrees_X2_fillTable
set_option maxRecDepth 20000 in
theorem ggX2_countTrees_X2_countByTable : GoodIn wsX2_countTrees wsX2_countByTable := goodIn_r _ [18, 7, 6, 19, 20, 21, 22, 23, 24, 25, 26, 27, 28, 29, 30, 31] (by decide +kernel) (by decide +kernel)
set_option maxRecDepth 20000 in
theorem gX2_countTrees_X2_countByTable : GoodIn wsX2_countTrees (wsV RX2 34 RX2 yX2_countByTable wsX2_countByTable) := goodIn_app (goodIn_of _ (by decide +kernel)) ggX2_countTrees_X2_countByTable
theorem dX2_countTrees_0 : decode cX2_countTrees 0 = .ok (.aload_n 0, 1) := by decide +kernel
theorem dX2_countTrees_1 : decode cX2_countTrees 1 = .ok (.invokevirtual 31, 3) := by decide +kernel
theorem dX2_countTrees_4 : decode cX2_countTrees 4 = .ok (.aload_n 0, 1) := by decide +kernel
theorem dX2_countTrees_5 : decode cX2_countTrees 5 = .ok (.invokevirtual 34, 3) := by decide +kernel
theorem dX2_countTrees_8 : decode cX2_countTrees 8 = .ok (.lreturn, 1) := by decide +kernel
set_option maxRecDepth 20000 in
theorem ggX2_fillTable_X6_has : GoodIn wsX2_fillTable wsX6_has := goodIn_r _ [5] (by decide +kernel) (by decide +kernel)
set_option maxRecDepth 20000 in
theorem gX2_fillTable_X6_has_n50 : GoodIn wsX2_fillTable (wsX6_has) := ggX2_fillTable_X6_has
set_option maxRecDepth 20000 in
theorem ggX2_fillTable_X2_addToTable : GoodIn wsX2_fillTable wsX2_addToTable := goodIn_r _ [10, 1, 11, 12, 13, 14, 15] (by decide +kernel) (by decide +kernel)
set_option maxRecDepth 20000 in
theorem gX2_fillTable_X2_addToTable : GoodIn wsX2_fillTable (wsV RX2 38 RX2 yX2_addToTable wsX2_addToTable) := goodIn_app (goodIn_of _ (by decide +kernel)) ggX2_fillTable_X2_addToTable
theorem dX2_fillTable_0 : decode cX2_fillTable 0 = .ok (.iconst 0, 1) := by decide +kernel
theorem dX2_fillTable_1 : decode cX2_fillTable 1 = .ok (.istore_n 1, 1) := by decide +kernel
theorem dX2_fillTable_2 : decode cX2_fillTable 2 = .ok (.iload_n 1, 1) := by decide +kernel
theorem dX2_fillTable_3 : decode cX2_fillTable 3 = .ok (.bipush 8, 2) := by decide +kernel
theorem dX2_fillTable_5 : decode cX2_fillTable 5 = .ok (.if_icmp .ge 32, 3) := by decide +kernel
theorem dX2_fillTable_8 : decode cX2_fillTable 8 = .ok (.iconst 0, 1) := by decide +kernel
theorem dX2_fillTable_9 : decode cX2_fillTable 9 = .ok (.istore_n 2, 1) := by decide +kernel
theorem dX2_fillTable_10 : decode cX2_fillTable 10 = .ok (.iload_n 2, 1) := by decide +kernel
theorem dX2_fillTable_11 : decode cX2_fillTable 11 = .ok (.bipush 8, 2) := by decide +kernel
theorem dX2_fillTable_13 : decode cX2_fillTable 13 = .ok (.if_icmp .ge 18, 3) := by decide +kernel
theorem dX2_fillTable_16 : decode cX2_fillTable 16 = .ok (.aload_n 0, 1) := by decide +kernel
theorem dX2_fillTable_17 : decode cX2_fillTable 17 = .ok (.getfield 11, 3) := by decide +kernel
theorem dX2_fillTable_20 : decode cX2_fillTable 20 = .ok (.iload_n 1, 1) := by decide +kernel
theorem dX2_fillTable_21 : decode cX2_fillTable 21 = .ok (.aaload, 1) := by decide +kernel
theorem dX2_fillTable_22 : decode cX2_fillTable 22 = .ok (.iload_n 2, 1) := by decide +kernel
theorem dX2_fillTable_23 : decode cX2_fillTable 23 = .ok (.lconst 0, 1) := by decide +kernel
theorem dX2_fillTable_24 : decode cX2_fillTable 24 = .ok (.lastore, 1) := by decide +kernel
theorem dX2_fillTable_25 : decode cX2_fillTable 25 = .ok (.iinc 2 1, 3) := by decide +kernel
theorem dX2_fillTable_28 : decode cX2_fillTable 28 = .ok (.goto (-18), 3) := by decide +kernel
theorem dX2_fillTable_31 : decode cX2_fillTable 31 = .ok (.iinc 1 1, 3) := by decide +kernel
theorem dX2_fillTable_34 : decode cX2_fillTable 34 = .ok (.goto (-32), 3) := by decide +kernel
theorem dX2_fillTable_37 : decode cX2_fillTable 37 = .ok (.iconst 0, 1) := by decide +kernel
theorem dX2_fillTable_38 : decode cX2_fillTable 38 = .ok (.istore_n 1, 1) := by decide +kernel
theorem dX2_fillTable_39 : decode cX2_fillTable 39 = .ok (.iload_n 1, 1) := by decide +kernel
theorem dX2_fillTable_40 : decode cX2_fillTable 40 = .ok (.aload_n 0, 1) := by decide +kernel
theorem dX2_fillTable_41 : decode cX2_fillTable 41 = .ok (.getfield 27, 3) := by decide +kernel
theorem dX2_fillTable_44 : decode cX2_fillTable 44 = .ok (.getfield 42, 3) := by decide +kernel
theorem dX2_fillTable_47 : decode cX2_fillTable 47 = .ok (.if_icmp .ge 45, 3) := by decide +kernel
theorem dX2_fillTable_50 : decode cX2_fillTable 50 = .ok (.aload_n 0, 1) := by decide +kernel
theorem dX2_fillTable_51 : decode cX2_fillTable 51 = .ok (.getfield 27, 3) := by decide +kernel
theorem dX2_fillTable_54 : decode cX2_fillTable 54 = .ok (.getfield 47, 3) := by decide +kernel
theorem dX2_fillTable_57 : decode cX2_fillTable 57 = .ok (.iload_n 1, 1) := by decide +kernel
theorem dX2_fillTable_58 : decode cX2_fillTable 58 = .ok (.invokestatic 50, 3) := by decide +kernel
theorem dX2_fillTable_61 : decode cX2_fillTable 61 = .ok (.ifCond .eq 25, 3) := by decide +kernel
theorem dX2_fillTable_64 : decode cX2_fillTable 64 = .ok (.aload_n 0, 1) := by decide +kernel
theorem dX2_fillTable_65 : decode cX2_fillTable 65 = .ok (.aload_n 0, 1) := by decide +kernel
theorem dX2_fillTable_66 : decode cX2_fillTable 66 = .ok (.getfield 27, 3) := by decide +kernel
theorem dX2_fillTable_69 : decode cX2_fillTable 69 = .ok (.getfield 54, 3) := by decide +kernel
theorem dX2_fillTable_72 : decode cX2_fillTable 72 = .ok (.iload_n 1, 1) := by decide +kernel
theorem dX2_fillTable_73 : decode cX2_fillTable 73 = .ok (.iaload, 1) := by decide +kernel
theorem dX2_fillTable_74 : decode cX2_fillTable 74 = .ok (.aload_n 0, 1) := by decide +kernel
theorem dX2_fillTable_75 : decode cX2_fillTable 75 = .ok (.getfield 27, 3) := by decide +kernel
theorem dX2_fillTable_78 : decode cX2_fillTable 78 = .ok (.getfield 57, 3) := by decide +kernel
theorem dX2_fillTable_81 : decode cX2_fillTable 81 = .ok (.iload_n 1, 1) := by decide +kernel
theorem dX2_fillTable_82 : decode cX2_fillTable 82 = .ok (.iaload, 1) := by decide +kernel
theorem dX2_fillTable_83 : decode cX2_fillTable 83 = .ok (.invokevirtual 38, 3) := by decide +kernel
theorem dX2_fillTable_86 : decode cX2_fillTable 86 = .ok (.iinc 1 1, 3) := by decide +kernel
theorem dX2_fillTable_89 : decode cX2_fillTable 89 = .ok (.goto (-50), 3) := by decide +kernel
theorem dX2_fillTable_92 : decode cX2_fillTable 92 = .ok (.return_, 1) := by decide +kernel
theorem dX2_addToTable_0 : decode cX2_addToTable 0 = .ok (.aload_n 0, 1) := by decide +kernel
theorem dX2_addToTable_1 : decode cX2_addToTable 1 = .ok (.getfield 11, 3) := by decide +kernel
theorem dX2_addToTable_4 : decode cX2_addToTable 4 = .ok (.iload_n 1, 1) := by decide +kernel
theorem dX2_addToTable_5 : decode cX2_addToTable 5 = .ok (.aaload, 1) := by decide +kernel
theorem dX2_addToTable_6 : decode cX2_addToTable 6 = .ok (.iload_n 1, 1) := by decide +kernel
theorem dX2_addToTable_7 : decode cX2_addToTable 7 = .ok (.dup2, 1) := by decide +kernel
theorem dX2_addToTable_8 : decode cX2_addToTable 8 = .ok (.laload, 1) := by decide +kernel
theorem dX2_addToTable_9 : decode cX2_addToTable 9 = .ok (.lconst 1, 1) := by decide +kernel
theorem dX2_addToTable_10 : decode cX2_addToTable 10 = .ok (.ladd, 1) := by decide +kernel
theorem dX2_addToTable_11 : decode cX2_addToTable 11 = .ok (.lastore, 1) := by decide +kernel
theorem dX2_addToTable_12 : decode cX2_addToTable 12 = .ok (.aload_n 0, 1) := by decide +kernel
theorem dX2_addToTable_13 : decode cX2_addToTable 13 = .ok (.getfield 11, 3) := by decide +kernel
theorem dX2_addToTable_16 : decode cX2_addToTable 16 = .ok (.iload_n 2, 1) := by decide +kernel
theorem dX2_addToTable_17 : decode cX2_addToTable 17 = .ok (.aaload, 1) := by decide +kernel
theorem dX2_addToTable_18 : decode cX2_addToTable 18 = .ok (.iload_n 2, 1) := by decide +kernel
theorem dX2_addToTable_19 : decode cX2_addToTable 19 = .ok (.dup2, 1) := by decide +kernel
theorem dX2_addToTable_20 : decode cX2_addToTable 20 = .ok (.laload, 1) := by decide +kernel
theorem dX2_addToTable_21 : decode cX2_addToTable 21 = .ok (.lconst 1, 1) := by decide +kernel
theorem dX2_addToTable_22 : decode cX2_addToTable 22 = .ok (.ladd, 1) := by decide +kernel
theorem dX2_addToTable_23 : decode cX2_addToTable 23 = .ok (.lastore, 1) := by decide +kernel
theorem dX2_addToTable_24 : decode cX2_addToTable 24 = .ok (.aload_n 0, 1) := by decide +kernel
theorem dX2_addToTable_25 : decode cX2_addToTable 25 = .ok (.getfield 11, 3) := by decide +kernel
theorem dX2_addToTable_28 : decode cX2_addToTable 28 = .ok (.iload_n 1, 1) := by decide +kernel
theorem dX2_addToTable_29 : decode cX2_addToTable 29 = .ok (.aaload, 1) := by decide +kernel
theorem dX2_addToTable_30 : decode cX2_addToTable 30 = .ok (.iload_n 2, 1) := by decide +kernel
theorem dX2_addToTable_31 : decode cX2_addToTable 31 = .ok (.dup2, 1) := by decide +kernel
theorem dX2_addToTable_32 : decode cX2_addToTable 32 = .ok (.laload, 1) := by decide +kernel
theorem dX2_addToTable_33 : decode cX2_addToTable 33 = .ok (.lconst 1, 1) := by decide +kernel
theorem dX2_addToTable_34 : decode cX2_addToTable 34 = .ok (.lsub, 1) := by decide +kernel
theorem dX2_addToTable_35 : decode cX2_addToTable 35 = .ok (.lastore, 1) := by decide +kernel
theorem dX2_addToTable_36 : decode cX2_addToTable 36 = .ok (.aload_n 0, 1) := by decide +kernel
theorem dX2_addToTable_37 : decode cX2_addToTable 37 = .ok (.getfield 11, 3) := by decide +kernel
theorem dX2_addToTable_40 : decode cX2_addToTable 40 = .ok (.iload_n 2, 1) := by decide +kernel
theorem dX2_addToTable_41 : decode cX2_addToTable 41 = .ok (.aaload, 1) := by decide +kernel
theorem dX2_addToTable_42 : decode cX2_addToTable 42 = .ok (.iload_n 1, 1) := by decide +kernel
theorem dX2_addToTable_43 : decode cX2_addToTable 43 = .ok (.dup2, 1) := by decide +kernel
theorem dX2_addToTable_44 : decode cX2_addToTable 44 = .ok (.laload, 1) := by decide +kernel
theorem dX2_addToTable_45 : decode cX2_addToTable 45 = .ok (.lconst 1, 1) := by decide +kernel
theorem dX2_addToTable_46 : decode cX2_addToTable 46 = .ok (.lsub, 1) := by decide +kernel
theorem dX2_addToTable_47 : decode cX2_addToTable 47 = .ok (.lastore, 1) := by decide +kernel
theorem dX2_addToTable_48 : decode cX2_addToTable 48 = .ok (.return_, 1) := by decide +kernel
theorem dX2_countByTable_0 : decode cX2_countByTable 0 = .ok (.aload_n 0, 1) := by decide +kernel
theorem dX2_countByTable_1 : decode cX2_countByTable 1 = .ok (.getfield 27, 3) := by decide +kernel
theorem dX2_countByTable_4 : decode cX2_countByTable 4 = .ok (.getfield 60, 3) := by decide +kernel
theorem dX2_countByTable_7 : decode cX2_countByTable 7 = .ok (.ifCond .ne 5, 3) := by decide +kernel
theorem dX2_countByTable_10 : decode cX2_countByTable 10 = .ok (.lconst 0, 1) := by decide +kernel
theorem dX2_countByTable_11 : decode cX2_countByTable 11 = .ok (.lreturn, 1) := by decide +kernel
theorem dX2_countByTable_12 : decode cX2_countByTable 12 = .ok (.lconst 1, 1) := by decide +kernel
theorem dX2_countByTable_13 : decode cX2_countByTable 13 = .ok (.lstore_n 1, 1) := by decide +kernel
theorem dX2_countByTable_14 : decode cX2_countByTable 14 = .ok (.iconst 0, 1) := by decide +kernel
theorem dX2_countByTable_15 : decode cX2_countByTable 15 = .ok (.istore_n 3, 1) := by decide +kernel
theorem dX2_countByTable_16 : decode cX2_countByTable 16 = .ok (.iload_n 3, 1) := by decide +kernel
theorem dX2_countByTable_17 : decode cX2_countByTable 17 = .ok (.aload_n 0, 1) := by decide +kernel
theorem dX2_countByTable_18 : decode cX2_countByTable 18 = .ok (.getfield 27, 3) := by decide +kernel
theorem dX2_countByTable_21 : decode cX2_countByTable 21 = .ok (.getfield 60, 3) := by decide +kernel
theorem dX2_countByTable_24 : decode cX2_countByTable 24 = .ok (.iconst 1, 1) := by decide +kernel
theorem dX2_countByTable_25 : decode cX2_countByTable 25 = .ok (.isub, 1) := by decide +kernel
theorem dX2_countByTable_26 : decode cX2_countByTable 26 = .ok (.if_icmp .ge 136, 3) := by decide +kernel
theorem dX2_countByTable_29 : decode cX2_countByTable 29 = .ok (.aload_n 0, 1) := by decide +kernel
theorem dX2_countByTable_30 : decode cX2_countByTable 30 = .ok (.getfield 11, 3) := by decide +kernel
theorem dX2_countByTable_33 : decode cX2_countByTable 33 = .ok (.iload_n 3, 1) := by decide +kernel
theorem dX2_countByTable_34 : decode cX2_countByTable 34 = .ok (.aaload, 1) := by decide +kernel
theorem dX2_countByTable_35 : decode cX2_countByTable 35 = .ok (.iload_n 3, 1) := by decide +kernel
theorem dX2_countByTable_36 : decode cX2_countByTable 36 = .ok (.laload, 1) := by decide +kernel
theorem dX2_countByTable_37 : decode cX2_countByTable 37 = .ok (.lstore 4, 2) := by decide +kernel
theorem dX2_countByTable_39 : decode cX2_countByTable 39 = .ok (.lload 4, 2) := by decide +kernel
theorem dX2_countByTable_41 : decode cX2_countByTable 41 = .ok (.lconst 0, 1) := by decide +kernel
theorem dX2_countByTable_42 : decode cX2_countByTable 42 = .ok (.lcmp, 1) := by decide +kernel
theorem dX2_countByTable_43 : decode cX2_countByTable 43 = .ok (.ifCond .eq 9, 3) := by decide +kernel
theorem dX2_countByTable_46 : decode cX2_countByTable 46 = .ok (.lload_n 1, 1) := by decide +kernel
theorem dX2_countByTable_47 : decode cX2_countByTable 47 = .ok (.lconst 0, 1) := by decide +kernel
theorem dX2_countByTable_48 : decode cX2_countByTable 48 = .ok (.lcmp, 1) := by decide +kernel
theorem dX2_countByTable_49 : decode cX2_countByTable 49 = .ok (.ifCond .ne 5, 3) := by decide +kernel
theorem dX2_countByTable_52 : decode cX2_countByTable 52 = .ok (.lconst 0, 1) := by decide +kernel
theorem dX2_countByTable_53 : decode cX2_countByTable 53 = .ok (.lreturn, 1) := by decide +kernel
theorem dX2_countByTable_54 : decode cX2_countByTable 54 = .ok (.iload_n 3, 1) := by decide +kernel
theorem dX2_countByTable_55 : decode cX2_countByTable 55 = .ok (.iconst 1, 1) := by decide +kernel
theorem dX2_countByTable_56 : decode cX2_countByTable 56 = .ok (.iadd, 1) := by decide +kernel
theorem dX2_countByTable_57 : decode cX2_countByTable 57 = .ok (.istore 6, 2) := by decide +kernel
theorem dX2_countByTable_59 : decode cX2_countByTable 59 = .ok (.iload 6, 2) := by decide +kernel
theorem dX2_countByTable_61 : decode cX2_countByTable 61 = .ok (.aload_n 0, 1) := by decide +kernel
theorem dX2_countByTable_62 : decode cX2_countByTable 62 = .ok (.getfield 27, 3) := by decide +kernel
theorem dX2_countByTable_65 : decode cX2_countByTable 65 = .ok (.getfield 60, 3) := by decide +kernel
theorem dX2_countByTable_68 : decode cX2_countByTable 68 = .ok (.iconst 1, 1) := by decide +kernel
theorem dX2_countByTable_69 : decode cX2_countByTable 69 = .ok (.isub, 1) := by decide +kernel
theorem dX2_countByTable_70 : decode cX2_countByTable 70 = .ok (.if_icmp .ge 83, 3) := by decide +kernel
theorem dX2_countByTable_73 : decode cX2_countByTable 73 = .ok (.iload_n 3, 1) := by decide +kernel
theorem dX2_countByTable_74 : decode cX2_countByTable 74 = .ok (.iconst 1, 1) := by decide +kernel
theorem dX2_countByTable_75 : decode cX2_countByTable 75 = .ok (.iadd, 1) := by decide +kernel
theorem dX2_countByTable_76 : decode cX2_countByTable 76 = .ok (.istore 7, 2) := by decide +kernel
theorem dX2_countByTable_78 : decode cX2_countByTable 78 = .ok (.iload 7, 2) := by decide +kernel
theorem dX2_countByTable_80 : decode cX2_countByTable 80 = .ok (.aload_n 0, 1) := by decide +kernel
theorem dX2_countByTable_81 : decode cX2_countByTable 81 = .ok (.getfield 27, 3) := by decide +kernel
theorem dX2_countByTable_84 : decode cX2_countByTable 84 = .ok (.getfield 60, 3) := by decide +kernel
theorem dX2_countByTable_87 : decode cX2_countByTable 87 = .ok (.iconst 1, 1) := by decide +kernel
theorem dX2_countByTable_88 : decode cX2_countByTable 88 = .ok (.isub, 1) := by decide +kernel
theorem dX2_countByTable_89 : decode cX2_countByTable 89 = .ok (.if_icmp .ge 58, 3) := by decide +kernel
theorem dX2_countByTable_92 : decode cX2_countByTable 92 = .ok (.aload_n 0, 1) := by decide +kernel
theorem dX2_countByTable_93 : decode cX2_countByTable 93 = .ok (.getfield 11, 3) := by decide +kernel
theorem dX2_countByTable_96 : decode cX2_countByTable 96 = .ok (.iload 6, 2) := by decide +kernel
theorem dX2_countByTable_98 : decode cX2_countByTable 98 = .ok (.aaload, 1) := by decide +kernel
theorem dX2_countByTable_99 : decode cX2_countByTable 99 = .ok (.iload 7, 2) := by decide +kernel
theorem dX2_countByTable_101 : decode cX2_countByTable 101 = .ok (.laload, 1) := by decide +kernel
theorem dX2_countByTable_102 : decode cX2_countByTable 102 = .ok (.lload 4, 2) := by decide +kernel
theorem dX2_countByTable_104 : decode cX2_countByTable 104 = .ok (.lmul, 1) := by decide +kernel
theorem dX2_countByTable_105 : decode cX2_countByTable 105 = .ok (.aload_n 0, 1) := by decide +kernel
theorem dX2_countByTable_106 : decode cX2_countByTable 106 = .ok (.getfield 11, 3) := by decide +kernel
theorem dX2_countByTable_109 : decode cX2_countByTable 109 = .ok (.iload 6, 2) := by decide +kernel
theorem dX2_countByTable_111 : decode cX2_countByTable 111 = .ok (.aaload, 1) := by decide +kernel
theorem dX2_countByTable_112 : decode cX2_countByTable 112 = .ok (.iload_n 3, 1) := by decide +kernel
theorem dX2_countByTable_113 : decode cX2_countByTable 113 = .ok (.laload, 1) := by decide +kernel
theorem dX2_countByTable_114 : decode cX2_countByTable 114 = .ok (.aload_n 0, 1) := by decide +kernel
theorem dX2_countByTable_115 : decode cX2_countByTable 115 = .ok (.getfield 11, 3) := by decide +kernel
theorem dX2_countByTable_118 : decode cX2_countByTable 118 = .ok (.iload_n 3, 1) := by decide +kernel
theorem dX2_countByTable_119 : decode cX2_countByTable 119 = .ok (.aaload, 1) := by decide +kernel
theorem dX2_countByTable_120 : decode cX2_countByTable 120 = .ok (.iload 7, 2) := by decide +kernel
theorem dX2_countByTable_122 : decode cX2_countByTable 122 = .ok (.laload, 1) := by decide +kernel
theorem dX2_countByTable_123 : decode cX2_countByTable 123 = .ok (.lmul, 1) := by decide +kernel
theorem dX2_countByTable_124 : decode cX2_countByTable 124 = .ok (.lsub, 1) := by decide +kernel
theorem dX2_countByTable_125 : decode cX2_countByTable 125 = .ok (.lstore 8, 2) := by decide +kernel
theorem dX2_countByTable_127 : decode cX2_countByTable 127 = .ok (.aload_n 0, 1) := by decide +kernel
theorem dX2_countByTable_128 : decode cX2_countByTable 128 = .ok (.getfield 11, 3) := by decide +kernel
theorem dX2_countByTable_131 : decode cX2_countByTable 131 = .ok (.iload 6, 2) := by decide +kernel
theorem dX2_countByTable_133 : decode cX2_countByTable 133 = .ok (.aaload, 1) := by decide +kernel
theorem dX2_countByTable_134 : decode cX2_countByTable 134 = .ok (.iload 7, 2) := by decide +kernel
theorem dX2_countByTable_136 : decode cX2_countByTable 136 = .ok (.lload 8, 2) := by decide +kernel
theorem dX2_countByTable_138 : decode cX2_countByTable 138 = .ok (.lload_n 1, 1) := by decide +kernel
theorem dX2_countByTable_139 : decode cX2_countByTable 139 = .ok (.ldiv, 1) := by decide +kernel
theorem dX2_countByTable_140 : decode cX2_countByTable 140 = .ok (.lastore, 1) := by decide +kernel
theorem dX2_countByTable_141 : decode cX2_countByTable 141 = .ok (.iinc 7 1, 3) := by decide +kernel
theorem dX2_countByTable_144 : decode cX2_countByTable 144 = .ok (.goto (-66), 3) := by decide +kernel
theorem dX2_countByTable_147 : decode cX2_countByTable 147 = .ok (.iinc 6 1, 3) := by decide +kernel
theorem dX2_countByTable_150 : decode cX2_countByTable 150 = .ok (.goto (-91), 3) := by decide +kernel
theorem dX2_countByTable_153 : decode cX2_countByTable 153 = .ok (.lload 4, 2) := by decide +kernel
theorem dX2_countByTable_155 : decode cX2_countByTable 155 = .ok (.lstore_n 1, 1) := by decide +kernel
theorem dX2_countByTable_156 : decode cX2_countByTable 156 = .ok (.iinc 3 1, 3) := by decide +kernel
theorem dX2_countByTable_159 : decode cX2_countByTable 159 = .ok (.goto (-143), 3) := by decide +kernel
theorem dX2_countByTable_162 : decode cX2_countByTable 162 = .ok (.lload_n 1, 1) := by decide +kernel
theorem dX2_countByTable_163 : decode cX2_countByTable 163 = .ok (.lreturn, 1) := by decide +kernel
set_option maxRecDepth 20000 in
theorem ggX2_learn_X5_allPoints : GoodIn wsX2_learn wsX5_allPoints := goodIn_r _ [8, 9, 38, 39, 40, 41, 42, 43, 44, 45] (by decide +kernel) (by decide +kernel)
set_option maxRecDepth 20000 in
theorem gX2_learn_X5_allPoints : GoodIn wsX2_learn (wsV RX2 63 RX5 yX5_allPoints wsX5_allPoints) := goodIn_app (goodIn_of _ (by decide +kernel)) ggX2_learn_X5_allPoints
set_option maxRecDepth 20000 in
theorem ggX2_learn_X5_countParts : GoodIn wsX2_learn wsX5_countParts := goodIn_r _ [13, 9, 14, 15, 16, 17, 18, 19, 7, 20, 21, 22, 38, 39, 40, 41, 42, 43, 44, 45] (by decide +kernel) (by decide +kernel)
set_option maxRecDepth 20000 in
theorem gX2_learn_X5_countParts : GoodIn wsX2_learn (wsV RX2 67 RX5 yX5_countParts wsX5_countParts) := goodIn_app (goodIn_of _ (by decide +kernel)) ggX2_learn_X5_countParts
set_option maxRecDepth 20000 in
theorem ggX2_learn_X2_takeCheapest : GoodIn wsX2_learn wsX2_takeCheapest := goodIn_r _ [27, 2, 3, 28, 14, 15, 16, 29, 30, 31, 26, 32, 1, 33, 34, 35, 36, 37, 38, 39, 40, 41, 42, 43, 44, 45] (by decide +kernel) (by decide +kernel)
set_option maxRecDepth 20000 in
theorem gX2_learn_X2_takeCheapest : GoodIn wsX2_learn (wsV RX2 71 RX2 yX2_takeCheapest wsX2_takeCheapest) := goodIn_app (goodIn_of _ (by decide +kernel)) ggX2_learn_X2_takeCheapest
theorem dX2_learn_0 : decode cX2_learn 0 = .ok (.aload_n 0, 1) := by decide +kernel
theorem dX2_learn_1 : decode cX2_learn 1 = .ok (.iconst 0, 1) := by decide +kernel
theorem dX2_learn_2 : decode cX2_learn 2 = .ok (.putfield 16, 3) := by decide +kernel
theorem dX2_learn_5 : decode cX2_learn 5 = .ok (.aload_n 0, 1) := by decide +kernel
theorem dX2_learn_6 : decode cX2_learn 6 = .ok (.iconst (-1), 1) := by decide +kernel
theorem dX2_learn_7 : decode cX2_learn 7 = .ok (.putfield 20, 3) := by decide +kernel
theorem dX2_learn_10 : decode cX2_learn 10 = .ok (.aload_n 0, 1) := by decide +kernel
theorem dX2_learn_11 : decode cX2_learn 11 = .ok (.getfield 27, 3) := by decide +kernel
theorem dX2_learn_14 : decode cX2_learn 14 = .ok (.aload_n 0, 1) := by decide +kernel
theorem dX2_learn_15 : decode cX2_learn 15 = .ok (.getfield 27, 3) := by decide +kernel
theorem dX2_learn_18 : decode cX2_learn 18 = .ok (.invokevirtual 63, 3) := by decide +kernel
theorem dX2_learn_21 : decode cX2_learn 21 = .ok (.aload_n 0, 1) := by decide +kernel
theorem dX2_learn_22 : decode cX2_learn 22 = .ok (.getfield 27, 3) := by decide +kernel
theorem dX2_learn_25 : decode cX2_learn 25 = .ok (.getfield 47, 3) := by decide +kernel
theorem dX2_learn_28 : decode cX2_learn 28 = .ok (.invokevirtual 67, 3) := by decide +kernel
theorem dX2_learn_31 : decode cX2_learn 31 = .ok (.iconst 1, 1) := by decide +kernel
theorem dX2_learn_32 : decode cX2_learn 32 = .ok (.if_icmp .ne 7, 3) := by decide +kernel
theorem dX2_learn_35 : decode cX2_learn 35 = .ok (.aload_n 0, 1) := by decide +kernel
theorem dX2_learn_36 : decode cX2_learn 36 = .ok (.invokevirtual 71, 3) := by decide +kernel
theorem dX2_learn_39 : decode cX2_learn 39 = .ok (.return_, 1) := by decide +kernel
set_option maxRecDepth 20000 in
theorem ggX2_takeCheapest_X6_has : GoodIn wsX2_takeCheapest wsX6_has := goodIn_r _ [6] (by decide +kernel) (by decide +kernel)
set_option maxRecDepth 20000 in
theorem gX2_takeCheapest_X6_has_n50 : GoodIn wsX2_takeCheapest (wsX6_has) := ggX2_takeCheapest_X6_has
set_option maxRecDepth 20000 in
theorem ggX2_takeCheapest_X2_takeIfNew : GoodIn wsX2_takeCheapest wsX2_takeIfNew := goodIn_r _ [11, 3, 2, 12, 1, 4, 5, 6, 13, 14, 15, 16, 17, 18, 19, 20, 21, 22, 23, 24, 25] (by decide +kernel) (by decide +kernel)
set_option maxRecDepth 20000 in
theorem gX2_takeCheapest_X2_takeIfNew : GoodIn wsX2_takeCheapest (wsV RX2 77 RX2 yX2_takeIfNew wsX2_takeIfNew) := goodIn_app (goodIn_of _ (by decide +kernel)) ggX2_takeCheapest_X2_takeIfNew
theorem dX2_takeCheapest_0 : decode cX2_takeCheapest 0 = .ok (.aload_n 0, 1) := by decide +kernel
theorem dX2_takeCheapest_1 : decode cX2_takeCheapest 1 = .ok (.iconst 0, 1) := by decide +kernel
theorem dX2_takeCheapest_2 : decode cX2_takeCheapest 2 = .ok (.putfield 20, 3) := by decide +kernel
theorem dX2_takeCheapest_5 : decode cX2_takeCheapest 5 = .ok (.iconst 0, 1) := by decide +kernel
theorem dX2_takeCheapest_6 : decode cX2_takeCheapest 6 = .ok (.istore_n 1, 1) := by decide +kernel
theorem dX2_takeCheapest_7 : decode cX2_takeCheapest 7 = .ok (.iload_n 1, 1) := by decide +kernel
theorem dX2_takeCheapest_8 : decode cX2_takeCheapest 8 = .ok (.aload_n 0, 1) := by decide +kernel
theorem dX2_takeCheapest_9 : decode cX2_takeCheapest 9 = .ok (.getfield 27, 3) := by decide +kernel
theorem dX2_takeCheapest_12 : decode cX2_takeCheapest 12 = .ok (.getfield 60, 3) := by decide +kernel
theorem dX2_takeCheapest_15 : decode cX2_takeCheapest 15 = .ok (.if_icmp .ge 18, 3) := by decide +kernel
theorem dX2_takeCheapest_18 : decode cX2_takeCheapest 18 = .ok (.aload_n 0, 1) := by decide +kernel
theorem dX2_takeCheapest_19 : decode cX2_takeCheapest 19 = .ok (.getfield 23, 3) := by decide +kernel
theorem dX2_takeCheapest_22 : decode cX2_takeCheapest 22 = .ok (.iload_n 1, 1) := by decide +kernel
theorem dX2_takeCheapest_23 : decode cX2_takeCheapest 23 = .ok (.iconst 1, 1) := by decide +kernel
theorem dX2_takeCheapest_24 : decode cX2_takeCheapest 24 = .ok (.iload_n 1, 1) := by decide +kernel
theorem dX2_takeCheapest_25 : decode cX2_takeCheapest 25 = .ok (.ishl, 1) := by decide +kernel
theorem dX2_takeCheapest_26 : decode cX2_takeCheapest 26 = .ok (.iastore, 1) := by decide +kernel
theorem dX2_takeCheapest_27 : decode cX2_takeCheapest 27 = .ok (.iinc 1 1, 3) := by decide +kernel
theorem dX2_takeCheapest_30 : decode cX2_takeCheapest 30 = .ok (.goto (-23), 3) := by decide +kernel
theorem dX2_takeCheapest_33 : decode cX2_takeCheapest 33 = .ok (.iconst 1, 1) := by decide +kernel
theorem dX2_takeCheapest_34 : decode cX2_takeCheapest 34 = .ok (.istore_n 1, 1) := by decide +kernel
theorem dX2_takeCheapest_35 : decode cX2_takeCheapest 35 = .ok (.iload_n 1, 1) := by decide +kernel
theorem dX2_takeCheapest_36 : decode cX2_takeCheapest 36 = .ok (.bipush 20, 2) := by decide +kernel
theorem dX2_takeCheapest_38 : decode cX2_takeCheapest 38 = .ok (.if_icmp .gt 60, 3) := by decide +kernel
theorem dX2_takeCheapest_41 : decode cX2_takeCheapest 41 = .ok (.iconst 0, 1) := by decide +kernel
theorem dX2_takeCheapest_42 : decode cX2_takeCheapest 42 = .ok (.istore_n 2, 1) := by decide +kernel
theorem dX2_takeCheapest_43 : decode cX2_takeCheapest 43 = .ok (.iload_n 2, 1) := by decide +kernel
theorem dX2_takeCheapest_44 : decode cX2_takeCheapest 44 = .ok (.aload_n 0, 1) := by decide +kernel
theorem dX2_takeCheapest_45 : decode cX2_takeCheapest 45 = .ok (.getfield 27, 3) := by decide +kernel
theorem dX2_takeCheapest_48 : decode cX2_takeCheapest 48 = .ok (.getfield 42, 3) := by decide +kernel
theorem dX2_takeCheapest_51 : decode cX2_takeCheapest 51 = .ok (.if_icmp .ge 41, 3) := by decide +kernel
theorem dX2_takeCheapest_54 : decode cX2_takeCheapest 54 = .ok (.aload_n 0, 1) := by decide +kernel
theorem dX2_takeCheapest_55 : decode cX2_takeCheapest 55 = .ok (.getfield 27, 3) := by decide +kernel
theorem dX2_takeCheapest_58 : decode cX2_takeCheapest 58 = .ok (.getfield 47, 3) := by decide +kernel
theorem dX2_takeCheapest_61 : decode cX2_takeCheapest 61 = .ok (.iload_n 2, 1) := by decide +kernel
theorem dX2_takeCheapest_62 : decode cX2_takeCheapest 62 = .ok (.invokestatic 50, 3) := by decide +kernel
theorem dX2_takeCheapest_65 : decode cX2_takeCheapest 65 = .ok (.ifCond .eq 21, 3) := by decide +kernel
theorem dX2_takeCheapest_68 : decode cX2_takeCheapest 68 = .ok (.aload_n 0, 1) := by decide +kernel
theorem dX2_takeCheapest_69 : decode cX2_takeCheapest 69 = .ok (.getfield 27, 3) := by decide +kernel
theorem dX2_takeCheapest_72 : decode cX2_takeCheapest 72 = .ok (.getfield 74, 3) := by decide +kernel
theorem dX2_takeCheapest_75 : decode cX2_takeCheapest 75 = .ok (.iload_n 2, 1) := by decide +kernel
theorem dX2_takeCheapest_76 : decode cX2_takeCheapest 76 = .ok (.iaload, 1) := by decide +kernel
theorem dX2_takeCheapest_77 : decode cX2_takeCheapest 77 = .ok (.iload_n 1, 1) := by decide +kernel
theorem dX2_takeCheapest_78 : decode cX2_takeCheapest 78 = .ok (.if_icmp .ne 8, 3) := by decide +kernel
theorem dX2_takeCheapest_81 : decode cX2_takeCheapest 81 = .ok (.aload_n 0, 1) := by decide +kernel
theorem dX2_takeCheapest_82 : decode cX2_takeCheapest 82 = .ok (.iload_n 2, 1) := by decide +kernel
theorem dX2_takeCheapest_83 : decode cX2_takeCheapest 83 = .ok (.invokevirtual 77, 3) := by decide +kernel
theorem dX2_takeCheapest_86 : decode cX2_takeCheapest 86 = .ok (.iinc 2 1, 3) := by decide +kernel
theorem dX2_takeCheapest_89 : decode cX2_takeCheapest 89 = .ok (.goto (-46), 3) := by decide +kernel
theorem dX2_takeCheapest_92 : decode cX2_takeCheapest 92 = .ok (.iinc 1 1, 3) := by decide +kernel
theorem dX2_takeCheapest_95 : decode cX2_takeCheapest 95 = .ok (.goto (-60), 3) := by decide +kernel
theorem dX2_takeCheapest_98 : decode cX2_takeCheapest 98 = .ok (.return_, 1) := by decide +kernel
set_option maxRecDepth 20000 in
theorem ggX2_takeIfNew_X6_has : GoodIn wsX2_takeIfNew wsX6_has := goodIn_r _ [7] (by decide +kernel) (by decide +kernel)
set_option maxRecDepth 20000 in
theorem gX2_takeIfNew_X6_has_n50 : GoodIn wsX2_takeIfNew (wsX6_has) := ggX2_takeIfNew_X6_has
theorem dX2_takeIfNew_0 : decode cX2_takeIfNew 0 = .ok (.aload_n 0, 1) := by decide +kernel
theorem dX2_takeIfNew_1 : decode cX2_takeIfNew 1 = .ok (.getfield 23, 3) := by decide +kernel
theorem dX2_takeIfNew_4 : decode cX2_takeIfNew 4 = .ok (.aload_n 0, 1) := by decide +kernel
theorem dX2_takeIfNew_5 : decode cX2_takeIfNew 5 = .ok (.getfield 27, 3) := by decide +kernel
theorem dX2_takeIfNew_8 : decode cX2_takeIfNew 8 = .ok (.getfield 54, 3) := by decide +kernel
theorem dX2_takeIfNew_11 : decode cX2_takeIfNew 11 = .ok (.iload_n 1, 1) := by decide +kernel
theorem dX2_takeIfNew_12 : decode cX2_takeIfNew 12 = .ok (.iaload, 1) := by decide +kernel
theorem dX2_takeIfNew_13 : decode cX2_takeIfNew 13 = .ok (.iaload, 1) := by decide +kernel
theorem dX2_takeIfNew_14 : decode cX2_takeIfNew 14 = .ok (.istore_n 2, 1) := by decide +kernel
theorem dX2_takeIfNew_15 : decode cX2_takeIfNew 15 = .ok (.aload_n 0, 1) := by decide +kernel
theorem dX2_takeIfNew_16 : decode cX2_takeIfNew 16 = .ok (.getfield 23, 3) := by decide +kernel
theorem dX2_takeIfNew_19 : decode cX2_takeIfNew 19 = .ok (.aload_n 0, 1) := by decide +kernel
theorem dX2_takeIfNew_20 : decode cX2_takeIfNew 20 = .ok (.getfield 27, 3) := by decide +kernel
theorem dX2_takeIfNew_23 : decode cX2_takeIfNew 23 = .ok (.getfield 57, 3) := by decide +kernel
theorem dX2_takeIfNew_26 : decode cX2_takeIfNew 26 = .ok (.iload_n 1, 1) := by decide +kernel
theorem dX2_takeIfNew_27 : decode cX2_takeIfNew 27 = .ok (.iaload, 1) := by decide +kernel
theorem dX2_takeIfNew_28 : decode cX2_takeIfNew 28 = .ok (.iaload, 1) := by decide +kernel
theorem dX2_takeIfNew_29 : decode cX2_takeIfNew 29 = .ok (.istore_n 3, 1) := by decide +kernel
theorem dX2_takeIfNew_30 : decode cX2_takeIfNew 30 = .ok (.iload_n 2, 1) := by decide +kernel
theorem dX2_takeIfNew_31 : decode cX2_takeIfNew 31 = .ok (.iload_n 3, 1) := by decide +kernel
theorem dX2_takeIfNew_32 : decode cX2_takeIfNew 32 = .ok (.if_icmp .ne 4, 3) := by decide +kernel
theorem dX2_takeIfNew_35 : decode cX2_takeIfNew 35 = .ok (.return_, 1) := by decide +kernel
theorem dX2_takeIfNew_36 : decode cX2_takeIfNew 36 = .ok (.iconst 0, 1) := by decide +kernel
theorem dX2_takeIfNew_37 : decode cX2_takeIfNew 37 = .ok (.istore 4, 2) := by decide +kernel
theorem dX2_takeIfNew_39 : decode cX2_takeIfNew 39 = .ok (.iload 4, 2) := by decide +kernel
theorem dX2_takeIfNew_41 : decode cX2_takeIfNew 41 = .ok (.aload_n 0, 1) := by decide +kernel
theorem dX2_takeIfNew_42 : decode cX2_takeIfNew 42 = .ok (.getfield 27, 3) := by decide +kernel
theorem dX2_takeIfNew_45 : decode cX2_takeIfNew 45 = .ok (.getfield 60, 3) := by decide +kernel
theorem dX2_takeIfNew_48 : decode cX2_takeIfNew 48 = .ok (.if_icmp .ge 30, 3) := by decide +kernel
theorem dX2_takeIfNew_51 : decode cX2_takeIfNew 51 = .ok (.iload_n 2, 1) := by decide +kernel
theorem dX2_takeIfNew_52 : decode cX2_takeIfNew 52 = .ok (.iload_n 3, 1) := by decide +kernel
theorem dX2_takeIfNew_53 : decode cX2_takeIfNew 53 = .ok (.ior, 1) := by decide +kernel
theorem dX2_takeIfNew_54 : decode cX2_takeIfNew 54 = .ok (.iload 4, 2) := by decide +kernel
theorem dX2_takeIfNew_56 : decode cX2_takeIfNew 56 = .ok (.invokestatic 50, 3) := by decide +kernel
theorem dX2_takeIfNew_59 : decode cX2_takeIfNew 59 = .ok (.ifCond .eq 13, 3) := by decide +kernel
theorem dX2_takeIfNew_62 : decode cX2_takeIfNew 62 = .ok (.aload_n 0, 1) := by decide +kernel
theorem dX2_takeIfNew_63 : decode cX2_takeIfNew 63 = .ok (.getfield 23, 3) := by decide +kernel
theorem dX2_takeIfNew_66 : decode cX2_takeIfNew 66 = .ok (.iload 4, 2) := by decide +kernel
theorem dX2_takeIfNew_68 : decode cX2_takeIfNew 68 = .ok (.iload_n 2, 1) := by decide +kernel
theorem dX2_takeIfNew_69 : decode cX2_takeIfNew 69 = .ok (.iload_n 3, 1) := by decide +kernel
theorem dX2_takeIfNew_70 : decode cX2_takeIfNew 70 = .ok (.ior, 1) := by decide +kernel
theorem dX2_takeIfNew_71 : decode cX2_takeIfNew 71 = .ok (.iastore, 1) := by decide +kernel
theorem dX2_takeIfNew_72 : decode cX2_takeIfNew 72 = .ok (.iinc 4 1, 3) := by decide +kernel
theorem dX2_takeIfNew_75 : decode cX2_takeIfNew 75 = .ok (.goto (-36), 3) := by decide +kernel
theorem dX2_takeIfNew_78 : decode cX2_takeIfNew 78 = .ok (.aload_n 0, 1) := by decide +kernel
theorem dX2_takeIfNew_79 : decode cX2_takeIfNew 79 = .ok (.dup, 1) := by decide +kernel
theorem dX2_takeIfNew_80 : decode cX2_takeIfNew 80 = .ok (.getfield 16, 3) := by decide +kernel
theorem dX2_takeIfNew_83 : decode cX2_takeIfNew 83 = .ok (.iconst 1, 1) := by decide +kernel
theorem dX2_takeIfNew_84 : decode cX2_takeIfNew 84 = .ok (.iload_n 1, 1) := by decide +kernel
theorem dX2_takeIfNew_85 : decode cX2_takeIfNew 85 = .ok (.ishl, 1) := by decide +kernel
theorem dX2_takeIfNew_86 : decode cX2_takeIfNew 86 = .ok (.ior, 1) := by decide +kernel
theorem dX2_takeIfNew_87 : decode cX2_takeIfNew 87 = .ok (.putfield 16, 3) := by decide +kernel
theorem dX2_takeIfNew_90 : decode cX2_takeIfNew 90 = .ok (.aload_n 0, 1) := by decide +kernel
theorem dX2_takeIfNew_91 : decode cX2_takeIfNew 91 = .ok (.dup, 1) := by decide +kernel
theorem dX2_takeIfNew_92 : decode cX2_takeIfNew 92 = .ok (.getfield 20, 3) := by decide +kernel
theorem dX2_takeIfNew_95 : decode cX2_takeIfNew 95 = .ok (.aload_n 0, 1) := by decide +kernel
theorem dX2_takeIfNew_96 : decode cX2_takeIfNew 96 = .ok (.getfield 27, 3) := by decide +kernel
theorem dX2_takeIfNew_99 : decode cX2_takeIfNew 99 = .ok (.getfield 74, 3) := by decide +kernel
theorem dX2_takeIfNew_102 : decode cX2_takeIfNew 102 = .ok (.iload_n 1, 1) := by decide +kernel
theorem dX2_takeIfNew_103 : decode cX2_takeIfNew 103 = .ok (.iaload, 1) := by decide +kernel
theorem dX2_takeIfNew_104 : decode cX2_takeIfNew 104 = .ok (.iadd, 1) := by decide +kernel
theorem dX2_takeIfNew_105 : decode cX2_takeIfNew 105 = .ok (.putfield 20, 3) := by decide +kernel
theorem dX2_takeIfNew_108 : decode cX2_takeIfNew 108 = .ok (.return_, 1) := by decide +kernel
theorem dX3_init_0 : decode cX3_init 0 = .ok (.aload_n 0, 1) := by decide +kernel
theorem dX3_init_1 : decode cX3_init 1 = .ok (.invokespecial 3, 3) := by decide +kernel
theorem dX3_init_4 : decode cX3_init 4 = .ok (.aload_n 0, 1) := by decide +kernel
theorem dX3_init_5 : decode cX3_init 5 = .ok (.iconst 0, 1) := by decide +kernel
theorem dX3_init_6 : decode cX3_init 6 = .ok (.putfield 9, 3) := by decide +kernel
theorem dX3_init_9 : decode cX3_init 9 = .ok (.aload_n 0, 1) := by decide +kernel
theorem dX3_init_10 : decode cX3_init 10 = .ok (.bipush 8, 2) := by decide +kernel
theorem dX3_init_12 : decode cX3_init 12 = .ok (.newarray .int, 2) := by decide +kernel
theorem dX3_init_14 : decode cX3_init 14 = .ok (.putfield 15, 3) := by decide +kernel
theorem dX3_init_17 : decode cX3_init 17 = .ok (.aload_n 0, 1) := by decide +kernel
theorem dX3_init_18 : decode cX3_init 18 = .ok (.aload_n 1, 1) := by decide +kernel
theorem dX3_init_19 : decode cX3_init 19 = .ok (.putfield 19, 3) := by decide +kernel
theorem dX3_init_22 : decode cX3_init 22 = .ok (.return_, 1) := by decide +kernel
set_option maxRecDepth 20000 in
theorem ggX3_learn_X3_paintsFrom : GoodIn wsX3_learn wsX3_paintsFrom := goodIn_r _ [7, 1, 8, 9, 10, 11, 12, 13, 14, 15, 16, 17, 18, 19, 20, 21, 22, 23, 24, 25, 26, 27, 6, 28, 3, 4, 5, 29, 30, 31, 32, 33, 34, 35, 36, 37, 38, 39] (by decide +kernel) (by decide +kernel)
set_option maxRecDepth 20000 in
theorem gX3_learn_X3_paintsFrom : GoodIn wsX3_learn (wsV RX3 28 RX3 yX3_paintsFrom wsX3_paintsFrom) := goodIn_app (goodIn_of _ (by decide +kernel)) ggX3_learn_X3_paintsFrom
theorem dX3_learn_0 : decode cX3_learn 0 = .ok (.iconst 0, 1) := by decide +kernel
theorem dX3_learn_1 : decode cX3_learn 1 = .ok (.istore_n 1, 1) := by decide +kernel
theorem dX3_learn_2 : decode cX3_learn 2 = .ok (.iload_n 1, 1) := by decide +kernel
theorem dX3_learn_3 : decode cX3_learn 3 = .ok (.aload_n 0, 1) := by decide +kernel
theorem dX3_learn_4 : decode cX3_learn 4 = .ok (.getfield 19, 3) := by decide +kernel
theorem dX3_learn_7 : decode cX3_learn 7 = .ok (.getfield 23, 3) := by decide +kernel
theorem dX3_learn_10 : decode cX3_learn 10 = .ok (.if_icmp .gt 25, 3) := by decide +kernel
theorem dX3_learn_13 : decode cX3_learn 13 = .ok (.aload_n 0, 1) := by decide +kernel
theorem dX3_learn_14 : decode cX3_learn 14 = .ok (.iconst 0, 1) := by decide +kernel
theorem dX3_learn_15 : decode cX3_learn 15 = .ok (.iconst 0, 1) := by decide +kernel
theorem dX3_learn_16 : decode cX3_learn 16 = .ok (.iload_n 1, 1) := by decide +kernel
theorem dX3_learn_17 : decode cX3_learn 17 = .ok (.invokevirtual 28, 3) := by decide +kernel
theorem dX3_learn_20 : decode cX3_learn 20 = .ok (.ifCond .eq 9, 3) := by decide +kernel
theorem dX3_learn_23 : decode cX3_learn 23 = .ok (.aload_n 0, 1) := by decide +kernel
theorem dX3_learn_24 : decode cX3_learn 24 = .ok (.iload_n 1, 1) := by decide +kernel
theorem dX3_learn_25 : decode cX3_learn 25 = .ok (.putfield 9, 3) := by decide +kernel
theorem dX3_learn_28 : decode cX3_learn 28 = .ok (.return_, 1) := by decide +kernel
theorem dX3_learn_29 : decode cX3_learn 29 = .ok (.iinc 1 1, 3) := by decide +kernel
theorem dX3_learn_32 : decode cX3_learn 32 = .ok (.goto (-30), 3) := by decide +kernel
theorem dX3_learn_35 : decode cX3_learn 35 = .ok (.return_, 1) := by decide +kernel
set_option maxRecDepth 20000 in
theorem ggX3_paintsFrom_X5_linkedWith : GoodIn wsX3_paintsFrom wsX5_linkedWith := goodIn_r _ [11, 12, 13, 14, 15, 16, 17, 18, 30, 31, 32, 33, 34, 35, 36, 37] (by decide +kernel) (by decide +kernel)
set_option maxRecDepth 20000 in
theorem gX3_paintsFrom_X5_linkedWith : GoodIn wsX3_paintsFrom (wsV RX3 32 RX5 yX5_linkedWith wsX5_linkedWith) := goodIn_app (goodIn_of _ (by decide +kernel)) ggX3_paintsFrom_X5_linkedWith
set_option maxRecDepth 20000 in
theorem ggX3_paintsFrom_X3_isFree : GoodIn wsX3_paintsFrom wsX3_isFree := goodIn_r _ [23, 2, 16, 17, 18, 27, 28, 29] (by decide +kernel) (by decide +kernel)
set_option maxRecDepth 20000 in
theorem gX3_paintsFrom_X3_isFree : GoodIn wsX3_paintsFrom (wsV RX3 36 RX3 yX3_isFree wsX3_isFree) := goodIn_app (goodIn_of _ (by decide +kernel)) ggX3_paintsFrom_X3_isFree
set_option maxRecDepth 20000 in
theorem ggX3_paintsFrom_X3_paintsFrom : GoodIn wsX3_paintsFrom wsX3_paintsFrom := goodIn_r _ [0, 1, 2, 3, 4, 5, 6, 7, 8, 9, 10, 11, 12, 13, 14, 15, 16, 17, 18, 19, 20, 21, 22, 23, 24, 25, 26, 27, 28, 29, 30, 31, 32, 33, 34, 35, 36, 37] (by decide +kernel) (by decide +kernel)
set_option maxRecDepth 20000 in
theorem gX3_paintsFrom_X3_paintsFrom : GoodIn wsX3_paintsFrom (wsV RX3 28 RX3 yX3_paintsFrom wsX3_paintsFrom) := goodIn_app (goodIn_of _ (by decide +kernel)) ggX3_paintsFrom_X3_paintsFrom
theorem dX3_paintsFrom_0 : decode cX3_paintsFrom 0 = .ok (.iload_n 1, 1) := by decide +kernel
theorem dX3_paintsFrom_1 : decode cX3_paintsFrom 1 = .ok (.aload_n 0, 1) := by decide +kernel
theorem dX3_paintsFrom_2 : decode cX3_paintsFrom 2 = .ok (.getfield 19, 3) := by decide +kernel
theorem dX3_paintsFrom_5 : decode cX3_paintsFrom 5 = .ok (.getfield 23, 3) := by decide +kernel
theorem dX3_paintsFrom_8 : decode cX3_paintsFrom 8 = .ok (.if_icmp .lt 5, 3) := by decide +kernel
theorem dX3_paintsFrom_11 : decode cX3_paintsFrom 11 = .ok (.iconst 1, 1) := by decide +kernel
theorem dX3_paintsFrom_12 : decode cX3_paintsFrom 12 = .ok (.ireturn, 1) := by decide +kernel
theorem dX3_paintsFrom_13 : decode cX3_paintsFrom 13 = .ok (.aload_n 0, 1) := by decide +kernel
theorem dX3_paintsFrom_14 : decode cX3_paintsFrom 14 = .ok (.getfield 19, 3) := by decide +kernel
theorem dX3_paintsFrom_17 : decode cX3_paintsFrom 17 = .ok (.iload_n 1, 1) := by decide +kernel
theorem dX3_paintsFrom_18 : decode cX3_paintsFrom 18 = .ok (.invokevirtual 32, 3) := by decide +kernel
theorem dX3_paintsFrom_21 : decode cX3_paintsFrom 21 = .ok (.istore 4, 2) := by decide +kernel
theorem dX3_paintsFrom_23 : decode cX3_paintsFrom 23 = .ok (.iconst 0, 1) := by decide +kernel
theorem dX3_paintsFrom_24 : decode cX3_paintsFrom 24 = .ok (.istore 5, 2) := by decide +kernel
theorem dX3_paintsFrom_26 : decode cX3_paintsFrom 26 = .ok (.iload 5, 2) := by decide +kernel
theorem dX3_paintsFrom_28 : decode cX3_paintsFrom 28 = .ok (.iload_n 2, 1) := by decide +kernel
theorem dX3_paintsFrom_29 : decode cX3_paintsFrom 29 = .ok (.if_icmp .gt 56, 3) := by decide +kernel
theorem dX3_paintsFrom_32 : decode cX3_paintsFrom 32 = .ok (.iload 5, 2) := by decide +kernel
