theorem dX0_init_0 : decode cX0_init 0 = .ok (.aload_n 0, 1) := by decide +kernel
theorem dX0_init_1 : decode cX0_init 1 = .ok (.invokespecial 3, 3) := by decide +kernel
theorem dX0_init_4 : decode cX0_init 4 = .ok (.aload_n 0, 1) := by decide +kernel
theorem dX0_init_5 : decode cX0_init 5 = .ok (.bipush 8, 2) := by decide +kernel
theorem dX0_init_7 : decode cX0_init 7 = .ok (.bipush 16, 2) := by decide +kernel
theorem dX0_init_9 : decode cX0_init 9 = .ok (.multianewarray 9 2, 4) := by decide +kernel
theorem dX0_init_13 : decode cX0_init 13 = .ok (.putfield 11, 3) := by decide +kernel
theorem dX0_init_16 : decode cX0_init 16 = .ok (.aload_n 0, 1) := by decide +kernel
theorem dX0_init_17 : decode cX0_init 17 = .ok (.bipush 8, 2) := by decide +kernel
theorem dX0_init_19 : decode cX0_init 19 = .ok (.newarray .int, 2) := by decide +kernel
theorem dX0_init_21 : decode cX0_init 21 = .ok (.putfield 16, 3) := by decide +kernel
theorem dX0_init_24 : decode cX0_init 24 = .ok (.aload_n 0, 1) := by decide +kernel
theorem dX0_init_25 : decode cX0_init 25 = .ok (.iconst 0, 1) := by decide +kernel
theorem dX0_init_26 : decode cX0_init 26 = .ok (.putfield 20, 3) := by decide +kernel
theorem dX0_init_29 : decode cX0_init 29 = .ok (.aload_n 0, 1) := by decide +kernel
theorem dX0_init_30 : decode cX0_init 30 = .ok (.bipush 32, 2) := by decide +kernel
theorem dX0_init_32 : decode cX0_init 32 = .ok (.newarray .int, 2) := by decide +kernel
theorem dX0_init_34 : decode cX0_init 34 = .ok (.putfield 24, 3) := by decide +kernel
theorem dX0_init_37 : decode cX0_init 37 = .ok (.aload_n 0, 1) := by decide +kernel
theorem dX0_init_38 : decode cX0_init 38 = .ok (.aload_n 1, 1) := by decide +kernel
theorem dX0_init_39 : decode cX0_init 39 = .ok (.putfield 27, 3) := by decide +kernel
theorem dX0_init_42 : decode cX0_init 42 = .ok (.return_, 1) := by decide +kernel
theorem dX0_append_0 : decode cX0_append 0 = .ok (.aload_n 0, 1) := by decide +kernel
theorem dX0_append_1 : decode cX0_append 1 = .ok (.getfield 16, 3) := by decide +kernel
theorem dX0_append_4 : decode cX0_append 4 = .ok (.iload_n 1, 1) := by decide +kernel
theorem dX0_append_5 : decode cX0_append 5 = .ok (.iaload, 1) := by decide +kernel
theorem dX0_append_6 : decode cX0_append 6 = .ok (.bipush 16, 2) := by decide +kernel
theorem dX0_append_8 : decode cX0_append 8 = .ok (.if_icmp .ge 27, 3) := by decide +kernel
theorem dX0_append_11 : decode cX0_append 11 = .ok (.aload_n 0, 1) := by decide +kernel
theorem dX0_append_12 : decode cX0_append 12 = .ok (.getfield 11, 3) := by decide +kernel
theorem dX0_append_15 : decode cX0_append 15 = .ok (.iload_n 1, 1) := by decide +kernel
theorem dX0_append_16 : decode cX0_append 16 = .ok (.aaload, 1) := by decide +kernel
theorem dX0_append_17 : decode cX0_append 17 = .ok (.aload_n 0, 1) := by decide +kernel
theorem dX0_append_18 : decode cX0_append 18 = .ok (.getfield 16, 3) := by decide +kernel
theorem dX0_append_21 : decode cX0_append 21 = .ok (.iload_n 1, 1) := by decide +kernel
theorem dX0_append_22 : decode cX0_append 22 = .ok (.iaload, 1) := by decide +kernel
theorem dX0_append_23 : decode cX0_append 23 = .ok (.iload_n 2, 1) := by decide +kernel
theorem dX0_append_24 : decode cX0_append 24 = .ok (.iastore, 1) := by decide +kernel
theorem dX0_append_25 : decode cX0_append 25 = .ok (.aload_n 0, 1) := by decide +kernel
theorem dX0_append_26 : decode cX0_append 26 = .ok (.getfield 16, 3) := by decide +kernel
theorem dX0_append_29 : decode cX0_append 29 = .ok (.iload_n 1, 1) := by decide +kernel
theorem dX0_append_30 : decode cX0_append 30 = .ok (.dup2, 1) := by decide +kernel
theorem dX0_append_31 : decode cX0_append 31 = .ok (.iaload, 1) := by decide +kernel
theorem dX0_append_32 : decode cX0_append 32 = .ok (.iconst 1, 1) := by decide +kernel
theorem dX0_append_33 : decode cX0_append 33 = .ok (.iadd, 1) := by decide +kernel
theorem dX0_append_34 : decode cX0_append 34 = .ok (.iastore, 1) := by decide +kernel
theorem dX0_append_35 : decode cX0_append 35 = .ok (.return_, 1) := by decide +kernel
set_option maxRecDepth 20000 in
theorem ggX0_swap_X0_placeBehind : GoodIn wsX0_swap wsX0_placeBehind := goodIn_r _ [6, 7, 8, 9, 10, 11, 12] (by decide +kernel) (by decide +kernel)
set_option maxRecDepth 20000 in
theorem gX0_swap_X0_placeBehind : GoodIn wsX0_swap (wsV RX0 31 RX0 yX0_placeBehind wsX0_placeBehind) := goodIn_app (goodIn_of _ (by decide +kernel)) ggX0_swap_X0_placeBehind
theorem dX0_swap_0 : decode cX0_swap 0 = .ok (.aload_n 0, 1) := by decide +kernel
theorem dX0_swap_1 : decode cX0_swap 1 = .ok (.iload_n 1, 1) := by decide +kernel
theorem dX0_swap_2 : decode cX0_swap 2 = .ok (.iload_n 2, 1) := by decide +kernel
theorem dX0_swap_3 : decode cX0_swap 3 = .ok (.invokevirtual 31, 3) := by decide +kernel
theorem dX0_swap_6 : decode cX0_swap 6 = .ok (.istore_n 3, 1) := by decide +kernel
theorem dX0_swap_7 : decode cX0_swap 7 = .ok (.aload_n 0, 1) := by decide +kernel
theorem dX0_swap_8 : decode cX0_swap 8 = .ok (.getfield 11, 3) := by decide +kernel
theorem dX0_swap_11 : decode cX0_swap 11 = .ok (.iload_n 1, 1) := by decide +kernel
theorem dX0_swap_12 : decode cX0_swap 12 = .ok (.aaload, 1) := by decide +kernel
theorem dX0_swap_13 : decode cX0_swap 13 = .ok (.iload_n 2, 1) := by decide +kernel
theorem dX0_swap_14 : decode cX0_swap 14 = .ok (.iaload, 1) := by decide +kernel
theorem dX0_swap_15 : decode cX0_swap 15 = .ok (.istore 4, 2) := by decide +kernel
theorem dX0_swap_17 : decode cX0_swap 17 = .ok (.aload_n 0, 1) := by decide +kernel
theorem dX0_swap_18 : decode cX0_swap 18 = .ok (.getfield 11, 3) := by decide +kernel
theorem dX0_swap_21 : decode cX0_swap 21 = .ok (.iload_n 1, 1) := by decide +kernel
theorem dX0_swap_22 : decode cX0_swap 22 = .ok (.aaload, 1) := by decide +kernel
theorem dX0_swap_23 : decode cX0_swap 23 = .ok (.iload_n 2, 1) := by decide +kernel
theorem dX0_swap_24 : decode cX0_swap 24 = .ok (.aload_n 0, 1) := by decide +kernel
theorem dX0_swap_25 : decode cX0_swap 25 = .ok (.getfield 11, 3) := by decide +kernel
theorem dX0_swap_28 : decode cX0_swap 28 = .ok (.iload_n 1, 1) := by decide +kernel
theorem dX0_swap_29 : decode cX0_swap 29 = .ok (.aaload, 1) := by decide +kernel
theorem dX0_swap_30 : decode cX0_swap 30 = .ok (.iload_n 3, 1) := by decide +kernel
theorem dX0_swap_31 : decode cX0_swap 31 = .ok (.iaload, 1) := by decide +kernel
theorem dX0_swap_32 : decode cX0_swap 32 = .ok (.iastore, 1) := by decide +kernel
theorem dX0_swap_33 : decode cX0_swap 33 = .ok (.aload_n 0, 1) := by decide +kernel
theorem dX0_swap_34 : decode cX0_swap 34 = .ok (.getfield 11, 3) := by decide +kernel
theorem dX0_swap_37 : decode cX0_swap 37 = .ok (.iload_n 1, 1) := by decide +kernel
theorem dX0_swap_38 : decode cX0_swap 38 = .ok (.aaload, 1) := by decide +kernel
theorem dX0_swap_39 : decode cX0_swap 39 = .ok (.iload_n 3, 1) := by decide +kernel
theorem dX0_swap_40 : decode cX0_swap 40 = .ok (.iload 4, 2) := by decide +kernel
theorem dX0_swap_42 : decode cX0_swap 42 = .ok (.iastore, 1) := by decide +kernel
theorem dX0_swap_43 : decode cX0_swap 43 = .ok (.return_, 1) := by decide +kernel
set_option maxRecDepth 20000 in
theorem ggX0_learn_X6_has : GoodIn wsX0_learn wsX6_has := goodIn_r _ [6] (by decide +kernel) (by decide +kernel)
set_option maxRecDepth 20000 in
theorem gX0_learn_X6_has_n43 : GoodIn wsX0_learn (wsX6_has) := ggX0_learn_X6_has
set_option maxRecDepth 20000 in
theorem ggX0_learn_X0_walkBehind : GoodIn wsX0_learn wsX0_walkBehind := goodIn_r _ [11, 3, 12, 13, 14, 15, 16, 10, 17, 18, 19, 20, 21, 4, 5, 6, 22, 23, 24, 25, 26, 27, 28, 29, 30, 31, 32, 33, 34] (by decide +kernel) (by decide +kernel)
set_option maxRecDepth 20000 in
theorem gX0_learn_X0_walkBehind : GoodIn wsX0_learn (wsV RX0 64 RX0 yX0_walkBehind wsX0_walkBehind) := goodIn_app (goodIn_of _ (by decide +kernel)) ggX0_learn_X0_walkBehind
theorem dX0_learn_0 : decode cX0_learn 0 = .ok (.aload_n 0, 1) := by decide +kernel
theorem dX0_learn_1 : decode cX0_learn 1 = .ok (.iconst 0, 1) := by decide +kernel
theorem dX0_learn_2 : decode cX0_learn 2 = .ok (.putfield 20, 3) := by decide +kernel
theorem dX0_learn_5 : decode cX0_learn 5 = .ok (.iconst 0, 1) := by decide +kernel
theorem dX0_learn_6 : decode cX0_learn 6 = .ok (.istore_n 1, 1) := by decide +kernel
theorem dX0_learn_7 : decode cX0_learn 7 = .ok (.iload_n 1, 1) := by decide +kernel
theorem dX0_learn_8 : decode cX0_learn 8 = .ok (.bipush 32, 2) := by decide +kernel
theorem dX0_learn_10 : decode cX0_learn 10 = .ok (.if_icmp .ge 16, 3) := by decide +kernel
theorem dX0_learn_13 : decode cX0_learn 13 = .ok (.aload_n 0, 1) := by decide +kernel
theorem dX0_learn_14 : decode cX0_learn 14 = .ok (.getfield 24, 3) := by decide +kernel
theorem dX0_learn_17 : decode cX0_learn 17 = .ok (.iload_n 1, 1) := by decide +kernel
theorem dX0_learn_18 : decode cX0_learn 18 = .ok (.iconst (-1), 1) := by decide +kernel
theorem dX0_learn_19 : decode cX0_learn 19 = .ok (.iastore, 1) := by decide +kernel
theorem dX0_learn_20 : decode cX0_learn 20 = .ok (.iinc 1 1, 3) := by decide +kernel
theorem dX0_learn_23 : decode cX0_learn 23 = .ok (.goto (-16), 3) := by decide +kernel
theorem dX0_learn_26 : decode cX0_learn 26 = .ok (.iconst 0, 1) := by decide +kernel
theorem dX0_learn_27 : decode cX0_learn 27 = .ok (.istore_n 1, 1) := by decide +kernel
theorem dX0_learn_28 : decode cX0_learn 28 = .ok (.iload_n 1, 1) := by decide +kernel
theorem dX0_learn_29 : decode cX0_learn 29 = .ok (.iconst 2, 1) := by decide +kernel
theorem dX0_learn_30 : decode cX0_learn 30 = .ok (.aload_n 0, 1) := by decide +kernel
theorem dX0_learn_31 : decode cX0_learn 31 = .ok (.getfield 27, 3) := by decide +kernel
theorem dX0_learn_34 : decode cX0_learn 34 = .ok (.getfield 61, 3) := by decide +kernel
theorem dX0_learn_37 : decode cX0_learn 37 = .ok (.imul, 1) := by decide +kernel
theorem dX0_learn_38 : decode cX0_learn 38 = .ok (.if_icmp .ge 87, 3) := by decide +kernel
theorem dX0_learn_41 : decode cX0_learn 41 = .ok (.aload_n 0, 1) := by decide +kernel
theorem dX0_learn_42 : decode cX0_learn 42 = .ok (.getfield 27, 3) := by decide +kernel
theorem dX0_learn_45 : decode cX0_learn 45 = .ok (.getfield 38, 3) := by decide +kernel
theorem dX0_learn_48 : decode cX0_learn 48 = .ok (.iload_n 1, 1) := by decide +kernel
theorem dX0_learn_49 : decode cX0_learn 49 = .ok (.iconst 2, 1) := by decide +kernel
theorem dX0_learn_50 : decode cX0_learn 50 = .ok (.idiv, 1) := by decide +kernel
theorem dX0_learn_51 : decode cX0_learn 51 = .ok (.invokestatic 43, 3) := by decide +kernel
theorem dX0_learn_54 : decode cX0_learn 54 = .ok (.ifCond .eq 65, 3) := by decide +kernel
theorem dX0_learn_57 : decode cX0_learn 57 = .ok (.aload_n 0, 1) := by decide +kernel
theorem dX0_learn_58 : decode cX0_learn 58 = .ok (.getfield 24, 3) := by decide +kernel
theorem dX0_learn_61 : decode cX0_learn 61 = .ok (.iload_n 1, 1) := by decide +kernel
theorem dX0_learn_62 : decode cX0_learn 62 = .ok (.iaload, 1) := by decide +kernel
theorem dX0_learn_63 : decode cX0_learn 63 = .ok (.iconst (-1), 1) := by decide +kernel
theorem dX0_learn_64 : decode cX0_learn 64 = .ok (.if_icmp .ne 55, 3) := by decide +kernel
theorem dX0_learn_67 : decode cX0_learn 67 = .ok (.iload_n 1, 1) := by decide +kernel
theorem dX0_learn_68 : decode cX0_learn 68 = .ok (.istore_n 2, 1) := by decide +kernel
theorem dX0_learn_69 : decode cX0_learn 69 = .ok (.iconst 0, 1) := by decide +kernel
theorem dX0_learn_70 : decode cX0_learn 70 = .ok (.istore_n 3, 1) := by decide +kernel
theorem dX0_learn_71 : decode cX0_learn 71 = .ok (.iload_n 3, 1) := by decide +kernel
theorem dX0_learn_72 : decode cX0_learn 72 = .ok (.bipush 32, 2) := by decide +kernel
theorem dX0_learn_74 : decode cX0_learn 74 = .ok (.if_icmp .ge 35, 3) := by decide +kernel
theorem dX0_learn_77 : decode cX0_learn 77 = .ok (.aload_n 0, 1) := by decide +kernel
theorem dX0_learn_78 : decode cX0_learn 78 = .ok (.getfield 24, 3) := by decide +kernel
theorem dX0_learn_81 : decode cX0_learn 81 = .ok (.iload_n 2, 1) := by decide +kernel
theorem dX0_learn_82 : decode cX0_learn 82 = .ok (.iaload, 1) := by decide +kernel
theorem dX0_learn_83 : decode cX0_learn 83 = .ok (.iconst (-1), 1) := by decide +kernel
theorem dX0_learn_84 : decode cX0_learn 84 = .ok (.if_icmp .ne 25, 3) := by decide +kernel
theorem dX0_learn_87 : decode cX0_learn 87 = .ok (.aload_n 0, 1) := by decide +kernel
theorem dX0_learn_88 : decode cX0_learn 88 = .ok (.getfield 24, 3) := by decide +kernel
theorem dX0_learn_91 : decode cX0_learn 91 = .ok (.iload_n 2, 1) := by decide +kernel
theorem dX0_learn_92 : decode cX0_learn 92 = .ok (.aload_n 0, 1) := by decide +kernel
theorem dX0_learn_93 : decode cX0_learn 93 = .ok (.getfield 20, 3) := by decide +kernel
theorem dX0_learn_96 : decode cX0_learn 96 = .ok (.iastore, 1) := by decide +kernel
theorem dX0_learn_97 : decode cX0_learn 97 = .ok (.aload_n 0, 1) := by decide +kernel
theorem dX0_learn_98 : decode cX0_learn 98 = .ok (.iload_n 2, 1) := by decide +kernel
theorem dX0_learn_99 : decode cX0_learn 99 = .ok (.invokevirtual 64, 3) := by decide +kernel
theorem dX0_learn_102 : decode cX0_learn 102 = .ok (.istore_n 2, 1) := by decide +kernel
theorem dX0_learn_103 : decode cX0_learn 103 = .ok (.iinc 3 1, 3) := by decide +kernel
theorem dX0_learn_106 : decode cX0_learn 106 = .ok (.goto (-35), 3) := by decide +kernel
theorem dX0_learn_109 : decode cX0_learn 109 = .ok (.aload_n 0, 1) := by decide +kernel
theorem dX0_learn_110 : decode cX0_learn 110 = .ok (.dup, 1) := by decide +kernel
theorem dX0_learn_111 : decode cX0_learn 111 = .ok (.getfield 20, 3) := by decide +kernel
theorem dX0_learn_114 : decode cX0_learn 114 = .ok (.iconst 1, 1) := by decide +kernel
theorem dX0_learn_115 : decode cX0_learn 115 = .ok (.iadd, 1) := by decide +kernel
theorem dX0_learn_116 : decode cX0_learn 116 = .ok (.putfield 20, 3) := by decide +kernel
theorem dX0_learn_119 : decode cX0_learn 119 = .ok (.iinc 1 1, 3) := by decide +kernel
theorem dX0_learn_122 : decode cX0_learn 122 = .ok (.goto (-94), 3) := by decide +kernel
theorem dX0_learn_125 : decode cX0_learn 125 = .ok (.return_, 1) := by decide +kernel
set_option maxRecDepth 20000 in
theorem ggX0_walkBehind_X0_placeOf : GoodIn wsX0_walkBehind wsX0_placeOf := goodIn_r _ [8, 2, 3, 16, 17, 18, 19, 20] (by decide +kernel) (by decide +kernel)
set_option maxRecDepth 20000 in
theorem gX0_walkBehind_X0_placeOf : GoodIn wsX0_walkBehind (wsV RX0 74 RX0 yX0_placeOf wsX0_placeOf) := goodIn_app (goodIn_of _ (by decide +kernel)) ggX0_walkBehind_X0_placeOf
set_option maxRecDepth 20000 in
theorem ggX0_walkBehind_X0_placeBehind : GoodIn wsX0_walkBehind wsX0_placeBehind := goodIn_r _ [12, 2, 16, 17, 18, 19, 20] (by decide +kernel) (by decide +kernel)
set_option maxRecDepth 20000 in
theorem gX0_walkBehind_X0_placeBehind : GoodIn wsX0_walkBehind (wsV RX0 31 RX0 yX0_placeBehind wsX0_placeBehind) := goodIn_app (goodIn_of _ (by decide +kernel)) ggX0_walkBehind_X0_placeBehind
set_option maxRecDepth 20000 in
theorem ggX0_walkBehind_X6_has : GoodIn wsX0_walkBehind wsX6_has := goodIn_r _ [15] (by decide +kernel) (by decide +kernel)
set_option maxRecDepth 20000 in
theorem gX0_walkBehind_X6_has_n43 : GoodIn wsX0_walkBehind (wsX6_has) := ggX0_walkBehind_X6_has
theorem dX0_walkBehind_0 : decode cX0_walkBehind 0 = .ok (.iload_n 1, 1) := by decide +kernel
theorem dX0_walkBehind_1 : decode cX0_walkBehind 1 = .ok (.iconst 2, 1) := by decide +kernel
theorem dX0_walkBehind_2 : decode cX0_walkBehind 2 = .ok (.idiv, 1) := by decide +kernel
theorem dX0_walkBehind_3 : decode cX0_walkBehind 3 = .ok (.istore_n 2, 1) := by decide +kernel
theorem dX0_walkBehind_4 : decode cX0_walkBehind 4 = .ok (.iload_n 1, 1) := by decide +kernel
theorem dX0_walkBehind_5 : decode cX0_walkBehind 5 = .ok (.iconst 2, 1) := by decide +kernel
theorem dX0_walkBehind_6 : decode cX0_walkBehind 6 = .ok (.irem, 1) := by decide +kernel
theorem dX0_walkBehind_7 : decode cX0_walkBehind 7 = .ok (.ifCond .ne 15, 3) := by decide +kernel
theorem dX0_walkBehind_10 : decode cX0_walkBehind 10 = .ok (.aload_n 0, 1) := by decide +kernel
theorem dX0_walkBehind_11 : decode cX0_walkBehind 11 = .ok (.getfield 27, 3) := by decide +kernel
theorem dX0_walkBehind_14 : decode cX0_walkBehind 14 = .ok (.getfield 68, 3) := by decide +kernel
theorem dX0_walkBehind_17 : decode cX0_walkBehind 17 = .ok (.iload_n 2, 1) := by decide +kernel
theorem dX0_walkBehind_18 : decode cX0_walkBehind 18 = .ok (.iaload, 1) := by decide +kernel
theorem dX0_walkBehind_19 : decode cX0_walkBehind 19 = .ok (.goto 12, 3) := by decide +kernel
theorem dX0_walkBehind_22 : decode cX0_walkBehind 22 = .ok (.aload_n 0, 1) := by decide +kernel
theorem dX0_walkBehind_23 : decode cX0_walkBehind 23 = .ok (.getfield 27, 3) := by decide +kernel
theorem dX0_walkBehind_26 : decode cX0_walkBehind 26 = .ok (.getfield 71, 3) := by decide +kernel
theorem dX0_walkBehind_29 : decode cX0_walkBehind 29 = .ok (.iload_n 2, 1) := by decide +kernel
theorem dX0_walkBehind_30 : decode cX0_walkBehind 30 = .ok (.iaload, 1) := by decide +kernel
theorem dX0_walkBehind_31 : decode cX0_walkBehind 31 = .ok (.istore_n 3, 1) := by decide +kernel
theorem dX0_walkBehind_32 : decode cX0_walkBehind 32 = .ok (.aload_n 0, 1) := by decide +kernel
theorem dX0_walkBehind_33 : decode cX0_walkBehind 33 = .ok (.iload_n 3, 1) := by decide +kernel
theorem dX0_walkBehind_34 : decode cX0_walkBehind 34 = .ok (.iload_n 2, 1) := by decide +kernel
theorem dX0_walkBehind_35 : decode cX0_walkBehind 35 = .ok (.invokevirtual 74, 3) := by decide +kernel
theorem dX0_walkBehind_38 : decode cX0_walkBehind 38 = .ok (.istore 4, 2) := by decide +kernel
theorem dX0_walkBehind_40 : decode cX0_walkBehind 40 = .ok (.iconst 0, 1) := by decide +kernel
theorem dX0_walkBehind_41 : decode cX0_walkBehind 41 = .ok (.istore 5, 2) := by decide +kernel
theorem dX0_walkBehind_43 : decode cX0_walkBehind 43 = .ok (.iload 5, 2) := by decide +kernel
theorem dX0_walkBehind_45 : decode cX0_walkBehind 45 = .ok (.aload_n 0, 1) := by decide +kernel
theorem dX0_walkBehind_46 : decode cX0_walkBehind 46 = .ok (.getfield 16, 3) := by decide +kernel
theorem dX0_walkBehind_49 : decode cX0_walkBehind 49 = .ok (.iload_n 3, 1) := by decide +kernel
theorem dX0_walkBehind_50 : decode cX0_walkBehind 50 = .ok (.iaload, 1) := by decide +kernel
theorem dX0_walkBehind_51 : decode cX0_walkBehind 51 = .ok (.if_icmp .ge 69, 3) := by decide +kernel
theorem dX0_walkBehind_54 : decode cX0_walkBehind 54 = .ok (.aload_n 0, 1) := by decide +kernel
theorem dX0_walkBehind_55 : decode cX0_walkBehind 55 = .ok (.iload_n 3, 1) := by decide +kernel
theorem dX0_walkBehind_56 : decode cX0_walkBehind 56 = .ok (.iload 4, 2) := by decide +kernel
theorem dX0_walkBehind_58 : decode cX0_walkBehind 58 = .ok (.invokevirtual 31, 3) := by decide +kernel
theorem dX0_walkBehind_61 : decode cX0_walkBehind 61 = .ok (.istore 4, 2) := by decide +kernel
theorem dX0_walkBehind_63 : decode cX0_walkBehind 63 = .ok (.aload_n 0, 1) := by decide +kernel
theorem dX0_walkBehind_64 : decode cX0_walkBehind 64 = .ok (.getfield 11, 3) := by decide +kernel
theorem dX0_walkBehind_67 : decode cX0_walkBehind 67 = .ok (.iload_n 3, 1) := by decide +kernel
theorem dX0_walkBehind_68 : decode cX0_walkBehind 68 = .ok (.aaload, 1) := by decide +kernel
theorem dX0_walkBehind_69 : decode cX0_walkBehind 69 = .ok (.iload 4, 2) := by decide +kernel
theorem dX0_walkBehind_71 : decode cX0_walkBehind 71 = .ok (.iaload, 1) := by decide +kernel
theorem dX0_walkBehind_72 : decode cX0_walkBehind 72 = .ok (.istore 6, 2) := by decide +kernel
theorem dX0_walkBehind_74 : decode cX0_walkBehind 74 = .ok (.aload_n 0, 1) := by decide +kernel
theorem dX0_walkBehind_75 : decode cX0_walkBehind 75 = .ok (.getfield 27, 3) := by decide +kernel
theorem dX0_walkBehind_78 : decode cX0_walkBehind 78 = .ok (.getfield 38, 3) := by decide +kernel
theorem dX0_walkBehind_81 : decode cX0_walkBehind 81 = .ok (.iload 6, 2) := by decide +kernel
theorem dX0_walkBehind_83 : decode cX0_walkBehind 83 = .ok (.invokestatic 43, 3) := by decide +kernel
theorem dX0_walkBehind_86 : decode cX0_walkBehind 86 = .ok (.ifCond .eq 28, 3) := by decide +kernel
theorem dX0_walkBehind_89 : decode cX0_walkBehind 89 = .ok (.iconst 2, 1) := by decide +kernel
theorem dX0_walkBehind_90 : decode cX0_walkBehind 90 = .ok (.iload 6, 2) := by decide +kernel
theorem dX0_walkBehind_92 : decode cX0_walkBehind 92 = .ok (.imul, 1) := by decide +kernel
theorem dX0_walkBehind_93 : decode cX0_walkBehind 93 = .ok (.aload_n 0, 1) := by decide +kernel
theorem dX0_walkBehind_94 : decode cX0_walkBehind 94 = .ok (.getfield 27, 3) := by decide +kernel
theorem dX0_walkBehind_97 : decode cX0_walkBehind 97 = .ok (.getfield 71, 3) := by decide +kernel
theorem dX0_walkBehind_100 : decode cX0_walkBehind 100 = .ok (.iload 6, 2) := by decide +kernel
theorem dX0_walkBehind_102 : decode cX0_walkBehind 102 = .ok (.iaload, 1) := by decide +kernel
theorem dX0_walkBehind_103 : decode cX0_walkBehind 103 = .ok (.iload_n 3, 1) := by decide +kernel
theorem dX0_walkBehind_104 : decode cX0_walkBehind 104 = .ok (.if_icmp .ne 7, 3) := by decide +kernel
theorem dX0_walkBehind_107 : decode cX0_walkBehind 107 = .ok (.iconst 0, 1) := by decide +kernel
theorem dX0_walkBehind_108 : decode cX0_walkBehind 108 = .ok (.goto 4, 3) := by decide +kernel
theorem dX0_walkBehind_111 : decode cX0_walkBehind 111 = .ok (.iconst 1, 1) := by decide +kernel
theorem dX0_walkBehind_112 : decode cX0_walkBehind 112 = .ok (.iadd, 1) := by decide +kernel
theorem dX0_walkBehind_113 : decode cX0_walkBehind 113 = .ok (.ireturn, 1) := by decide +kernel
theorem dX0_walkBehind_114 : decode cX0_walkBehind 114 = .ok (.iinc 5 1, 3) := by decide +kernel
theorem dX0_walkBehind_117 : decode cX0_walkBehind 117 = .ok (.goto (-74), 3) := by decide +kernel
theorem dX0_walkBehind_120 : decode cX0_walkBehind 120 = .ok (.iload_n 1, 1) := by decide +kernel
theorem dX0_walkBehind_121 : decode cX0_walkBehind 121 = .ok (.ireturn, 1) := by decide +kernel
theorem dX0_placeOf_0 : decode cX0_placeOf 0 = .ok (.iconst 0, 1) := by decide +kernel
theorem dX0_placeOf_1 : decode cX0_placeOf 1 = .ok (.istore_n 3, 1) := by decide +kernel
theorem dX0_placeOf_2 : decode cX0_placeOf 2 = .ok (.iload_n 3, 1) := by decide +kernel
theorem dX0_placeOf_3 : decode cX0_placeOf 3 = .ok (.aload_n 0, 1) := by decide +kernel
theorem dX0_placeOf_4 : decode cX0_placeOf 4 = .ok (.getfield 16, 3) := by decide +kernel
theorem dX0_placeOf_7 : decode cX0_placeOf 7 = .ok (.iload_n 1, 1) := by decide +kernel
theorem dX0_placeOf_8 : decode cX0_placeOf 8 = .ok (.iaload, 1) := by decide +kernel
theorem dX0_placeOf_9 : decode cX0_placeOf 9 = .ok (.if_icmp .ge 23, 3) := by decide +kernel
theorem dX0_placeOf_12 : decode cX0_placeOf 12 = .ok (.aload_n 0, 1) := by decide +kernel
theorem dX0_placeOf_13 : decode cX0_placeOf 13 = .ok (.getfield 11, 3) := by decide +kernel
theorem dX0_placeOf_16 : decode cX0_placeOf 16 = .ok (.iload_n 1, 1) := by decide +kernel
theorem dX0_placeOf_17 : decode cX0_placeOf 17 = .ok (.aaload, 1) := by decide +kernel
theorem dX0_placeOf_18 : decode cX0_placeOf 18 = .ok (.iload_n 3, 1) := by decide +kernel
theorem dX0_placeOf_19 : decode cX0_placeOf 19 = .ok (.iaload, 1) := by decide +kernel
theorem dX0_placeOf_20 : decode cX0_placeOf 20 = .ok (.iload_n 2, 1) := by decide +kernel
theorem dX0_placeOf_21 : decode cX0_placeOf 21 = .ok (.if_icmp .ne 5, 3) := by decide +kernel
theorem dX0_placeOf_24 : decode cX0_placeOf 24 = .ok (.iload_n 3, 1) := by decide +kernel
theorem dX0_placeOf_25 : decode cX0_placeOf 25 = .ok (.ireturn, 1) := by decide +kernel
theorem dX0_placeOf_26 : decode cX0_placeOf 26 = .ok (.iinc 3 1, 3) := by decide +kernel
theorem dX0_placeOf_29 : decode cX0_placeOf 29 = .ok (.goto (-27), 3) := by decide +kernel
theorem dX0_placeOf_32 : decode cX0_placeOf 32 = .ok (.iconst 0, 1) := by decide +kernel
theorem dX0_placeOf_33 : decode cX0_placeOf 33 = .ok (.ireturn, 1) := by decide +kernel
theorem dX0_placeBehind_0 : decode cX0_placeBehind 0 = .ok (.iload_n 2, 1) := by decide +kernel
theorem dX0_placeBehind_1 : decode cX0_placeBehind 1 = .ok (.iconst 1, 1) := by decide +kernel
theorem dX0_placeBehind_2 : decode cX0_placeBehind 2 = .ok (.iadd, 1) := by decide +kernel
theorem dX0_placeBehind_3 : decode cX0_placeBehind 3 = .ok (.aload_n 0, 1) := by decide +kernel
theorem dX0_placeBehind_4 : decode cX0_placeBehind 4 = .ok (.getfield 16, 3) := by decide +kernel
theorem dX0_placeBehind_7 : decode cX0_placeBehind 7 = .ok (.iload_n 1, 1) := by decide +kernel
theorem dX0_placeBehind_8 : decode cX0_placeBehind 8 = .ok (.iaload, 1) := by decide +kernel
theorem dX0_placeBehind_9 : decode cX0_placeBehind 9 = .ok (.if_icmp .ge 9, 3) := by decide +kernel
theorem dX0_placeBehind_12 : decode cX0_placeBehind 12 = .ok (.iload_n 2, 1) := by decide +kernel
theorem dX0_placeBehind_13 : decode cX0_placeBehind 13 = .ok (.iconst 1, 1) := by decide +kernel
theorem dX0_placeBehind_14 : decode cX0_placeBehind 14 = .ok (.iadd, 1) := by decide +kernel
theorem dX0_placeBehind_15 : decode cX0_placeBehind 15 = .ok (.goto 4, 3) := by decide +kernel
theorem dX0_placeBehind_18 : decode cX0_placeBehind 18 = .ok (.iconst 0, 1) := by decide +kernel
theorem dX0_placeBehind_19 : decode cX0_placeBehind 19 = .ok (.ireturn, 1) := by decide +kernel
set_option maxRecDepth 20000 in
theorem ggX0_allFaces_X5_standingAt : GoodIn wsX0_allFaces wsX5_standingAt := goodIn_r _ [7, 8, 9, 15, 16, 17, 18, 19, 20, 21, 22] (by decide +kernel) (by decide +kernel)
set_option maxRecDepth 20000 in
theorem gX0_allFaces_X5_standingAt : GoodIn wsX0_allFaces (wsV RX0 80 RX5 yX5_standingAt wsX5_standingAt) := goodIn_app (goodIn_of _ (by decide +kernel)) ggX0_allFaces_X5_standingAt
theorem dX0_allFaces_0 : decode cX0_allFaces 0 = .ok (.aload_n 0, 1) := by decide +kernel
theorem dX0_allFaces_1 : decode cX0_allFaces 1 = .ok (.getfield 20, 3) := by decide +kernel
theorem dX0_allFaces_4 : decode cX0_allFaces 4 = .ok (.istore_n 1, 1) := by decide +kernel
theorem dX0_allFaces_5 : decode cX0_allFaces 5 = .ok (.iconst 0, 1) := by decide +kernel
theorem dX0_allFaces_6 : decode cX0_allFaces 6 = .ok (.istore_n 2, 1) := by decide +kernel
theorem dX0_allFaces_7 : decode cX0_allFaces 7 = .ok (.iload_n 2, 1) := by decide +kernel
theorem dX0_allFaces_8 : decode cX0_allFaces 8 = .ok (.aload_n 0, 1) := by decide +kernel
theorem dX0_allFaces_9 : decode cX0_allFaces 9 = .ok (.getfield 27, 3) := by decide +kernel
theorem dX0_allFaces_12 : decode cX0_allFaces 12 = .ok (.getfield 77, 3) := by decide +kernel
theorem dX0_allFaces_15 : decode cX0_allFaces 15 = .ok (.if_icmp .ge 23, 3) := by decide +kernel
theorem dX0_allFaces_18 : decode cX0_allFaces 18 = .ok (.aload_n 0, 1) := by decide +kernel
theorem dX0_allFaces_19 : decode cX0_allFaces 19 = .ok (.getfield 27, 3) := by decide +kernel
theorem dX0_allFaces_22 : decode cX0_allFaces 22 = .ok (.iload_n 2, 1) := by decide +kernel
theorem dX0_allFaces_23 : decode cX0_allFaces 23 = .ok (.invokevirtual 80, 3) := by decide +kernel
theorem dX0_allFaces_26 : decode cX0_allFaces 26 = .ok (.ifCond .ne 6, 3) := by decide +kernel
theorem dX0_allFaces_29 : decode cX0_allFaces 29 = .ok (.iinc 1 1, 3) := by decide +kernel
theorem dX0_allFaces_32 : decode cX0_allFaces 32 = .ok (.iinc 2 1, 3) := by decide +kernel
theorem dX0_allFaces_35 : decode cX0_allFaces 35 = .ok (.goto (-28), 3) := by decide +kernel
theorem dX0_allFaces_38 : decode cX0_allFaces 38 = .ok (.iload_n 1, 1) := by decide +kernel
theorem dX0_allFaces_39 : decode cX0_allFaces 39 = .ok (.ireturn, 1) := by decide +kernel
set_option maxRecDepth 20000 in
theorem ggX0_bestPlace_X0_allFaces : GoodIn wsX0_bestPlace wsX0_allFaces := goodIn_r _ [6, 7, 8, 9, 10, 11, 12, 13, 14, 15, 41, 42, 43, 44, 45, 46, 47, 48, 49, 50, 51, 52, 53] (by decide +kernel) (by decide +kernel)
set_option maxRecDepth 20000 in
theorem gX0_bestPlace_X0_allFaces : GoodIn wsX0_bestPlace (wsV RX0 83 RX0 yX0_allFaces wsX0_allFaces) := goodIn_app (goodIn_of _ (by decide +kernel)) ggX0_bestPlace_X0_allFaces
set_option maxRecDepth 20000 in
theorem ggX0_bestPlace_X0_swap : GoodIn wsX0_bestPlace wsX0_swap := goodIn_r _ [19, 20, 21, 22, 23, 5, 24, 1, 41, 42, 43, 44, 45] (by decide +kernel) (by decide +kernel)
set_option maxRecDepth 20000 in
theorem gX0_bestPlace_X0_swap : GoodIn wsX0_bestPlace (wsV RX0 87 RX0 yX0_swap wsX0_swap) := goodIn_app (goodIn_of _ (by decide +kernel)) ggX0_bestPlace_X0_swap
set_option maxRecDepth 20000 in
theorem ggX0_bestPlace_X0_learn : GoodIn wsX0_bestPlace wsX0_learn := goodIn_r _ [28, 7, 29, 8, 30, 31, 32, 33, 34, 35, 5, 36, 1, 20, 37, 38, 39, 40, 21, 22, 23, 24, 41, 42, 43, 44, 45, 46, 47, 48, 49, 50, 51, 52, 53] (by decide +kernel) (by decide +kernel)
set_option maxRecDepth 20000 in
theorem gX0_bestPlace_X0_learn : GoodIn wsX0_bestPlace (wsV RX0 91 RX0 yX0_learn wsX0_learn) := goodIn_app (goodIn_of _ (by decide +kernel)) ggX0_bestPlace_X0_learn
theorem dX0_bestPlace_0 : decode cX0_bestPlace 0 = .ok (.iconst (-1), 1) := by decide +kernel
theorem dX0_bestPlace_1 : decode cX0_bestPlace 1 = .ok (.istore_n 2, 1) := by decide +kernel
theorem dX0_bestPlace_2 : decode cX0_bestPlace 2 = .ok (.aload_n 0, 1) := by decide +kernel
theorem dX0_bestPlace_3 : decode cX0_bestPlace 3 = .ok (.invokevirtual 83, 3) := by decide +kernel
theorem dX0_bestPlace_6 : decode cX0_bestPlace 6 = .ok (.istore_n 3, 1) := by decide +kernel
theorem dX0_bestPlace_7 : decode cX0_bestPlace 7 = .ok (.iconst 0, 1) := by decide +kernel
theorem dX0_bestPlace_8 : decode cX0_bestPlace 8 = .ok (.istore 4, 2) := by decide +kernel
theorem dX0_bestPlace_10 : decode cX0_bestPlace 10 = .ok (.iload 4, 2) := by decide +kernel
theorem dX0_bestPlace_12 : decode cX0_bestPlace 12 = .ok (.aload_n 0, 1) := by decide +kernel
theorem dX0_bestPlace_13 : decode cX0_bestPlace 13 = .ok (.getfield 16, 3) := by decide +kernel
theorem dX0_bestPlace_16 : decode cX0_bestPlace 16 = .ok (.iload_n 1, 1) := by decide +kernel
theorem dX0_bestPlace_17 : decode cX0_bestPlace 17 = .ok (.iaload, 1) := by decide +kernel
theorem dX0_bestPlace_18 : decode cX0_bestPlace 18 = .ok (.if_icmp .ge 43, 3) := by decide +kernel
theorem dX0_bestPlace_21 : decode cX0_bestPlace 21 = .ok (.aload_n 0, 1) := by decide +kernel
theorem dX0_bestPlace_22 : decode cX0_bestPlace 22 = .ok (.iload_n 1, 1) := by decide +kernel
theorem dX0_bestPlace_23 : decode cX0_bestPlace 23 = .ok (.iload 4, 2) := by decide +kernel
theorem dX0_bestPlace_25 : decode cX0_bestPlace 25 = .ok (.invokevirtual 87, 3) := by decide +kernel
theorem dX0_bestPlace_28 : decode cX0_bestPlace 28 = .ok (.aload_n 0, 1) := by decide +kernel
theorem dX0_bestPlace_29 : decode cX0_bestPlace 29 = .ok (.invokevirtual 91, 3) := by decide +kernel
theorem dX0_bestPlace_32 : decode cX0_bestPlace 32 = .ok (.aload_n 0, 1) := by decide +kernel
theorem dX0_bestPlace_33 : decode cX0_bestPlace 33 = .ok (.iload_n 1, 1) := by decide +kernel
theorem dX0_bestPlace_34 : decode cX0_bestPlace 34 = .ok (.iload 4, 2) := by decide +kernel
theorem dX0_bestPlace_36 : decode cX0_bestPlace 36 = .ok (.invokevirtual 87, 3) := by decide +kernel
theorem dX0_bestPlace_39 : decode cX0_bestPlace 39 = .ok (.aload_n 0, 1) := by decide +kernel
theorem dX0_bestPlace_40 : decode cX0_bestPlace 40 = .ok (.invokevirtual 83, 3) := by decide +kernel
theorem dX0_bestPlace_43 : decode cX0_bestPlace 43 = .ok (.iload_n 3, 1) := by decide +kernel
theorem dX0_bestPlace_44 : decode cX0_bestPlace 44 = .ok (.if_icmp .le 11, 3) := by decide +kernel
theorem dX0_bestPlace_47 : decode cX0_bestPlace 47 = .ok (.aload_n 0, 1) := by decide +kernel
theorem dX0_bestPlace_48 : decode cX0_bestPlace 48 = .ok (.invokevirtual 83, 3) := by decide +kernel
theorem dX0_bestPlace_51 : decode cX0_bestPlace 51 = .ok (.istore_n 3, 1) := by decide +kernel
theorem dX0_bestPlace_52 : decode cX0_bestPlace 52 = .ok (.iload 4, 2) := by decide +kernel
theorem dX0_bestPlace_54 : decode cX0_bestPlace 54 = .ok (.istore_n 2, 1) := by decide +kernel
theorem dX0_bestPlace_55 : decode cX0_bestPlace 55 = .ok (.iinc 4 1, 3) := by decide +kernel
theorem dX0_bestPlace_58 : decode cX0_bestPlace 58 = .ok (.goto (-48), 3) := by decide +kernel
theorem dX0_bestPlace_61 : decode cX0_bestPlace 61 = .ok (.aload_n 0, 1) := by decide +kernel
theorem dX0_bestPlace_62 : decode cX0_bestPlace 62 = .ok (.invokevirtual 91, 3) := by decide +kernel
theorem dX0_bestPlace_65 : decode cX0_bestPlace 65 = .ok (.iload_n 2, 1) := by decide +kernel
theorem dX0_bestPlace_66 : decode cX0_bestPlace 66 = .ok (.ireturn, 1) := by decide +kernel
theorem dX1_init_0 : decode cX1_init 0 = .ok (.aload_n 0, 1) := by decide +kernel
theorem dX1_init_1 : decode cX1_init 1 = .ok (.invokespecial 3, 3) := by decide +kernel
theorem dX1_init_4 : decode cX1_init 4 = .ok (.aload_n 0, 1) := by decide +kernel
theorem dX1_init_5 : decode cX1_init 5 = .ok (.iconst 0, 1) := by decide +kernel
theorem dX1_init_6 : decode cX1_init 6 = .ok (.putfield 9, 3) := by decide +kernel
theorem dX1_init_9 : decode cX1_init 9 = .ok (.aload_n 0, 1) := by decide +kernel
theorem dX1_init_10 : decode cX1_init 10 = .ok (.iconst 0, 1) := by decide +kernel
theorem dX1_init_11 : decode cX1_init 11 = .ok (.putfield 15, 3) := by decide +kernel
theorem dX1_init_14 : decode cX1_init 14 = .ok (.aload_n 0, 1) := by decide +kernel
theorem dX1_init_15 : decode cX1_init 15 = .ok (.iconst 0, 1) := by decide +kernel
theorem dX1_init_16 : decode cX1_init 16 = .ok (.putfield 18, 3) := by decide +kernel
theorem dX1_init_19 : decode cX1_init 19 = .ok (.aload_n 0, 1) := by decide +kernel
theorem dX1_init_20 : decode cX1_init 20 = .ok (.iconst 0, 1) := by decide +kernel
theorem dX1_init_21 : decode cX1_init 21 = .ok (.putfield 21, 3) := by decide +kernel
theorem dX1_init_24 : decode cX1_init 24 = .ok (.aload_n 0, 1) := by decide +kernel
theorem dX1_init_25 : decode cX1_init 25 = .ok (.iconst 0, 1) := by decide +kernel
theorem dX1_init_26 : decode cX1_init 26 = .ok (.putfield 24, 3) := by decide +kernel
theorem dX1_init_29 : decode cX1_init 29 = .ok (.aload_n 0, 1) := by decide +kernel
theorem dX1_init_30 : decode cX1_init 30 = .ok (.iconst 0, 1) := by decide +kernel
theorem dX1_init_31 : decode cX1_init 31 = .ok (.putfield 27, 3) := by decide +kernel
theorem dX1_init_34 : decode cX1_init 34 = .ok (.aload_n 0, 1) := by decide +kernel
theorem dX1_init_35 : decode cX1_init 35 = .ok (.bipush 8, 2) := by decide +kernel
theorem dX1_init_37 : decode cX1_init 37 = .ok (.newarray .int, 2) := by decide +kernel
theorem dX1_init_39 : decode cX1_init 39 = .ok (.putfield 30, 3) := by decide +kernel
theorem dX1_init_42 : decode cX1_init 42 = .ok (.aload_n 0, 1) := by decide +kernel
theorem dX1_init_43 : decode cX1_init 43 = .ok (.bipush 8, 2) := by decide +kernel
theorem dX1_init_45 : decode cX1_init 45 = .ok (.newarray .int, 2) := by decide +kernel
theorem dX1_init_47 : decode cX1_init 47 = .ok (.putfield 34, 3) := by decide +kernel
theorem dX1_init_50 : decode cX1_init 50 = .ok (.aload_n 0, 1) := by decide +kernel
theorem dX1_init_51 : decode cX1_init 51 = .ok (.bipush 16, 2) := by decide +kernel
theorem dX1_init_53 : decode cX1_init 53 = .ok (.newarray .int, 2) := by decide +kernel
theorem dX1_init_55 : decode cX1_init 55 = .ok (.putfield 37, 3) := by decide +kernel
theorem dX1_init_58 : decode cX1_init 58 = .ok (.aload_n 0, 1) := by decide +kernel
theorem dX1_init_59 : decode cX1_init 59 = .ok (.bipush 16, 2) := by decide +kernel
theorem dX1_init_61 : decode cX1_init 61 = .ok (.newarray .int, 2) := by decide +kernel
theorem dX1_init_63 : decode cX1_init 63 = .ok (.putfield 40, 3) := by decide +kernel
theorem dX1_init_66 : decode cX1_init 66 = .ok (.aload_n 0, 1) := by decide +kernel
theorem dX1_init_67 : decode cX1_init 67 = .ok (.bipush 28, 2) := by decide +kernel
theorem dX1_init_69 : decode cX1_init 69 = .ok (.newarray .int, 2) := by decide +kernel
theorem dX1_init_71 : decode cX1_init 71 = .ok (.putfield 43, 3) := by decide +kernel
theorem dX1_init_74 : decode cX1_init 74 = .ok (.aload_n 0, 1) := by decide +kernel
theorem dX1_init_75 : decode cX1_init 75 = .ok (.bipush 28, 2) := by decide +kernel
theorem dX1_init_77 : decode cX1_init 77 = .ok (.newarray .int, 2) := by decide +kernel
theorem dX1_init_79 : decode cX1_init 79 = .ok (.putfield 46, 3) := by decide +kernel
theorem dX1_init_82 : decode cX1_init 82 = .ok (.aload_n 0, 1) := by decide +kernel
theorem dX1_init_83 : decode cX1_init 83 = .ok (.bipush 120, 2) := by decide +kernel
theorem dX1_init_85 : decode cX1_init 85 = .ok (.newarray .int, 2) := by decide +kernel
theorem dX1_init_87 : decode cX1_init 87 = .ok (.putfield 49, 3) := by decide +kernel
theorem dX1_init_90 : decode cX1_init 90 = .ok (.aload_n 0, 1) := by decide +kernel
theorem dX1_init_91 : decode cX1_init 91 = .ok (.bipush 120, 2) := by decide +kernel
theorem dX1_init_93 : decode cX1_init 93 = .ok (.newarray .int, 2) := by decide +kernel
theorem dX1_init_95 : decode cX1_init 95 = .ok (.putfield 52, 3) := by decide +kernel
theorem dX1_init_98 : decode cX1_init 98 = .ok (.aload_n 0, 1) := by decide +kernel
theorem dX1_init_99 : decode cX1_init 99 = .ok (.aload_n 1, 1) := by decide +kernel
theorem dX1_init_100 : decode cX1_init 100 = .ok (.putfield 55, 3) := by decide +kernel
theorem dX1_init_103 : decode cX1_init 103 = .ok (.return_, 1) := by decide +kernel
set_option maxRecDepth 20000 in
theorem ggX1_learn_X1_numberParts : GoodIn wsX1_learn wsX1_numberParts := goodIn_r _ [5, 6, 7, 8, 9, 10, 11, 12, 13, 14, 15, 16, 17, 18, 19, 20, 21, 22, 23, 24, 25, 4, 26, 27, 28, 101, 102, 103, 104, 105, 106, 107, 108, 109, 110, 111, 112, 113, 114, 115, 116, 117, 118, 119, 120, 121, 122, 123] (by decide +kernel) (by decide +kernel)
set_option maxRecDepth 20000 in
theorem gX1_learn_X1_numberParts : GoodIn wsX1_learn (wsV RX1 59 RX1 yX1_numberParts wsX1_numberParts) := goodIn_app (goodIn_of _ (by decide +kernel)) ggX1_learn_X1_numberParts
set_option maxRecDepth 20000 in
theorem ggX1_learn_X1_findBridges : GoodIn wsX1_learn wsX1_findBridges := goodIn_r _ [32, 33, 7, 6, 8, 9, 10, 11, 12, 13, 14, 15, 16, 34, 35, 36, 37, 38, 18, 19, 20, 21, 22, 101, 102, 103, 104, 105, 106, 107, 108, 109, 110, 111, 112, 113, 114, 115, 116, 117, 118, 119, 120, 121, 122, 123] (by decide +kernel) (by decide +kernel)
set_option maxRecDepth 20000 in
theorem gX1_learn_X1_findBridges : GoodIn wsX1_learn (wsV RX1 62 RX1 yX1_findBridges wsX1_findBridges) := goodIn_app (goodIn_of _ (by decide +kernel)) ggX1_learn_X1_findBridges
set_option maxRecDepth 20000 in
theorem ggX1_learn_X1_findCutPoints : GoodIn wsX1_learn wsX1_findCutPoints := goodIn_r _ [42, 43, 7, 28, 34, 35, 36, 14, 37, 16, 8, 9, 10, 38, 18, 19, 20, 21, 22, 101, 102, 103, 104, 105, 106, 107, 108, 109, 110, 111, 112, 113, 114, 115, 116, 117, 118, 119, 120, 121, 122, 123] (by decide +kernel) (by decide +kernel)
set_option maxRecDepth 20000 in
theorem gX1_learn_X1_findCutPoints : GoodIn wsX1_learn (wsV RX1 65 RX1 yX1_findCutPoints wsX1_findCutPoints) := goodIn_app (goodIn_of _ (by decide +kernel)) ggX1_learn_X1_findCutPoints
set_option maxRecDepth 20000 in
theorem ggX1_learn_X1_joinBlocks : GoodIn wsX1_learn wsX1_joinBlocks := goodIn_r _ [47, 7, 48, 49, 50, 51, 14, 52, 53, 54, 8, 9, 10, 55, 56, 57, 4, 58, 11, 12, 13, 15, 16, 59, 60, 61, 62, 63, 64, 17, 18, 19, 20, 21, 22, 65, 66, 67, 68, 69, 70, 71, 72, 101, 102, 103, 104, 105, 106, 107, 108, 109, 110, 111, 112, 113, 114, 115, 116, 117, 118, 119, 120, 121, 122, 123] (by decide +kernel) (by decide +kernel)
set_option maxRecDepth 20000 in
theorem gX1_learn_X1_joinBlocks : GoodIn wsX1_learn (wsV RX1 68 RX1 yX1_joinBlocks wsX1_joinBlocks) := goodIn_app (goodIn_of _ (by decide +kernel)) ggX1_learn_X1_joinBlocks
set_option maxRecDepth 20000 in
theorem ggX1_learn_X1_numberBlocks : GoodIn wsX1_learn wsX1_numberBlocks := goodIn_r _ [76, 77, 7, 78, 48, 8, 9, 10, 101, 102, 103, 104, 105, 106, 107, 108, 109, 110, 111, 112, 113, 114, 115, 116, 117, 118, 119, 120, 121, 122, 123] (by decide +kernel) (by decide +kernel)
set_option maxRecDepth 20000 in
theorem gX1_learn_X1_numberBlocks : GoodIn wsX1_learn (wsV RX1 71 RX1 yX1_numberBlocks wsX1_numberBlocks) := goodIn_app (goodIn_of _ (by decide +kernel)) ggX1_learn_X1_numberBlocks
set_option maxRecDepth 20000 in
theorem ggX1_learn_X1_findPairs : GoodIn wsX1_learn wsX1_findPairs := goodIn_r _ [82, 83, 7, 84, 85, 86, 87, 88, 4, 89, 27, 43, 28, 34, 35, 36, 14, 37, 16, 8, 9, 10, 38, 18, 19, 20, 21, 22, 101, 102, 103, 104, 105, 106, 107, 108, 109, 110, 111, 112, 113, 114, 115, 116, 117, 118, 119, 120, 121, 122, 123] (by decide +kernel) (by decide +kernel)
set_option maxRecDepth 20000 in
theorem gX1_learn_X1_findPairs : GoodIn wsX1_learn (wsV RX1 74 RX1 yX1_findPairs wsX1_findPairs) := goodIn_app (goodIn_of _ (by decide +kernel)) ggX1_learn_X1_findPairs
set_option maxRecDepth 20000 in
theorem ggX1_learn_X1_findTwins : GoodIn wsX1_learn wsX1_findTwins := goodIn_r _ [93, 94, 7, 95, 96, 97, 98, 99, 4, 100, 33, 6, 11, 12, 13, 14, 15, 16, 34, 35, 36, 37, 8, 9, 10, 38, 18, 19, 20, 21, 22, 101, 102, 103, 104, 105, 106, 107, 108, 109, 110, 111, 112, 113, 114, 115, 116, 117, 118, 119, 120, 121, 122, 123] (by decide +kernel) (by decide +kernel)
set_option maxRecDepth 20000 in
theorem gX1_learn_X1_findTwins : GoodIn wsX1_learn (wsV RX1 77 RX1 yX1_findTwins wsX1_findTwins) := goodIn_app (goodIn_of _ (by decide +kernel)) ggX1_learn_X1_findTwins
theorem dX1_learn_0 : decode cX1_learn 0 = .ok (.aload_n 0, 1) := by decide +kernel
theorem dX1_learn_1 : decode cX1_learn 1 = .ok (.invokevirtual 59, 3) := by decide +kernel
theorem dX1_learn_4 : decode cX1_learn 4 = .ok (.aload_n 0, 1) := by decide +kernel
theorem dX1_learn_5 : decode cX1_learn 5 = .ok (.invokevirtual 62, 3) := by decide +kernel
theorem dX1_learn_8 : decode cX1_learn 8 = .ok (.aload_n 0, 1) := by decide +kernel
theorem dX1_learn_9 : decode cX1_learn 9 = .ok (.invokevirtual 65, 3) := by decide +kernel
theorem dX1_learn_12 : decode cX1_learn 12 = .ok (.aload_n 0, 1) := by decide +kernel
theorem dX1_learn_13 : decode cX1_learn 13 = .ok (.invokevirtual 68, 3) := by decide +kernel
theorem dX1_learn_16 : decode cX1_learn 16 = .ok (.aload_n 0, 1) := by decide +kernel
theorem dX1_learn_17 : decode cX1_learn 17 = .ok (.invokevirtual 71, 3) := by decide +kernel
theorem dX1_learn_20 : decode cX1_learn 20 = .ok (.aload_n 0, 1) := by decide +kernel
theorem dX1_learn_21 : decode cX1_learn 21 = .ok (.invokevirtual 74, 3) := by decide +kernel
theorem dX1_learn_24 : decode cX1_learn 24 = .ok (.aload_n 0, 1) := by decide +kernel
theorem dX1_learn_25 : decode cX1_learn 25 = .ok (.invokevirtual 77, 3) := by decide +kernel
theorem dX1_learn_28 : decode cX1_learn 28 = .ok (.return_, 1) := by decide +kernel
set_option maxRecDepth 20000 in
theorem ggX1_blocksAt_X5_standingAt : GoodIn wsX1_blocksAt wsX5_standingAt := goodIn_r _ [7, 8, 9, 35, 36, 37, 38, 39, 40, 41, 42] (by decide +kernel) (by decide +kernel)
set_option maxRecDepth 20000 in
theorem gX1_blocksAt_X5_standingAt : GoodIn wsX1_blocksAt (wsV RX1 85 RX5 yX5_standingAt wsX5_standingAt) := goodIn_app (goodIn_of _ (by decide +kernel)) ggX1_blocksAt_X5_standingAt
set_option maxRecDepth 20000 in
theorem ggX1_blocksAt_X6_has : GoodIn wsX1_blocksAt wsX6_has := goodIn_r _ [12] (by decide +kernel) (by decide +kernel)
set_option maxRecDepth 20000 in
theorem gX1_blocksAt_X6_has_n89 : GoodIn wsX1_blocksAt (wsX6_has) := ggX1_blocksAt_X6_has
set_option maxRecDepth 20000 in
theorem ggX1_blocksAt_J6_bitCount_0f7a4 : GoodIn wsX1_blocksAt wsJ6_bitCount_0f7a4 := goodIn_r _ [16, 17, 18, 19] (by decide +kernel) (by decide +kernel)
set_option maxRecDepth 20000 in
theorem gX1_blocksAt_J6_bitCount_0f7a4 : GoodIn wsX1_blocksAt (va_wsS RX1 93 yJ6_bitCount_0f7a4 wsJ6_bitCount_0f7a4) := goodIn_app (goodIn_of _ (by decide +kernel)) ggX1_blocksAt_J6_bitCount_0f7a4
theorem dX1_blocksAt_0 : decode cX1_blocksAt 0 = .ok (.iconst 0, 1) := by decide +kernel
theorem dX1_blocksAt_1 : decode cX1_blocksAt 1 = .ok (.istore_n 2, 1) := by decide +kernel
theorem dX1_blocksAt_2 : decode cX1_blocksAt 2 = .ok (.iconst 0, 1) := by decide +kernel
theorem dX1_blocksAt_3 : decode cX1_blocksAt 3 = .ok (.istore_n 3, 1) := by decide +kernel
theorem dX1_blocksAt_4 : decode cX1_blocksAt 4 = .ok (.iload_n 3, 1) := by decide +kernel
theorem dX1_blocksAt_5 : decode cX1_blocksAt 5 = .ok (.aload_n 0, 1) := by decide +kernel
theorem dX1_blocksAt_6 : decode cX1_blocksAt 6 = .ok (.getfield 55, 3) := by decide +kernel
theorem dX1_blocksAt_9 : decode cX1_blocksAt 9 = .ok (.getfield 80, 3) := by decide +kernel
theorem dX1_blocksAt_12 : decode cX1_blocksAt 12 = .ok (.if_icmp .ge 35, 3) := by decide +kernel
theorem dX1_blocksAt_15 : decode cX1_blocksAt 15 = .ok (.aload_n 0, 1) := by decide +kernel
theorem dX1_blocksAt_16 : decode cX1_blocksAt 16 = .ok (.getfield 55, 3) := by decide +kernel
theorem dX1_blocksAt_19 : decode cX1_blocksAt 19 = .ok (.iload_n 1, 1) := by decide +kernel
theorem dX1_blocksAt_20 : decode cX1_blocksAt 20 = .ok (.invokevirtual 85, 3) := by decide +kernel
theorem dX1_blocksAt_23 : decode cX1_blocksAt 23 = .ok (.iload_n 3, 1) := by decide +kernel
theorem dX1_blocksAt_24 : decode cX1_blocksAt 24 = .ok (.invokestatic 89, 3) := by decide +kernel
theorem dX1_blocksAt_27 : decode cX1_blocksAt 27 = .ok (.ifCond .eq 14, 3) := by decide +kernel
theorem dX1_blocksAt_30 : decode cX1_blocksAt 30 = .ok (.iload_n 2, 1) := by decide +kernel
theorem dX1_blocksAt_31 : decode cX1_blocksAt 31 = .ok (.iconst 1, 1) := by decide +kernel
theorem dX1_blocksAt_32 : decode cX1_blocksAt 32 = .ok (.aload_n 0, 1) := by decide +kernel
theorem dX1_blocksAt_33 : decode cX1_blocksAt 33 = .ok (.getfield 40, 3) := by decide +kernel
theorem dX1_blocksAt_36 : decode cX1_blocksAt 36 = .ok (.iload_n 3, 1) := by decide +kernel
theorem dX1_blocksAt_37 : decode cX1_blocksAt 37 = .ok (.iaload, 1) := by decide +kernel
theorem dX1_blocksAt_38 : decode cX1_blocksAt 38 = .ok (.ishl, 1) := by decide +kernel
theorem dX1_blocksAt_39 : decode cX1_blocksAt 39 = .ok (.ior, 1) := by decide +kernel
theorem dX1_blocksAt_40 : decode cX1_blocksAt 40 = .ok (.istore_n 2, 1) := by decide +kernel
theorem dX1_blocksAt_41 : decode cX1_blocksAt 41 = .ok (.iinc 3 1, 3) := by decide +kernel
theorem dX1_blocksAt_44 : decode cX1_blocksAt 44 = .ok (.goto (-40), 3) := by decide +kernel
theorem dX1_blocksAt_47 : decode cX1_blocksAt 47 = .ok (.iload_n 2, 1) := by decide +kernel
theorem dX1_blocksAt_48 : decode cX1_blocksAt 48 = .ok (.invokestatic 93, 3) := by decide +kernel
theorem dX1_blocksAt_51 : decode cX1_blocksAt 51 = .ok (.ireturn, 1) := by decide +kernel
theorem dX1_isAloneInBlock_0 : decode cX1_isAloneInBlock 0 = .ok (.iconst 0, 1) := by decide +kernel
theorem dX1_isAloneInBlock_1 : decode cX1_isAloneInBlock 1 = .ok (.istore_n 2, 1) := by decide +kernel
theorem dX1_isAloneInBlock_2 : decode cX1_isAloneInBlock 2 = .ok (.iload_n 2, 1) := by decide +kernel
theorem dX1_isAloneInBlock_3 : decode cX1_isAloneInBlock 3 = .ok (.aload_n 0, 1) := by decide +kernel
theorem dX1_isAloneInBlock_4 : decode cX1_isAloneInBlock 4 = .ok (.getfield 55, 3) := by decide +kernel
theorem dX1_isAloneInBlock_7 : decode cX1_isAloneInBlock 7 = .ok (.getfield 80, 3) := by decide +kernel
theorem dX1_isAloneInBlock_10 : decode cX1_isAloneInBlock 10 = .ok (.if_icmp .ge 31, 3) := by decide +kernel
theorem dX1_isAloneInBlock_13 : decode cX1_isAloneInBlock 13 = .ok (.iload_n 2, 1) := by decide +kernel
theorem dX1_isAloneInBlock_14 : decode cX1_isAloneInBlock 14 = .ok (.iload_n 1, 1) := by decide +kernel
theorem dX1_isAloneInBlock_15 : decode cX1_isAloneInBlock 15 = .ok (.if_icmp .eq 20, 3) := by decide +kernel
theorem dX1_isAloneInBlock_18 : decode cX1_isAloneInBlock 18 = .ok (.aload_n 0, 1) := by decide +kernel
theorem dX1_isAloneInBlock_19 : decode cX1_isAloneInBlock 19 = .ok (.getfield 40, 3) := by decide +kernel
theorem dX1_isAloneInBlock_22 : decode cX1_isAloneInBlock 22 = .ok (.iload_n 2, 1) := by decide +kernel
theorem dX1_isAloneInBlock_23 : decode cX1_isAloneInBlock 23 = .ok (.iaload, 1) := by decide +kernel
theorem dX1_isAloneInBlock_24 : decode cX1_isAloneInBlock 24 = .ok (.aload_n 0, 1) := by decide +kernel
theorem dX1_isAloneInBlock_25 : decode cX1_isAloneInBlock 25 = .ok (.getfield 40, 3) := by decide +kernel
theorem dX1_isAloneInBlock_28 : decode cX1_isAloneInBlock 28 = .ok (.iload_n 1, 1) := by decide +kernel
theorem dX1_isAloneInBlock_29 : decode cX1_isAloneInBlock 29 = .ok (.iaload, 1) := by decide +kernel
theorem dX1_isAloneInBlock_30 : decode cX1_isAloneInBlock 30 = .ok (.if_icmp .ne 5, 3) := by decide +kernel
theorem dX1_isAloneInBlock_33 : decode cX1_isAloneInBlock 33 = .ok (.iconst 0, 1) := by decide +kernel
theorem dX1_isAloneInBlock_34 : decode cX1_isAloneInBlock 34 = .ok (.ireturn, 1) := by decide +kernel
theorem dX1_isAloneInBlock_35 : decode cX1_isAloneInBlock 35 = .ok (.iinc 2 1, 3) := by decide +kernel
theorem dX1_isAloneInBlock_38 : decode cX1_isAloneInBlock 38 = .ok (.goto (-36), 3) := by decide +kernel
theorem dX1_isAloneInBlock_41 : decode cX1_isAloneInBlock 41 = .ok (.iconst 1, 1) := by decide +kernel
theorem dX1_isAloneInBlock_42 : decode cX1_isAloneInBlock 42 = .ok (.ireturn, 1) := by decide +kernel
theorem dX1_pairPoint_0 : decode cX1_pairPoint 0 = .ok (.iload_n 1, 1) := by decide +kernel
theorem dX1_pairPoint_1 : decode cX1_pairPoint 1 = .ok (.ifCond .lt 11, 3) := by decide +kernel
theorem dX1_pairPoint_4 : decode cX1_pairPoint 4 = .ok (.iload_n 1, 1) := by decide +kernel
theorem dX1_pairPoint_5 : decode cX1_pairPoint 5 = .ok (.aload_n 0, 1) := by decide +kernel
theorem dX1_pairPoint_6 : decode cX1_pairPoint 6 = .ok (.getfield 24, 3) := by decide +kernel
theorem dX1_pairPoint_9 : decode cX1_pairPoint 9 = .ok (.if_icmp .lt 5, 3) := by decide +kernel
theorem dX1_pairPoint_12 : decode cX1_pairPoint 12 = .ok (.iconst (-1), 1) := by decide +kernel
theorem dX1_pairPoint_13 : decode cX1_pairPoint 13 = .ok (.ireturn, 1) := by decide +kernel
theorem dX1_pairPoint_14 : decode cX1_pairPoint 14 = .ok (.iload_n 2, 1) := by decide +kernel
theorem dX1_pairPoint_15 : decode cX1_pairPoint 15 = .ok (.ifCond .eq 12, 3) := by decide +kernel
theorem dX1_pairPoint_18 : decode cX1_pairPoint 18 = .ok (.aload_n 0, 1) := by decide +kernel
theorem dX1_pairPoint_19 : decode cX1_pairPoint 19 = .ok (.getfield 46, 3) := by decide +kernel
theorem dX1_pairPoint_22 : decode cX1_pairPoint 22 = .ok (.iload_n 1, 1) := by decide +kernel
theorem dX1_pairPoint_23 : decode cX1_pairPoint 23 = .ok (.iaload, 1) := by decide +kernel
theorem dX1_pairPoint_24 : decode cX1_pairPoint 24 = .ok (.goto 9, 3) := by decide +kernel
theorem dX1_pairPoint_27 : decode cX1_pairPoint 27 = .ok (.aload_n 0, 1) := by decide +kernel
theorem dX1_pairPoint_28 : decode cX1_pairPoint 28 = .ok (.getfield 43, 3) := by decide +kernel
theorem dX1_pairPoint_31 : decode cX1_pairPoint 31 = .ok (.iload_n 1, 1) := by decide +kernel
theorem dX1_pairPoint_32 : decode cX1_pairPoint 32 = .ok (.iaload, 1) := by decide +kernel
theorem dX1_pairPoint_33 : decode cX1_pairPoint 33 = .ok (.ireturn, 1) := by decide +kernel
theorem dX1_twinLine_0 : decode cX1_twinLine 0 = .ok (.iload_n 1, 1) := by decide +kernel
theorem dX1_twinLine_1 : decode cX1_twinLine 1 = .ok (.ifCond .lt 11, 3) := by decide +kernel
theorem dX1_twinLine_4 : decode cX1_twinLine 4 = .ok (.iload_n 1, 1) := by decide +kernel
theorem dX1_twinLine_5 : decode cX1_twinLine 5 = .ok (.aload_n 0, 1) := by decide +kernel
theorem dX1_twinLine_6 : decode cX1_twinLine 6 = .ok (.getfield 27, 3) := by decide +kernel
theorem dX1_twinLine_9 : decode cX1_twinLine 9 = .ok (.if_icmp .lt 5, 3) := by decide +kernel
theorem dX1_twinLine_12 : decode cX1_twinLine 12 = .ok (.iconst (-1), 1) := by decide +kernel
theorem dX1_twinLine_13 : decode cX1_twinLine 13 = .ok (.ireturn, 1) := by decide +kernel
theorem dX1_twinLine_14 : decode cX1_twinLine 14 = .ok (.iload_n 2, 1) := by decide +kernel
theorem dX1_twinLine_15 : decode cX1_twinLine 15 = .ok (.ifCond .eq 12, 3) := by decide +kernel
theorem dX1_twinLine_18 : decode cX1_twinLine 18 = .ok (.aload_n 0, 1) := by decide +kernel
theorem dX1_twinLine_19 : decode cX1_twinLine 19 = .ok (.getfield 52, 3) := by decide +kernel
theorem dX1_twinLine_22 : decode cX1_twinLine 22 = .ok (.iload_n 1, 1) := by decide +kernel
theorem dX1_twinLine_23 : decode cX1_twinLine 23 = .ok (.iaload, 1) := by decide +kernel
theorem dX1_twinLine_24 : decode cX1_twinLine 24 = .ok (.goto 9, 3) := by decide +kernel
theorem dX1_twinLine_27 : decode cX1_twinLine 27 = .ok (.aload_n 0, 1) := by decide +kernel
theorem dX1_twinLine_28 : decode cX1_twinLine 28 = .ok (.getfield 49, 3) := by decide +kernel
theorem dX1_twinLine_31 : decode cX1_twinLine 31 = .ok (.iload_n 1, 1) := by decide +kernel
theorem dX1_twinLine_32 : decode cX1_twinLine 32 = .ok (.iaload, 1) := by decide +kernel
theorem dX1_twinLine_33 : decode cX1_twinLine 33 = .ok (.ireturn, 1) := by decide +kernel
set_option maxRecDepth 20000 in
theorem ggX1_numberParts_X6_has : GoodIn wsX1_numberParts wsX6_has := goodIn_r _ [5] (by decide +kernel) (by decide +kernel)
set_option maxRecDepth 20000 in
theorem gX1_numberParts_X6_has_n89 : GoodIn wsX1_numberParts (wsX6_has) := ggX1_numberParts_X6_has
set_option maxRecDepth 20000 in
theorem ggX1_numberParts_X5_allPoints : GoodIn wsX1_numberParts wsX5_allPoints := goodIn_r _ [10, 11, 40, 41, 42, 43, 44, 45, 46, 47] (by decide +kernel) (by decide +kernel)
set_option maxRecDepth 20000 in
theorem gX1_numberParts_X5_allPoints : GoodIn wsX1_numberParts (wsV RX1 101 RX5 yX5_allPoints wsX5_allPoints) := goodIn_app (goodIn_of _ (by decide +kernel)) ggX1_numberParts_X5_allPoints
set_option maxRecDepth 20000 in
theorem ggX1_numberParts_X5_reach : GoodIn wsX1_numberParts wsX5_reach := goodIn_r _ [15, 16, 17, 40, 41, 42, 43, 44, 45, 46, 47] (by decide +kernel) (by decide +kernel)
set_option maxRecDepth 20000 in
theorem gX1_numberParts_X5_reach : GoodIn wsX1_numberParts (wsV RX1 108 RX5 yX5_reach wsX5_reach) := goodIn_app (goodIn_of _ (by decide +kernel)) ggX1_numberParts_X5_reach
set_option maxRecDepth 20000 in
theorem ggX1_numberParts_X1_putInPart : GoodIn wsX1_numberParts wsX1_putInPart := goodIn_r _ [22, 2, 23, 1, 24, 3, 4, 5, 25, 26, 27, 28, 29, 30, 31, 32, 33, 34, 35, 36, 37, 38, 39, 40, 41, 42, 43, 44, 45, 46, 47] (by decide +kernel) (by decide +kernel)
set_option maxRecDepth 20000 in
theorem gX1_numberParts_X1_putInPart : GoodIn wsX1_numberParts (wsV RX1 112 RX1 yX1_putInPart wsX1_putInPart) := goodIn_app (goodIn_of _ (by decide +kernel)) ggX1_numberParts_X1_putInPart
theorem dX1_numberParts_0 : decode cX1_numberParts 0 = .ok (.aload_n 0, 1) := by decide +kernel
theorem dX1_numberParts_1 : decode cX1_numberParts 1 = .ok (.iconst 0, 1) := by decide +kernel
theorem dX1_numberParts_2 : decode cX1_numberParts 2 = .ok (.putfield 9, 3) := by decide +kernel
theorem dX1_numberParts_5 : decode cX1_numberParts 5 = .ok (.iconst 0, 1) := by decide +kernel
theorem dX1_numberParts_6 : decode cX1_numberParts 6 = .ok (.istore_n 1, 1) := by decide +kernel
theorem dX1_numberParts_7 : decode cX1_numberParts 7 = .ok (.iconst 0, 1) := by decide +kernel
theorem dX1_numberParts_8 : decode cX1_numberParts 8 = .ok (.istore_n 2, 1) := by decide +kernel
theorem dX1_numberParts_9 : decode cX1_numberParts 9 = .ok (.iload_n 2, 1) := by decide +kernel
theorem dX1_numberParts_10 : decode cX1_numberParts 10 = .ok (.aload_n 0, 1) := by decide +kernel
theorem dX1_numberParts_11 : decode cX1_numberParts 11 = .ok (.getfield 55, 3) := by decide +kernel
theorem dX1_numberParts_14 : decode cX1_numberParts 14 = .ok (.getfield 98, 3) := by decide +kernel
theorem dX1_numberParts_17 : decode cX1_numberParts 17 = .ok (.if_icmp .ge 59, 3) := by decide +kernel
theorem dX1_numberParts_20 : decode cX1_numberParts 20 = .ok (.iload_n 1, 1) := by decide +kernel
theorem dX1_numberParts_21 : decode cX1_numberParts 21 = .ok (.iload_n 2, 1) := by decide +kernel
theorem dX1_numberParts_22 : decode cX1_numberParts 22 = .ok (.invokestatic 89, 3) := by decide +kernel
theorem dX1_numberParts_25 : decode cX1_numberParts 25 = .ok (.ifCond .ne 45, 3) := by decide +kernel
theorem dX1_numberParts_28 : decode cX1_numberParts 28 = .ok (.aload_n 0, 1) := by decide +kernel
theorem dX1_numberParts_29 : decode cX1_numberParts 29 = .ok (.getfield 55, 3) := by decide +kernel
theorem dX1_numberParts_32 : decode cX1_numberParts 32 = .ok (.iload_n 2, 1) := by decide +kernel
theorem dX1_numberParts_33 : decode cX1_numberParts 33 = .ok (.aload_n 0, 1) := by decide +kernel
theorem dX1_numberParts_34 : decode cX1_numberParts 34 = .ok (.getfield 55, 3) := by decide +kernel
theorem dX1_numberParts_37 : decode cX1_numberParts 37 = .ok (.invokevirtual 101, 3) := by decide +kernel
theorem dX1_numberParts_40 : decode cX1_numberParts 40 = .ok (.aload_n 0, 1) := by decide +kernel
theorem dX1_numberParts_41 : decode cX1_numberParts 41 = .ok (.getfield 55, 3) := by decide +kernel
theorem dX1_numberParts_44 : decode cX1_numberParts 44 = .ok (.getfield 105, 3) := by decide +kernel
theorem dX1_numberParts_47 : decode cX1_numberParts 47 = .ok (.invokevirtual 108, 3) := by decide +kernel
theorem dX1_numberParts_50 : decode cX1_numberParts 50 = .ok (.istore_n 3, 1) := by decide +kernel
theorem dX1_numberParts_51 : decode cX1_numberParts 51 = .ok (.aload_n 0, 1) := by decide +kernel
theorem dX1_numberParts_52 : decode cX1_numberParts 52 = .ok (.iload_n 3, 1) := by decide +kernel
theorem dX1_numberParts_53 : decode cX1_numberParts 53 = .ok (.invokevirtual 112, 3) := by decide +kernel
theorem dX1_numberParts_56 : decode cX1_numberParts 56 = .ok (.iload_n 1, 1) := by decide +kernel
theorem dX1_numberParts_57 : decode cX1_numberParts 57 = .ok (.iload_n 3, 1) := by decide +kernel
theorem dX1_numberParts_58 : decode cX1_numberParts 58 = .ok (.ior, 1) := by decide +kernel
theorem dX1_numberParts_59 : decode cX1_numberParts 59 = .ok (.istore_n 1, 1) := by decide +kernel
theorem dX1_numberParts_60 : decode cX1_numberParts 60 = .ok (.aload_n 0, 1) := by decide +kernel
theorem dX1_numberParts_61 : decode cX1_numberParts 61 = .ok (.dup, 1) := by decide +kernel
theorem dX1_numberParts_62 : decode cX1_numberParts 62 = .ok (.getfield 9, 3) := by decide +kernel
theorem dX1_numberParts_65 : decode cX1_numberParts 65 = .ok (.iconst 1, 1) := by decide +kernel
theorem dX1_numberParts_66 : decode cX1_numberParts 66 = .ok (.iadd, 1) := by decide +kernel
theorem dX1_numberParts_67 : decode cX1_numberParts 67 = .ok (.putfield 9, 3) := by decide +kernel
theorem dX1_numberParts_70 : decode cX1_numberParts 70 = .ok (.iinc 2 1, 3) := by decide +kernel
theorem dX1_numberParts_73 : decode cX1_numberParts 73 = .ok (.goto (-64), 3) := by decide +kernel
theorem dX1_numberParts_76 : decode cX1_numberParts 76 = .ok (.return_, 1) := by decide +kernel
set_option maxRecDepth 20000 in
theorem ggX1_putInPart_X6_has : GoodIn wsX1_putInPart wsX6_has := goodIn_r _ [7] (by decide +kernel) (by decide +kernel)
set_option maxRecDepth 20000 in
theorem gX1_putInPart_X6_has_n89 : GoodIn wsX1_putInPart (wsX6_has) := ggX1_putInPart_X6_has
theorem dX1_putInPart_0 : decode cX1_putInPart 0 = .ok (.iconst 0, 1) := by decide +kernel
theorem dX1_putInPart_1 : decode cX1_putInPart 1 = .ok (.istore_n 2, 1) := by decide +kernel
theorem dX1_putInPart_2 : decode cX1_putInPart 2 = .ok (.iload_n 2, 1) := by decide +kernel
theorem dX1_putInPart_3 : decode cX1_putInPart 3 = .ok (.aload_n 0, 1) := by decide +kernel
theorem dX1_putInPart_4 : decode cX1_putInPart 4 = .ok (.getfield 55, 3) := by decide +kernel
theorem dX1_putInPart_7 : decode cX1_putInPart 7 = .ok (.getfield 98, 3) := by decide +kernel
theorem dX1_putInPart_10 : decode cX1_putInPart 10 = .ok (.if_icmp .ge 34, 3) := by decide +kernel
theorem dX1_putInPart_13 : decode cX1_putInPart 13 = .ok (.iload_n 1, 1) := by decide +kernel
theorem dX1_putInPart_14 : decode cX1_putInPart 14 = .ok (.iload_n 2, 1) := by decide +kernel
theorem dX1_putInPart_15 : decode cX1_putInPart 15 = .ok (.invokestatic 89, 3) := by decide +kernel
theorem dX1_putInPart_18 : decode cX1_putInPart 18 = .ok (.ifCond .eq 20, 3) := by decide +kernel
theorem dX1_putInPart_21 : decode cX1_putInPart 21 = .ok (.aload_n 0, 1) := by decide +kernel
theorem dX1_putInPart_22 : decode cX1_putInPart 22 = .ok (.getfield 30, 3) := by decide +kernel
theorem dX1_putInPart_25 : decode cX1_putInPart 25 = .ok (.iload_n 2, 1) := by decide +kernel
theorem dX1_putInPart_26 : decode cX1_putInPart 26 = .ok (.aload_n 0, 1) := by decide +kernel
theorem dX1_putInPart_27 : decode cX1_putInPart 27 = .ok (.getfield 9, 3) := by decide +kernel
theorem dX1_putInPart_30 : decode cX1_putInPart 30 = .ok (.iastore, 1) := by decide +kernel
theorem dX1_putInPart_31 : decode cX1_putInPart 31 = .ok (.aload_n 0, 1) := by decide +kernel
theorem dX1_putInPart_32 : decode cX1_putInPart 32 = .ok (.getfield 34, 3) := by decide +kernel
theorem dX1_putInPart_35 : decode cX1_putInPart 35 = .ok (.iload_n 2, 1) := by decide +kernel
theorem dX1_putInPart_36 : decode cX1_putInPart 36 = .ok (.iload_n 1, 1) := by decide +kernel
theorem dX1_putInPart_37 : decode cX1_putInPart 37 = .ok (.iastore, 1) := by decide +kernel
theorem dX1_putInPart_38 : decode cX1_putInPart 38 = .ok (.iinc 2 1, 3) := by decide +kernel
theorem dX1_putInPart_41 : decode cX1_putInPart 41 = .ok (.goto (-39), 3) := by decide +kernel
theorem dX1_putInPart_44 : decode cX1_putInPart 44 = .ok (.return_, 1) := by decide +kernel
set_option maxRecDepth 20000 in
theorem ggX1_findBridges_X6_has : GoodIn wsX1_findBridges wsX6_has := goodIn_r _ [6] (by decide +kernel) (by decide +kernel)
set_option maxRecDepth 20000 in
theorem gX1_findBridges_X6_has_n89 : GoodIn wsX1_findBridges (wsX6_has) := ggX1_findBridges_X6_has
set_option maxRecDepth 20000 in
theorem ggX1_findBridges_X5_allPoints : GoodIn wsX1_findBridges wsX5_allPoints := goodIn_r _ [11, 12, 38, 39, 40, 41, 42, 43, 44, 45] (by decide +kernel) (by decide +kernel)
set_option maxRecDepth 20000 in
theorem gX1_findBridges_X5_allPoints : GoodIn wsX1_findBridges (wsV RX1 101 RX5 yX5_allPoints wsX5_allPoints) := goodIn_app (goodIn_of _ (by decide +kernel)) ggX1_findBridges_X5_allPoints
set_option maxRecDepth 20000 in
theorem ggX1_findBridges_X5_countParts : GoodIn wsX1_findBridges wsX5_countParts := goodIn_r _ [16, 12, 4, 5, 6, 17, 18, 19, 10, 20, 21, 22, 38, 39, 40, 41, 42, 43, 44, 45] (by decide +kernel) (by decide +kernel)
set_option maxRecDepth 20000 in
theorem gX1_findBridges_X5_countParts : GoodIn wsX1_findBridges (wsV RX1 116 RX5 yX5_countParts wsX5_countParts) := goodIn_app (goodIn_of _ (by decide +kernel)) ggX1_findBridges_X5_countParts
theorem dX1_findBridges_0 : decode cX1_findBridges 0 = .ok (.aload_n 0, 1) := by decide +kernel
theorem dX1_findBridges_1 : decode cX1_findBridges 1 = .ok (.iconst 0, 1) := by decide +kernel
theorem dX1_findBridges_2 : decode cX1_findBridges 2 = .ok (.putfield 15, 3) := by decide +kernel
theorem dX1_findBridges_5 : decode cX1_findBridges 5 = .ok (.iconst 0, 1) := by decide +kernel
theorem dX1_findBridges_6 : decode cX1_findBridges 6 = .ok (.istore_n 1, 1) := by decide +kernel
theorem dX1_findBridges_7 : decode cX1_findBridges 7 = .ok (.iload_n 1, 1) := by decide +kernel
theorem dX1_findBridges_8 : decode cX1_findBridges 8 = .ok (.aload_n 0, 1) := by decide +kernel
theorem dX1_findBridges_9 : decode cX1_findBridges 9 = .ok (.getfield 55, 3) := by decide +kernel
theorem dX1_findBridges_12 : decode cX1_findBridges 12 = .ok (.getfield 80, 3) := by decide +kernel
theorem dX1_findBridges_15 : decode cX1_findBridges 15 = .ok (.if_icmp .ge 71, 3) := by decide +kernel
theorem dX1_findBridges_18 : decode cX1_findBridges 18 = .ok (.aload_n 0, 1) := by decide +kernel
theorem dX1_findBridges_19 : decode cX1_findBridges 19 = .ok (.getfield 55, 3) := by decide +kernel
theorem dX1_findBridges_22 : decode cX1_findBridges 22 = .ok (.getfield 105, 3) := by decide +kernel
theorem dX1_findBridges_25 : decode cX1_findBridges 25 = .ok (.iconst 1, 1) := by decide +kernel
theorem dX1_findBridges_26 : decode cX1_findBridges 26 = .ok (.iload_n 1, 1) := by decide +kernel
theorem dX1_findBridges_27 : decode cX1_findBridges 27 = .ok (.ishl, 1) := by decide +kernel
theorem dX1_findBridges_28 : decode cX1_findBridges 28 = .ok (.iconst (-1), 1) := by decide +kernel
theorem dX1_findBridges_29 : decode cX1_findBridges 29 = .ok (.ixor, 1) := by decide +kernel
theorem dX1_findBridges_30 : decode cX1_findBridges 30 = .ok (.iand, 1) := by decide +kernel
theorem dX1_findBridges_31 : decode cX1_findBridges 31 = .ok (.istore_n 2, 1) := by decide +kernel
theorem dX1_findBridges_32 : decode cX1_findBridges 32 = .ok (.aload_n 0, 1) := by decide +kernel
theorem dX1_findBridges_33 : decode cX1_findBridges 33 = .ok (.getfield 55, 3) := by decide +kernel
theorem dX1_findBridges_36 : decode cX1_findBridges 36 = .ok (.getfield 105, 3) := by decide +kernel
theorem dX1_findBridges_39 : decode cX1_findBridges 39 = .ok (.iload_n 1, 1) := by decide +kernel
theorem dX1_findBridges_40 : decode cX1_findBridges 40 = .ok (.invokestatic 89, 3) := by decide +kernel
theorem dX1_findBridges_43 : decode cX1_findBridges 43 = .ok (.ifCond .eq 37, 3) := by decide +kernel
theorem dX1_findBridges_46 : decode cX1_findBridges 46 = .ok (.aload_n 0, 1) := by decide +kernel
theorem dX1_findBridges_47 : decode cX1_findBridges 47 = .ok (.getfield 55, 3) := by decide +kernel
theorem dX1_findBridges_50 : decode cX1_findBridges 50 = .ok (.aload_n 0, 1) := by decide +kernel
theorem dX1_findBridges_51 : decode cX1_findBridges 51 = .ok (.getfield 55, 3) := by decide +kernel
theorem dX1_findBridges_54 : decode cX1_findBridges 54 = .ok (.invokevirtual 101, 3) := by decide +kernel
theorem dX1_findBridges_57 : decode cX1_findBridges 57 = .ok (.iload_n 2, 1) := by decide +kernel
theorem dX1_findBridges_58 : decode cX1_findBridges 58 = .ok (.invokevirtual 116, 3) := by decide +kernel
theorem dX1_findBridges_61 : decode cX1_findBridges 61 = .ok (.aload_n 0, 1) := by decide +kernel
theorem dX1_findBridges_62 : decode cX1_findBridges 62 = .ok (.getfield 9, 3) := by decide +kernel
theorem dX1_findBridges_65 : decode cX1_findBridges 65 = .ok (.if_icmp .le 15, 3) := by decide +kernel
theorem dX1_findBridges_68 : decode cX1_findBridges 68 = .ok (.aload_n 0, 1) := by decide +kernel
theorem dX1_findBridges_69 : decode cX1_findBridges 69 = .ok (.dup, 1) := by decide +kernel
theorem dX1_findBridges_70 : decode cX1_findBridges 70 = .ok (.getfield 15, 3) := by decide +kernel
theorem dX1_findBridges_73 : decode cX1_findBridges 73 = .ok (.iconst 1, 1) := by decide +kernel
theorem dX1_findBridges_74 : decode cX1_findBridges 74 = .ok (.iload_n 1, 1) := by decide +kernel
theorem dX1_findBridges_75 : decode cX1_findBridges 75 = .ok (.ishl, 1) := by decide +kernel
theorem dX1_findBridges_76 : decode cX1_findBridges 76 = .ok (.ior, 1) := by decide +kernel
theorem dX1_findBridges_77 : decode cX1_findBridges 77 = .ok (.putfield 15, 3) := by decide +kernel
theorem dX1_findBridges_80 : decode cX1_findBridges 80 = .ok (.iinc 1 1, 3) := by decide +kernel
theorem dX1_findBridges_83 : decode cX1_findBridges 83 = .ok (.goto (-76), 3) := by decide +kernel
theorem dX1_findBridges_86 : decode cX1_findBridges 86 = .ok (.return_, 1) := by decide +kernel
set_option maxRecDepth 20000 in
theorem ggX1_findCutPoints_X5_countParts : GoodIn wsX1_findCutPoints wsX5_countParts := goodIn_r _ [8, 9, 10, 11, 12, 13, 14, 15, 7, 16, 17, 18, 34, 35, 36, 37, 38, 39, 40, 41] (by decide +kernel) (by decide +kernel)
set_option maxRecDepth 20000 in
theorem gX1_findCutPoints_X5_countParts : GoodIn wsX1_findCutPoints (wsV RX1 116 RX5 yX5_countParts wsX5_countParts) := goodIn_app (goodIn_of _ (by decide +kernel)) ggX1_findCutPoints_X5_countParts
theorem dX1_findCutPoints_0 : decode cX1_findCutPoints 0 = .ok (.aload_n 0, 1) := by decide +kernel
theorem dX1_findCutPoints_1 : decode cX1_findCutPoints 1 = .ok (.iconst 0, 1) := by decide +kernel
theorem dX1_findCutPoints_2 : decode cX1_findCutPoints 2 = .ok (.putfield 18, 3) := by decide +kernel
theorem dX1_findCutPoints_5 : decode cX1_findCutPoints 5 = .ok (.iconst 0, 1) := by decide +kernel
theorem dX1_findCutPoints_6 : decode cX1_findCutPoints 6 = .ok (.istore_n 1, 1) := by decide +kernel
theorem dX1_findCutPoints_7 : decode cX1_findCutPoints 7 = .ok (.iload_n 1, 1) := by decide +kernel
theorem dX1_findCutPoints_8 : decode cX1_findCutPoints 8 = .ok (.aload_n 0, 1) := by decide +kernel
theorem dX1_findCutPoints_9 : decode cX1_findCutPoints 9 = .ok (.getfield 55, 3) := by decide +kernel
theorem dX1_findCutPoints_12 : decode cX1_findCutPoints 12 = .ok (.getfield 98, 3) := by decide +kernel
theorem dX1_findCutPoints_15 : decode cX1_findCutPoints 15 = .ok (.if_icmp .ge 51, 3) := by decide +kernel
theorem dX1_findCutPoints_18 : decode cX1_findCutPoints 18 = .ok (.aload_n 0, 1) := by decide +kernel
theorem dX1_findCutPoints_19 : decode cX1_findCutPoints 19 = .ok (.getfield 55, 3) := by decide +kernel
theorem dX1_findCutPoints_22 : decode cX1_findCutPoints 22 = .ok (.aload_n 0, 1) := by decide +kernel
theorem dX1_findCutPoints_23 : decode cX1_findCutPoints 23 = .ok (.getfield 34, 3) := by decide +kernel
theorem dX1_findCutPoints_26 : decode cX1_findCutPoints 26 = .ok (.iload_n 1, 1) := by decide +kernel
theorem dX1_findCutPoints_27 : decode cX1_findCutPoints 27 = .ok (.iaload, 1) := by decide +kernel
theorem dX1_findCutPoints_28 : decode cX1_findCutPoints 28 = .ok (.iconst 1, 1) := by decide +kernel
theorem dX1_findCutPoints_29 : decode cX1_findCutPoints 29 = .ok (.iload_n 1, 1) := by decide +kernel
theorem dX1_findCutPoints_30 : decode cX1_findCutPoints 30 = .ok (.ishl, 1) := by decide +kernel
theorem dX1_findCutPoints_31 : decode cX1_findCutPoints 31 = .ok (.iconst (-1), 1) := by decide +kernel
theorem dX1_findCutPoints_32 : decode cX1_findCutPoints 32 = .ok (.ixor, 1) := by decide +kernel
theorem dX1_findCutPoints_33 : decode cX1_findCutPoints 33 = .ok (.iand, 1) := by decide +kernel
theorem dX1_findCutPoints_34 : decode cX1_findCutPoints 34 = .ok (.aload_n 0, 1) := by decide +kernel
theorem dX1_findCutPoints_35 : decode cX1_findCutPoints 35 = .ok (.getfield 55, 3) := by decide +kernel
theorem dX1_findCutPoints_38 : decode cX1_findCutPoints 38 = .ok (.getfield 105, 3) := by decide +kernel
theorem dX1_findCutPoints_41 : decode cX1_findCutPoints 41 = .ok (.invokevirtual 116, 3) := by decide +kernel
theorem dX1_findCutPoints_44 : decode cX1_findCutPoints 44 = .ok (.iconst 1, 1) := by decide +kernel
theorem dX1_findCutPoints_45 : decode cX1_findCutPoints 45 = .ok (.if_icmp .le 15, 3) := by decide +kernel
theorem dX1_findCutPoints_48 : decode cX1_findCutPoints 48 = .ok (.aload_n 0, 1) := by decide +kernel
theorem dX1_findCutPoints_49 : decode cX1_findCutPoints 49 = .ok (.dup, 1) := by decide +kernel
theorem dX1_findCutPoints_50 : decode cX1_findCutPoints 50 = .ok (.getfield 18, 3) := by decide +kernel
theorem dX1_findCutPoints_53 : decode cX1_findCutPoints 53 = .ok (.iconst 1, 1) := by decide +kernel
theorem dX1_findCutPoints_54 : decode cX1_findCutPoints 54 = .ok (.iload_n 1, 1) := by decide +kernel
theorem dX1_findCutPoints_55 : decode cX1_findCutPoints 55 = .ok (.ishl, 1) := by decide +kernel
theorem dX1_findCutPoints_56 : decode cX1_findCutPoints 56 = .ok (.ior, 1) := by decide +kernel
theorem dX1_findCutPoints_57 : decode cX1_findCutPoints 57 = .ok (.putfield 18, 3) := by decide +kernel
theorem dX1_findCutPoints_60 : decode cX1_findCutPoints 60 = .ok (.iinc 1 1, 3) := by decide +kernel
theorem dX1_findCutPoints_63 : decode cX1_findCutPoints 63 = .ok (.goto (-56), 3) := by decide +kernel
theorem dX1_findCutPoints_66 : decode cX1_findCutPoints 66 = .ok (.return_, 1) := by decide +kernel
set_option maxRecDepth 20000 in
theorem ggX1_joinBlocks_X5_standingAt : GoodIn wsX1_joinBlocks wsX5_standingAt := goodIn_r _ [7, 8, 9, 58, 59, 60, 61, 62, 63, 64, 65] (by decide +kernel) (by decide +kernel)
set_option maxRecDepth 20000 in
theorem gX1_joinBlocks_X5_standingAt : GoodIn wsX1_joinBlocks (wsV RX1 85 RX5 yX5_standingAt wsX5_standingAt) := goodIn_app (goodIn_of _ (by decide +kernel)) ggX1_joinBlocks_X5_standingAt
set_option maxRecDepth 20000 in
theorem ggX1_joinBlocks_X6_has : GoodIn wsX1_joinBlocks wsX6_has := goodIn_r _ [12] (by decide +kernel) (by decide +kernel)
set_option maxRecDepth 20000 in
theorem gX1_joinBlocks_X6_has_n89 : GoodIn wsX1_joinBlocks (wsX6_has) := ggX1_joinBlocks_X6_has
set_option maxRecDepth 20000 in
theorem ggX1_joinBlocks_X1_joinAtPoint : GoodIn wsX1_joinBlocks wsX1_joinAtPoint := goodIn_r _ [17, 1, 2, 18, 19, 20, 6, 21, 22, 23, 24, 25, 26, 27, 28, 29, 30, 31, 32, 33, 34, 3, 4, 5, 7, 8, 9, 10, 11, 12, 35, 36, 37, 16, 38, 39, 40, 41, 42, 43, 44, 45, 46, 47, 48, 49, 50, 51, 52, 53, 54, 55, 56, 57, 58, 59, 60, 61, 62, 63, 64, 65] (by decide +kernel) (by decide +kernel)
set_option maxRecDepth 20000 in
theorem gX1_joinBlocks_X1_joinAtPoint : GoodIn wsX1_joinBlocks (wsV RX1 120 RX1 yX1_joinAtPoint wsX1_joinAtPoint) := goodIn_app (goodIn_of _ (by decide +kernel)) ggX1_joinBlocks_X1_joinAtPoint
theorem dX1_joinBlocks_0 : decode cX1_joinBlocks 0 = .ok (.iconst 0, 1) := by decide +kernel
theorem dX1_joinBlocks_1 : decode cX1_joinBlocks 1 = .ok (.istore_n 1, 1) := by decide +kernel
theorem dX1_joinBlocks_2 : decode cX1_joinBlocks 2 = .ok (.iload_n 1, 1) := by decide +kernel
theorem dX1_joinBlocks_3 : decode cX1_joinBlocks 3 = .ok (.aload_n 0, 1) := by decide +kernel
theorem dX1_joinBlocks_4 : decode cX1_joinBlocks 4 = .ok (.getfield 55, 3) := by decide +kernel
theorem dX1_joinBlocks_7 : decode cX1_joinBlocks 7 = .ok (.getfield 80, 3) := by decide +kernel
theorem dX1_joinBlocks_10 : decode cX1_joinBlocks 10 = .ok (.if_icmp .ge 16, 3) := by decide +kernel
theorem dX1_joinBlocks_13 : decode cX1_joinBlocks 13 = .ok (.aload_n 0, 1) := by decide +kernel
theorem dX1_joinBlocks_14 : decode cX1_joinBlocks 14 = .ok (.getfield 37, 3) := by decide +kernel
theorem dX1_joinBlocks_17 : decode cX1_joinBlocks 17 = .ok (.iload_n 1, 1) := by decide +kernel
theorem dX1_joinBlocks_18 : decode cX1_joinBlocks 18 = .ok (.iload_n 1, 1) := by decide +kernel
theorem dX1_joinBlocks_19 : decode cX1_joinBlocks 19 = .ok (.iastore, 1) := by decide +kernel
theorem dX1_joinBlocks_20 : decode cX1_joinBlocks 20 = .ok (.iinc 1 1, 3) := by decide +kernel
theorem dX1_joinBlocks_23 : decode cX1_joinBlocks 23 = .ok (.goto (-21), 3) := by decide +kernel
theorem dX1_joinBlocks_26 : decode cX1_joinBlocks 26 = .ok (.iconst 0, 1) := by decide +kernel
theorem dX1_joinBlocks_27 : decode cX1_joinBlocks 27 = .ok (.istore_n 1, 1) := by decide +kernel
theorem dX1_joinBlocks_28 : decode cX1_joinBlocks 28 = .ok (.iload_n 1, 1) := by decide +kernel
theorem dX1_joinBlocks_29 : decode cX1_joinBlocks 29 = .ok (.aload_n 0, 1) := by decide +kernel
theorem dX1_joinBlocks_30 : decode cX1_joinBlocks 30 = .ok (.getfield 55, 3) := by decide +kernel
theorem dX1_joinBlocks_33 : decode cX1_joinBlocks 33 = .ok (.getfield 98, 3) := by decide +kernel
theorem dX1_joinBlocks_36 : decode cX1_joinBlocks 36 = .ok (.if_icmp .ge 49, 3) := by decide +kernel
theorem dX1_joinBlocks_39 : decode cX1_joinBlocks 39 = .ok (.iconst 0, 1) := by decide +kernel
theorem dX1_joinBlocks_40 : decode cX1_joinBlocks 40 = .ok (.istore_n 2, 1) := by decide +kernel
theorem dX1_joinBlocks_41 : decode cX1_joinBlocks 41 = .ok (.iload_n 2, 1) := by decide +kernel
theorem dX1_joinBlocks_42 : decode cX1_joinBlocks 42 = .ok (.aload_n 0, 1) := by decide +kernel
theorem dX1_joinBlocks_43 : decode cX1_joinBlocks 43 = .ok (.getfield 55, 3) := by decide +kernel
theorem dX1_joinBlocks_46 : decode cX1_joinBlocks 46 = .ok (.getfield 80, 3) := by decide +kernel
theorem dX1_joinBlocks_49 : decode cX1_joinBlocks 49 = .ok (.if_icmp .ge 30, 3) := by decide +kernel
theorem dX1_joinBlocks_52 : decode cX1_joinBlocks 52 = .ok (.aload_n 0, 1) := by decide +kernel
theorem dX1_joinBlocks_53 : decode cX1_joinBlocks 53 = .ok (.getfield 55, 3) := by decide +kernel
theorem dX1_joinBlocks_56 : decode cX1_joinBlocks 56 = .ok (.iload_n 1, 1) := by decide +kernel
theorem dX1_joinBlocks_57 : decode cX1_joinBlocks 57 = .ok (.invokevirtual 85, 3) := by decide +kernel
theorem dX1_joinBlocks_60 : decode cX1_joinBlocks 60 = .ok (.iload_n 2, 1) := by decide +kernel
theorem dX1_joinBlocks_61 : decode cX1_joinBlocks 61 = .ok (.invokestatic 89, 3) := by decide +kernel
theorem dX1_joinBlocks_64 : decode cX1_joinBlocks 64 = .ok (.ifCond .eq 9, 3) := by decide +kernel
theorem dX1_joinBlocks_67 : decode cX1_joinBlocks 67 = .ok (.aload_n 0, 1) := by decide +kernel
theorem dX1_joinBlocks_68 : decode cX1_joinBlocks 68 = .ok (.iload_n 1, 1) := by decide +kernel
theorem dX1_joinBlocks_69 : decode cX1_joinBlocks 69 = .ok (.iload_n 2, 1) := by decide +kernel
theorem dX1_joinBlocks_70 : decode cX1_joinBlocks 70 = .ok (.invokevirtual 120, 3) := by decide +kernel
theorem dX1_joinBlocks_73 : decode cX1_joinBlocks 73 = .ok (.iinc 2 1, 3) := by decide +kernel
theorem dX1_joinBlocks_76 : decode cX1_joinBlocks 76 = .ok (.goto (-35), 3) := by decide +kernel
theorem dX1_joinBlocks_79 : decode cX1_joinBlocks 79 = .ok (.iinc 1 1, 3) := by decide +kernel
theorem dX1_joinBlocks_82 : decode cX1_joinBlocks 82 = .ok (.goto (-54), 3) := by decide +kernel
theorem dX1_joinBlocks_85 : decode cX1_joinBlocks 85 = .ok (.return_, 1) := by decide +kernel
set_option maxRecDepth 20000 in
theorem ggX1_joinAtPoint_X5_allPoints : GoodIn wsX1_joinAtPoint wsX5_allPoints := goodIn_r _ [7, 8, 54, 55, 56, 57, 58, 59, 60, 61] (by decide +kernel) (by decide +kernel)
set_option maxRecDepth 20000 in
theorem gX1_joinAtPoint_X5_allPoints : GoodIn wsX1_joinAtPoint (wsV RX1 101 RX5 yX5_allPoints wsX5_allPoints) := goodIn_app (goodIn_of _ (by decide +kernel)) ggX1_joinAtPoint_X5_allPoints
set_option maxRecDepth 20000 in
theorem ggX1_joinAtPoint_X5_otherEnd : GoodIn wsX1_joinAtPoint wsX5_otherEnd := goodIn_r _ [12, 13, 14, 54, 55, 56, 57, 58, 59, 60, 61] (by decide +kernel) (by decide +kernel)
set_option maxRecDepth 20000 in
theorem gX1_joinAtPoint_X5_otherEnd : GoodIn wsX1_joinAtPoint (wsV RX1 124 RX5 yX5_otherEnd wsX5_otherEnd) := goodIn_app (goodIn_of _ (by decide +kernel)) ggX1_joinAtPoint_X5_otherEnd
set_option maxRecDepth 20000 in
theorem ggX1_joinAtPoint_X5_reach : GoodIn wsX1_joinAtPoint wsX5_reach := goodIn_r _ [18, 19, 20, 54, 55, 56, 57, 58, 59, 60, 61] (by decide +kernel) (by decide +kernel)
set_option maxRecDepth 20000 in
theorem gX1_joinAtPoint_X5_reach : GoodIn wsX1_joinAtPoint (wsV RX1 108 RX5 yX5_reach wsX5_reach) := goodIn_app (goodIn_of _ (by decide +kernel)) ggX1_joinAtPoint_X5_reach
set_option maxRecDepth 20000 in
theorem ggX1_joinAtPoint_X5_standingAt : GoodIn wsX1_joinAtPoint wsX5_standingAt := goodIn_r _ [24, 25, 26, 54, 55, 56, 57, 58, 59, 60, 61] (by decide +kernel) (by decide +kernel)
