theorem dX3_paintsFrom_34 : decode cX3_paintsFrom 34 = .ok (.iload_n 3, 1) := by decide +kernel
theorem dX3_paintsFrom_35 : decode cX3_paintsFrom 35 = .ok (.if_icmp .ge 50, 3) := by decide +kernel
theorem dX3_paintsFrom_38 : decode cX3_paintsFrom 38 = .ok (.aload_n 0, 1) := by decide +kernel
theorem dX3_paintsFrom_39 : decode cX3_paintsFrom 39 = .ok (.iload_n 1, 1) := by decide +kernel
theorem dX3_paintsFrom_40 : decode cX3_paintsFrom 40 = .ok (.iload 5, 2) := by decide +kernel
theorem dX3_paintsFrom_42 : decode cX3_paintsFrom 42 = .ok (.iload 4, 2) := by decide +kernel
theorem dX3_paintsFrom_44 : decode cX3_paintsFrom 44 = .ok (.invokevirtual 36, 3) := by decide +kernel
theorem dX3_paintsFrom_47 : decode cX3_paintsFrom 47 = .ok (.ifCond .eq 32, 3) := by decide +kernel
theorem dX3_paintsFrom_50 : decode cX3_paintsFrom 50 = .ok (.aload_n 0, 1) := by decide +kernel
theorem dX3_paintsFrom_51 : decode cX3_paintsFrom 51 = .ok (.getfield 15, 3) := by decide +kernel
theorem dX3_paintsFrom_54 : decode cX3_paintsFrom 54 = .ok (.iload_n 1, 1) := by decide +kernel
theorem dX3_paintsFrom_55 : decode cX3_paintsFrom 55 = .ok (.iload 5, 2) := by decide +kernel
theorem dX3_paintsFrom_57 : decode cX3_paintsFrom 57 = .ok (.iastore, 1) := by decide +kernel
theorem dX3_paintsFrom_58 : decode cX3_paintsFrom 58 = .ok (.aload_n 0, 1) := by decide +kernel
theorem dX3_paintsFrom_59 : decode cX3_paintsFrom 59 = .ok (.iload_n 1, 1) := by decide +kernel
theorem dX3_paintsFrom_60 : decode cX3_paintsFrom 60 = .ok (.iconst 1, 1) := by decide +kernel
theorem dX3_paintsFrom_61 : decode cX3_paintsFrom 61 = .ok (.iadd, 1) := by decide +kernel
theorem dX3_paintsFrom_62 : decode cX3_paintsFrom 62 = .ok (.iload_n 2, 1) := by decide +kernel
theorem dX3_paintsFrom_63 : decode cX3_paintsFrom 63 = .ok (.iload 5, 2) := by decide +kernel
theorem dX3_paintsFrom_65 : decode cX3_paintsFrom 65 = .ok (.iconst 1, 1) := by decide +kernel
theorem dX3_paintsFrom_66 : decode cX3_paintsFrom 66 = .ok (.iadd, 1) := by decide +kernel
theorem dX3_paintsFrom_67 : decode cX3_paintsFrom 67 = .ok (.invokestatic 39, 3) := by decide +kernel
theorem dX3_paintsFrom_70 : decode cX3_paintsFrom 70 = .ok (.iload_n 3, 1) := by decide +kernel
theorem dX3_paintsFrom_71 : decode cX3_paintsFrom 71 = .ok (.invokevirtual 28, 3) := by decide +kernel
theorem dX3_paintsFrom_74 : decode cX3_paintsFrom 74 = .ok (.ifCond .eq 5, 3) := by decide +kernel
theorem dX3_paintsFrom_77 : decode cX3_paintsFrom 77 = .ok (.iconst 1, 1) := by decide +kernel
theorem dX3_paintsFrom_78 : decode cX3_paintsFrom 78 = .ok (.ireturn, 1) := by decide +kernel
theorem dX3_paintsFrom_79 : decode cX3_paintsFrom 79 = .ok (.iinc 5 1, 3) := by decide +kernel
theorem dX3_paintsFrom_82 : decode cX3_paintsFrom 82 = .ok (.goto (-56), 3) := by decide +kernel
theorem dX3_paintsFrom_85 : decode cX3_paintsFrom 85 = .ok (.iconst 0, 1) := by decide +kernel
theorem dX3_paintsFrom_86 : decode cX3_paintsFrom 86 = .ok (.ireturn, 1) := by decide +kernel
set_option maxRecDepth 20000 in
theorem ggX3_isFree_X6_has : GoodIn wsX3_isFree wsX6_has := goodIn_r _ [4] (by decide +kernel) (by decide +kernel)
set_option maxRecDepth 20000 in
theorem gX3_isFree_X6_has_n45 : GoodIn wsX3_isFree (wsX6_has) := ggX3_isFree_X6_has
theorem dX3_isFree_0 : decode cX3_isFree 0 = .ok (.iconst 0, 1) := by decide +kernel
theorem dX3_isFree_1 : decode cX3_isFree 1 = .ok (.istore 4, 2) := by decide +kernel
theorem dX3_isFree_3 : decode cX3_isFree 3 = .ok (.iload 4, 2) := by decide +kernel
theorem dX3_isFree_5 : decode cX3_isFree 5 = .ok (.iload_n 1, 1) := by decide +kernel
theorem dX3_isFree_6 : decode cX3_isFree 6 = .ok (.if_icmp .ge 31, 3) := by decide +kernel
theorem dX3_isFree_9 : decode cX3_isFree 9 = .ok (.iload_n 3, 1) := by decide +kernel
theorem dX3_isFree_10 : decode cX3_isFree 10 = .ok (.iload 4, 2) := by decide +kernel
theorem dX3_isFree_12 : decode cX3_isFree 12 = .ok (.invokestatic 45, 3) := by decide +kernel
theorem dX3_isFree_15 : decode cX3_isFree 15 = .ok (.ifCond .eq 16, 3) := by decide +kernel
theorem dX3_isFree_18 : decode cX3_isFree 18 = .ok (.aload_n 0, 1) := by decide +kernel
theorem dX3_isFree_19 : decode cX3_isFree 19 = .ok (.getfield 15, 3) := by decide +kernel
theorem dX3_isFree_22 : decode cX3_isFree 22 = .ok (.iload 4, 2) := by decide +kernel
theorem dX3_isFree_24 : decode cX3_isFree 24 = .ok (.iaload, 1) := by decide +kernel
theorem dX3_isFree_25 : decode cX3_isFree 25 = .ok (.iload_n 2, 1) := by decide +kernel
theorem dX3_isFree_26 : decode cX3_isFree 26 = .ok (.if_icmp .ne 5, 3) := by decide +kernel
theorem dX3_isFree_29 : decode cX3_isFree 29 = .ok (.iconst 0, 1) := by decide +kernel
theorem dX3_isFree_30 : decode cX3_isFree 30 = .ok (.ireturn, 1) := by decide +kernel
theorem dX3_isFree_31 : decode cX3_isFree 31 = .ok (.iinc 4 1, 3) := by decide +kernel
theorem dX3_isFree_34 : decode cX3_isFree 34 = .ok (.goto (-31), 3) := by decide +kernel
theorem dX3_isFree_37 : decode cX3_isFree 37 = .ok (.iconst 1, 1) := by decide +kernel
theorem dX3_isFree_38 : decode cX3_isFree 38 = .ok (.ireturn, 1) := by decide +kernel
theorem dX4_init_0 : decode cX4_init 0 = .ok (.aload_n 0, 1) := by decide +kernel
theorem dX4_init_1 : decode cX4_init 1 = .ok (.invokespecial 3, 3) := by decide +kernel
theorem dX4_init_4 : decode cX4_init 4 = .ok (.aload_n 0, 1) := by decide +kernel
theorem dX4_init_5 : decode cX4_init 5 = .ok (.bipush 16, 2) := by decide +kernel
theorem dX4_init_7 : decode cX4_init 7 = .ok (.bipush 16, 2) := by decide +kernel
theorem dX4_init_9 : decode cX4_init 9 = .ok (.multianewarray 11 2, 4) := by decide +kernel
theorem dX4_init_13 : decode cX4_init 13 = .ok (.putfield 13, 3) := by decide +kernel
theorem dX4_init_16 : decode cX4_init 16 = .ok (.aload_n 0, 1) := by decide +kernel
theorem dX4_init_17 : decode cX4_init 17 = .ok (.bipush 16, 2) := by decide +kernel
theorem dX4_init_19 : decode cX4_init 19 = .ok (.newarray .int, 2) := by decide +kernel
theorem dX4_init_21 : decode cX4_init 21 = .ok (.putfield 16, 3) := by decide +kernel
theorem dX4_init_24 : decode cX4_init 24 = .ok (.aload_n 0, 1) := by decide +kernel
theorem dX4_init_25 : decode cX4_init 25 = .ok (.bipush 16, 2) := by decide +kernel
theorem dX4_init_27 : decode cX4_init 27 = .ok (.newarray .int, 2) := by decide +kernel
theorem dX4_init_29 : decode cX4_init 29 = .ok (.putfield 20, 3) := by decide +kernel
theorem dX4_init_32 : decode cX4_init 32 = .ok (.aload_n 0, 1) := by decide +kernel
theorem dX4_init_33 : decode cX4_init 33 = .ok (.aload_n 1, 1) := by decide +kernel
theorem dX4_init_34 : decode cX4_init 34 = .ok (.putfield 23, 3) := by decide +kernel
theorem dX4_init_37 : decode cX4_init 37 = .ok (.return_, 1) := by decide +kernel
set_option maxRecDepth 20000 in
theorem ggX4_countWays_X4_clearRoom : GoodIn wsX4_countWays wsX4_clearRoom := goodIn_r _ [7, 2, 25, 26, 27, 28] (by decide +kernel) (by decide +kernel)
set_option maxRecDepth 20000 in
theorem gX4_countWays_X4_clearRoom : GoodIn wsX4_countWays (wsV RX4 27 RX4 yX4_clearRoom wsX4_clearRoom) := goodIn_app (goodIn_of _ (by decide +kernel)) ggX4_countWays_X4_clearRoom
set_option maxRecDepth 20000 in
theorem ggX4_countWays_X6_has : GoodIn wsX4_countWays wsX6_has := goodIn_r _ [10] (by decide +kernel) (by decide +kernel)
set_option maxRecDepth 20000 in
theorem gX4_countWays_X6_has_n42 : GoodIn wsX4_countWays (wsX6_has) := ggX4_countWays_X6_has
set_option maxRecDepth 20000 in
theorem ggX4_countWays_X4_countFlow : GoodIn wsX4_countWays wsX4_countFlow := goodIn_r _ [14, 15, 16, 17, 6, 18, 19, 20, 2, 21, 22, 23, 24, 25, 26, 27, 28] (by decide +kernel) (by decide +kernel)
set_option maxRecDepth 20000 in
theorem gX4_countWays_X4_countFlow : GoodIn wsX4_countWays (wsV RX4 52 RX4 yX4_countFlow wsX4_countFlow) := goodIn_app (goodIn_of _ (by decide +kernel)) ggX4_countWays_X4_countFlow
theorem dX4_countWays_0 : decode cX4_countWays 0 = .ok (.aload_n 0, 1) := by decide +kernel
theorem dX4_countWays_1 : decode cX4_countWays 1 = .ok (.invokevirtual 27, 3) := by decide +kernel
theorem dX4_countWays_4 : decode cX4_countWays 4 = .ok (.iconst 0, 1) := by decide +kernel
theorem dX4_countWays_5 : decode cX4_countWays 5 = .ok (.istore_n 3, 1) := by decide +kernel
theorem dX4_countWays_6 : decode cX4_countWays 6 = .ok (.iload_n 3, 1) := by decide +kernel
theorem dX4_countWays_7 : decode cX4_countWays 7 = .ok (.aload_n 0, 1) := by decide +kernel
theorem dX4_countWays_8 : decode cX4_countWays 8 = .ok (.getfield 23, 3) := by decide +kernel
theorem dX4_countWays_11 : decode cX4_countWays 11 = .ok (.getfield 30, 3) := by decide +kernel
theorem dX4_countWays_14 : decode cX4_countWays 14 = .ok (.if_icmp .ge 48, 3) := by decide +kernel
theorem dX4_countWays_17 : decode cX4_countWays 17 = .ok (.iload_n 3, 1) := by decide +kernel
theorem dX4_countWays_18 : decode cX4_countWays 18 = .ok (.iload_n 1, 1) := by decide +kernel
theorem dX4_countWays_19 : decode cX4_countWays 19 = .ok (.if_icmp .eq 8, 3) := by decide +kernel
theorem dX4_countWays_22 : decode cX4_countWays 22 = .ok (.iload_n 3, 1) := by decide +kernel
theorem dX4_countWays_23 : decode cX4_countWays 23 = .ok (.iload_n 2, 1) := by decide +kernel
theorem dX4_countWays_24 : decode cX4_countWays 24 = .ok (.if_icmp .ne 7, 3) := by decide +kernel
theorem dX4_countWays_27 : decode cX4_countWays 27 = .ok (.iconst 1, 1) := by decide +kernel
theorem dX4_countWays_28 : decode cX4_countWays 28 = .ok (.goto 4, 3) := by decide +kernel
theorem dX4_countWays_31 : decode cX4_countWays 31 = .ok (.iconst 0, 1) := by decide +kernel
theorem dX4_countWays_32 : decode cX4_countWays 32 = .ok (.istore 4, 2) := by decide +kernel
theorem dX4_countWays_34 : decode cX4_countWays 34 = .ok (.aload_n 0, 1) := by decide +kernel
theorem dX4_countWays_35 : decode cX4_countWays 35 = .ok (.getfield 13, 3) := by decide +kernel
theorem dX4_countWays_38 : decode cX4_countWays 38 = .ok (.iload_n 3, 1) := by decide +kernel
theorem dX4_countWays_39 : decode cX4_countWays 39 = .ok (.aaload, 1) := by decide +kernel
theorem dX4_countWays_40 : decode cX4_countWays 40 = .ok (.iload_n 3, 1) := by decide +kernel
theorem dX4_countWays_41 : decode cX4_countWays 41 = .ok (.bipush 8, 2) := by decide +kernel
theorem dX4_countWays_43 : decode cX4_countWays 43 = .ok (.iadd, 1) := by decide +kernel
theorem dX4_countWays_44 : decode cX4_countWays 44 = .ok (.iload 4, 2) := by decide +kernel
theorem dX4_countWays_46 : decode cX4_countWays 46 = .ok (.ifCond .eq 8, 3) := by decide +kernel
theorem dX4_countWays_49 : decode cX4_countWays 49 = .ok (.bipush 17, 2) := by decide +kernel
theorem dX4_countWays_51 : decode cX4_countWays 51 = .ok (.goto 4, 3) := by decide +kernel
theorem dX4_countWays_54 : decode cX4_countWays 54 = .ok (.iconst 1, 1) := by decide +kernel
theorem dX4_countWays_55 : decode cX4_countWays 55 = .ok (.iastore, 1) := by decide +kernel
theorem dX4_countWays_56 : decode cX4_countWays 56 = .ok (.iinc 3 1, 3) := by decide +kernel
theorem dX4_countWays_59 : decode cX4_countWays 59 = .ok (.goto (-53), 3) := by decide +kernel
theorem dX4_countWays_62 : decode cX4_countWays 62 = .ok (.iconst 0, 1) := by decide +kernel
theorem dX4_countWays_63 : decode cX4_countWays 63 = .ok (.istore_n 3, 1) := by decide +kernel
theorem dX4_countWays_64 : decode cX4_countWays 64 = .ok (.iload_n 3, 1) := by decide +kernel
theorem dX4_countWays_65 : decode cX4_countWays 65 = .ok (.aload_n 0, 1) := by decide +kernel
theorem dX4_countWays_66 : decode cX4_countWays 66 = .ok (.getfield 23, 3) := by decide +kernel
theorem dX4_countWays_69 : decode cX4_countWays 69 = .ok (.getfield 36, 3) := by decide +kernel
theorem dX4_countWays_72 : decode cX4_countWays 72 = .ok (.if_icmp .ge 85, 3) := by decide +kernel
theorem dX4_countWays_75 : decode cX4_countWays 75 = .ok (.aload_n 0, 1) := by decide +kernel
theorem dX4_countWays_76 : decode cX4_countWays 76 = .ok (.getfield 23, 3) := by decide +kernel
theorem dX4_countWays_79 : decode cX4_countWays 79 = .ok (.getfield 39, 3) := by decide +kernel
theorem dX4_countWays_82 : decode cX4_countWays 82 = .ok (.iload_n 3, 1) := by decide +kernel
theorem dX4_countWays_83 : decode cX4_countWays 83 = .ok (.invokestatic 42, 3) := by decide +kernel
theorem dX4_countWays_86 : decode cX4_countWays 86 = .ok (.ifCond .eq 65, 3) := by decide +kernel
theorem dX4_countWays_89 : decode cX4_countWays 89 = .ok (.aload_n 0, 1) := by decide +kernel
theorem dX4_countWays_90 : decode cX4_countWays 90 = .ok (.getfield 13, 3) := by decide +kernel
theorem dX4_countWays_93 : decode cX4_countWays 93 = .ok (.aload_n 0, 1) := by decide +kernel
theorem dX4_countWays_94 : decode cX4_countWays 94 = .ok (.getfield 23, 3) := by decide +kernel
theorem dX4_countWays_97 : decode cX4_countWays 97 = .ok (.getfield 46, 3) := by decide +kernel
theorem dX4_countWays_100 : decode cX4_countWays 100 = .ok (.iload_n 3, 1) := by decide +kernel
theorem dX4_countWays_101 : decode cX4_countWays 101 = .ok (.iaload, 1) := by decide +kernel
theorem dX4_countWays_102 : decode cX4_countWays 102 = .ok (.bipush 8, 2) := by decide +kernel
theorem dX4_countWays_104 : decode cX4_countWays 104 = .ok (.iadd, 1) := by decide +kernel
theorem dX4_countWays_105 : decode cX4_countWays 105 = .ok (.aaload, 1) := by decide +kernel
theorem dX4_countWays_106 : decode cX4_countWays 106 = .ok (.aload_n 0, 1) := by decide +kernel
theorem dX4_countWays_107 : decode cX4_countWays 107 = .ok (.getfield 23, 3) := by decide +kernel
theorem dX4_countWays_110 : decode cX4_countWays 110 = .ok (.getfield 49, 3) := by decide +kernel
theorem dX4_countWays_113 : decode cX4_countWays 113 = .ok (.iload_n 3, 1) := by decide +kernel
theorem dX4_countWays_114 : decode cX4_countWays 114 = .ok (.iaload, 1) := by decide +kernel
theorem dX4_countWays_115 : decode cX4_countWays 115 = .ok (.dup2, 1) := by decide +kernel
theorem dX4_countWays_116 : decode cX4_countWays 116 = .ok (.iaload, 1) := by decide +kernel
theorem dX4_countWays_117 : decode cX4_countWays 117 = .ok (.iconst 1, 1) := by decide +kernel
theorem dX4_countWays_118 : decode cX4_countWays 118 = .ok (.iadd, 1) := by decide +kernel
theorem dX4_countWays_119 : decode cX4_countWays 119 = .ok (.iastore, 1) := by decide +kernel
theorem dX4_countWays_120 : decode cX4_countWays 120 = .ok (.aload_n 0, 1) := by decide +kernel
theorem dX4_countWays_121 : decode cX4_countWays 121 = .ok (.getfield 13, 3) := by decide +kernel
theorem dX4_countWays_124 : decode cX4_countWays 124 = .ok (.aload_n 0, 1) := by decide +kernel
theorem dX4_countWays_125 : decode cX4_countWays 125 = .ok (.getfield 23, 3) := by decide +kernel
theorem dX4_countWays_128 : decode cX4_countWays 128 = .ok (.getfield 49, 3) := by decide +kernel
theorem dX4_countWays_131 : decode cX4_countWays 131 = .ok (.iload_n 3, 1) := by decide +kernel
theorem dX4_countWays_132 : decode cX4_countWays 132 = .ok (.iaload, 1) := by decide +kernel
theorem dX4_countWays_133 : decode cX4_countWays 133 = .ok (.bipush 8, 2) := by decide +kernel
theorem dX4_countWays_135 : decode cX4_countWays 135 = .ok (.iadd, 1) := by decide +kernel
theorem dX4_countWays_136 : decode cX4_countWays 136 = .ok (.aaload, 1) := by decide +kernel
theorem dX4_countWays_137 : decode cX4_countWays 137 = .ok (.aload_n 0, 1) := by decide +kernel
theorem dX4_countWays_138 : decode cX4_countWays 138 = .ok (.getfield 23, 3) := by decide +kernel
theorem dX4_countWays_141 : decode cX4_countWays 141 = .ok (.getfield 46, 3) := by decide +kernel
theorem dX4_countWays_144 : decode cX4_countWays 144 = .ok (.iload_n 3, 1) := by decide +kernel
theorem dX4_countWays_145 : decode cX4_countWays 145 = .ok (.iaload, 1) := by decide +kernel
theorem dX4_countWays_146 : decode cX4_countWays 146 = .ok (.dup2, 1) := by decide +kernel
theorem dX4_countWays_147 : decode cX4_countWays 147 = .ok (.iaload, 1) := by decide +kernel
theorem dX4_countWays_148 : decode cX4_countWays 148 = .ok (.iconst 1, 1) := by decide +kernel
theorem dX4_countWays_149 : decode cX4_countWays 149 = .ok (.iadd, 1) := by decide +kernel
theorem dX4_countWays_150 : decode cX4_countWays 150 = .ok (.iastore, 1) := by decide +kernel
theorem dX4_countWays_151 : decode cX4_countWays 151 = .ok (.iinc 3 1, 3) := by decide +kernel
theorem dX4_countWays_154 : decode cX4_countWays 154 = .ok (.goto (-90), 3) := by decide +kernel
theorem dX4_countWays_157 : decode cX4_countWays 157 = .ok (.aload_n 0, 1) := by decide +kernel
theorem dX4_countWays_158 : decode cX4_countWays 158 = .ok (.iload_n 1, 1) := by decide +kernel
theorem dX4_countWays_159 : decode cX4_countWays 159 = .ok (.iload_n 2, 1) := by decide +kernel
theorem dX4_countWays_160 : decode cX4_countWays 160 = .ok (.invokevirtual 52, 3) := by decide +kernel
theorem dX4_countWays_163 : decode cX4_countWays 163 = .ok (.ireturn, 1) := by decide +kernel
set_option maxRecDepth 20000 in
theorem ggX4_countLineWays_X4_clearRoom : GoodIn wsX4_countLineWays wsX4_clearRoom := goodIn_r _ [7, 2, 25, 26, 27, 28] (by decide +kernel) (by decide +kernel)
set_option maxRecDepth 20000 in
theorem gX4_countLineWays_X4_clearRoom : GoodIn wsX4_countLineWays (wsV RX4 27 RX4 yX4_clearRoom wsX4_clearRoom) := goodIn_app (goodIn_of _ (by decide +kernel)) ggX4_countLineWays_X4_clearRoom
set_option maxRecDepth 20000 in
theorem ggX4_countLineWays_X6_has : GoodIn wsX4_countLineWays wsX6_has := goodIn_r _ [10] (by decide +kernel) (by decide +kernel)
set_option maxRecDepth 20000 in
theorem gX4_countLineWays_X6_has_n42 : GoodIn wsX4_countLineWays (wsX6_has) := ggX4_countLineWays_X6_has
set_option maxRecDepth 20000 in
theorem ggX4_countLineWays_X4_countFlow : GoodIn wsX4_countLineWays wsX4_countFlow := goodIn_r _ [14, 15, 16, 17, 6, 18, 19, 20, 2, 21, 22, 23, 24, 25, 26, 27, 28] (by decide +kernel) (by decide +kernel)
set_option maxRecDepth 20000 in
theorem gX4_countLineWays_X4_countFlow : GoodIn wsX4_countLineWays (wsV RX4 52 RX4 yX4_countFlow wsX4_countFlow) := goodIn_app (goodIn_of _ (by decide +kernel)) ggX4_countLineWays_X4_countFlow
theorem dX4_countLineWays_0 : decode cX4_countLineWays 0 = .ok (.aload_n 0, 1) := by decide +kernel
theorem dX4_countLineWays_1 : decode cX4_countLineWays 1 = .ok (.invokevirtual 27, 3) := by decide +kernel
theorem dX4_countLineWays_4 : decode cX4_countLineWays 4 = .ok (.iconst 0, 1) := by decide +kernel
theorem dX4_countLineWays_5 : decode cX4_countLineWays 5 = .ok (.istore_n 3, 1) := by decide +kernel
theorem dX4_countLineWays_6 : decode cX4_countLineWays 6 = .ok (.iload_n 3, 1) := by decide +kernel
theorem dX4_countLineWays_7 : decode cX4_countLineWays 7 = .ok (.aload_n 0, 1) := by decide +kernel
theorem dX4_countLineWays_8 : decode cX4_countLineWays 8 = .ok (.getfield 23, 3) := by decide +kernel
theorem dX4_countLineWays_11 : decode cX4_countLineWays 11 = .ok (.getfield 36, 3) := by decide +kernel
theorem dX4_countLineWays_14 : decode cX4_countLineWays 14 = .ok (.if_icmp .ge 79, 3) := by decide +kernel
theorem dX4_countLineWays_17 : decode cX4_countLineWays 17 = .ok (.aload_n 0, 1) := by decide +kernel
theorem dX4_countLineWays_18 : decode cX4_countLineWays 18 = .ok (.getfield 23, 3) := by decide +kernel
theorem dX4_countLineWays_21 : decode cX4_countLineWays 21 = .ok (.getfield 39, 3) := by decide +kernel
theorem dX4_countLineWays_24 : decode cX4_countLineWays 24 = .ok (.iload_n 3, 1) := by decide +kernel
theorem dX4_countLineWays_25 : decode cX4_countLineWays 25 = .ok (.invokestatic 42, 3) := by decide +kernel
theorem dX4_countLineWays_28 : decode cX4_countLineWays 28 = .ok (.ifCond .eq 59, 3) := by decide +kernel
theorem dX4_countLineWays_31 : decode cX4_countLineWays 31 = .ok (.aload_n 0, 1) := by decide +kernel
theorem dX4_countLineWays_32 : decode cX4_countLineWays 32 = .ok (.getfield 13, 3) := by decide +kernel
theorem dX4_countLineWays_35 : decode cX4_countLineWays 35 = .ok (.aload_n 0, 1) := by decide +kernel
theorem dX4_countLineWays_36 : decode cX4_countLineWays 36 = .ok (.getfield 23, 3) := by decide +kernel
theorem dX4_countLineWays_39 : decode cX4_countLineWays 39 = .ok (.getfield 46, 3) := by decide +kernel
theorem dX4_countLineWays_42 : decode cX4_countLineWays 42 = .ok (.iload_n 3, 1) := by decide +kernel
theorem dX4_countLineWays_43 : decode cX4_countLineWays 43 = .ok (.iaload, 1) := by decide +kernel
theorem dX4_countLineWays_44 : decode cX4_countLineWays 44 = .ok (.aaload, 1) := by decide +kernel
theorem dX4_countLineWays_45 : decode cX4_countLineWays 45 = .ok (.aload_n 0, 1) := by decide +kernel
theorem dX4_countLineWays_46 : decode cX4_countLineWays 46 = .ok (.getfield 23, 3) := by decide +kernel
theorem dX4_countLineWays_49 : decode cX4_countLineWays 49 = .ok (.getfield 49, 3) := by decide +kernel
theorem dX4_countLineWays_52 : decode cX4_countLineWays 52 = .ok (.iload_n 3, 1) := by decide +kernel
theorem dX4_countLineWays_53 : decode cX4_countLineWays 53 = .ok (.iaload, 1) := by decide +kernel
theorem dX4_countLineWays_54 : decode cX4_countLineWays 54 = .ok (.dup2, 1) := by decide +kernel
theorem dX4_countLineWays_55 : decode cX4_countLineWays 55 = .ok (.iaload, 1) := by decide +kernel
theorem dX4_countLineWays_56 : decode cX4_countLineWays 56 = .ok (.iconst 1, 1) := by decide +kernel
theorem dX4_countLineWays_57 : decode cX4_countLineWays 57 = .ok (.iadd, 1) := by decide +kernel
theorem dX4_countLineWays_58 : decode cX4_countLineWays 58 = .ok (.iastore, 1) := by decide +kernel
theorem dX4_countLineWays_59 : decode cX4_countLineWays 59 = .ok (.aload_n 0, 1) := by decide +kernel
theorem dX4_countLineWays_60 : decode cX4_countLineWays 60 = .ok (.getfield 13, 3) := by decide +kernel
theorem dX4_countLineWays_63 : decode cX4_countLineWays 63 = .ok (.aload_n 0, 1) := by decide +kernel
theorem dX4_countLineWays_64 : decode cX4_countLineWays 64 = .ok (.getfield 23, 3) := by decide +kernel
theorem dX4_countLineWays_67 : decode cX4_countLineWays 67 = .ok (.getfield 49, 3) := by decide +kernel
theorem dX4_countLineWays_70 : decode cX4_countLineWays 70 = .ok (.iload_n 3, 1) := by decide +kernel
theorem dX4_countLineWays_71 : decode cX4_countLineWays 71 = .ok (.iaload, 1) := by decide +kernel
theorem dX4_countLineWays_72 : decode cX4_countLineWays 72 = .ok (.aaload, 1) := by decide +kernel
theorem dX4_countLineWays_73 : decode cX4_countLineWays 73 = .ok (.aload_n 0, 1) := by decide +kernel
theorem dX4_countLineWays_74 : decode cX4_countLineWays 74 = .ok (.getfield 23, 3) := by decide +kernel
theorem dX4_countLineWays_77 : decode cX4_countLineWays 77 = .ok (.getfield 46, 3) := by decide +kernel
theorem dX4_countLineWays_80 : decode cX4_countLineWays 80 = .ok (.iload_n 3, 1) := by decide +kernel
theorem dX4_countLineWays_81 : decode cX4_countLineWays 81 = .ok (.iaload, 1) := by decide +kernel
theorem dX4_countLineWays_82 : decode cX4_countLineWays 82 = .ok (.dup2, 1) := by decide +kernel
theorem dX4_countLineWays_83 : decode cX4_countLineWays 83 = .ok (.iaload, 1) := by decide +kernel
theorem dX4_countLineWays_84 : decode cX4_countLineWays 84 = .ok (.iconst 1, 1) := by decide +kernel
theorem dX4_countLineWays_85 : decode cX4_countLineWays 85 = .ok (.iadd, 1) := by decide +kernel
theorem dX4_countLineWays_86 : decode cX4_countLineWays 86 = .ok (.iastore, 1) := by decide +kernel
theorem dX4_countLineWays_87 : decode cX4_countLineWays 87 = .ok (.iinc 3 1, 3) := by decide +kernel
theorem dX4_countLineWays_90 : decode cX4_countLineWays 90 = .ok (.goto (-84), 3) := by decide +kernel
theorem dX4_countLineWays_93 : decode cX4_countLineWays 93 = .ok (.aload_n 0, 1) := by decide +kernel
theorem dX4_countLineWays_94 : decode cX4_countLineWays 94 = .ok (.iload_n 1, 1) := by decide +kernel
theorem dX4_countLineWays_95 : decode cX4_countLineWays 95 = .ok (.iload_n 2, 1) := by decide +kernel
theorem dX4_countLineWays_96 : decode cX4_countLineWays 96 = .ok (.invokevirtual 52, 3) := by decide +kernel
theorem dX4_countLineWays_99 : decode cX4_countLineWays 99 = .ok (.ireturn, 1) := by decide +kernel
theorem dX4_clearRoom_0 : decode cX4_clearRoom 0 = .ok (.iconst 0, 1) := by decide +kernel
theorem dX4_clearRoom_1 : decode cX4_clearRoom 1 = .ok (.istore_n 1, 1) := by decide +kernel
theorem dX4_clearRoom_2 : decode cX4_clearRoom 2 = .ok (.iload_n 1, 1) := by decide +kernel
theorem dX4_clearRoom_3 : decode cX4_clearRoom 3 = .ok (.bipush 16, 2) := by decide +kernel
theorem dX4_clearRoom_5 : decode cX4_clearRoom 5 = .ok (.if_icmp .ge 32, 3) := by decide +kernel
theorem dX4_clearRoom_8 : decode cX4_clearRoom 8 = .ok (.iconst 0, 1) := by decide +kernel
theorem dX4_clearRoom_9 : decode cX4_clearRoom 9 = .ok (.istore_n 2, 1) := by decide +kernel
theorem dX4_clearRoom_10 : decode cX4_clearRoom 10 = .ok (.iload_n 2, 1) := by decide +kernel
theorem dX4_clearRoom_11 : decode cX4_clearRoom 11 = .ok (.bipush 16, 2) := by decide +kernel
theorem dX4_clearRoom_13 : decode cX4_clearRoom 13 = .ok (.if_icmp .ge 18, 3) := by decide +kernel
theorem dX4_clearRoom_16 : decode cX4_clearRoom 16 = .ok (.aload_n 0, 1) := by decide +kernel
theorem dX4_clearRoom_17 : decode cX4_clearRoom 17 = .ok (.getfield 13, 3) := by decide +kernel
theorem dX4_clearRoom_20 : decode cX4_clearRoom 20 = .ok (.iload_n 1, 1) := by decide +kernel
theorem dX4_clearRoom_21 : decode cX4_clearRoom 21 = .ok (.aaload, 1) := by decide +kernel
theorem dX4_clearRoom_22 : decode cX4_clearRoom 22 = .ok (.iload_n 2, 1) := by decide +kernel
theorem dX4_clearRoom_23 : decode cX4_clearRoom 23 = .ok (.iconst 0, 1) := by decide +kernel
theorem dX4_clearRoom_24 : decode cX4_clearRoom 24 = .ok (.iastore, 1) := by decide +kernel
theorem dX4_clearRoom_25 : decode cX4_clearRoom 25 = .ok (.iinc 2 1, 3) := by decide +kernel
theorem dX4_clearRoom_28 : decode cX4_clearRoom 28 = .ok (.goto (-18), 3) := by decide +kernel
theorem dX4_clearRoom_31 : decode cX4_clearRoom 31 = .ok (.iinc 1 1, 3) := by decide +kernel
theorem dX4_clearRoom_34 : decode cX4_clearRoom 34 = .ok (.goto (-32), 3) := by decide +kernel
theorem dX4_clearRoom_37 : decode cX4_clearRoom 37 = .ok (.return_, 1) := by decide +kernel
set_option maxRecDepth 20000 in
theorem ggX4_countFlow_X4_findsWay : GoodIn wsX4_countFlow wsX4_findsWay := goodIn_r _ [5, 6, 7, 8, 13, 14, 15, 16] (by decide +kernel) (by decide +kernel)
set_option maxRecDepth 20000 in
theorem gX4_countFlow_X4_findsWay : GoodIn wsX4_countFlow (wsV RX4 56 RX4 yX4_findsWay wsX4_findsWay) := goodIn_app (goodIn_of _ (by decide +kernel)) ggX4_countFlow_X4_findsWay
set_option maxRecDepth 20000 in
theorem ggX4_countFlow_X4_fillWay : GoodIn wsX4_countFlow wsX4_fillWay := goodIn_r _ [12, 6, 8, 13, 14, 15, 16] (by decide +kernel) (by decide +kernel)
set_option maxRecDepth 20000 in
theorem gX4_countFlow_X4_fillWay : GoodIn wsX4_countFlow (wsV RX4 59 RX4 yX4_fillWay wsX4_fillWay) := goodIn_app (goodIn_of _ (by decide +kernel)) ggX4_countFlow_X4_fillWay
theorem dX4_countFlow_0 : decode cX4_countFlow 0 = .ok (.iconst 0, 1) := by decide +kernel
theorem dX4_countFlow_1 : decode cX4_countFlow 1 = .ok (.istore_n 3, 1) := by decide +kernel
theorem dX4_countFlow_2 : decode cX4_countFlow 2 = .ok (.iconst 0, 1) := by decide +kernel
theorem dX4_countFlow_3 : decode cX4_countFlow 3 = .ok (.istore 4, 2) := by decide +kernel
theorem dX4_countFlow_5 : decode cX4_countFlow 5 = .ok (.iload 4, 2) := by decide +kernel
theorem dX4_countFlow_7 : decode cX4_countFlow 7 = .ok (.bipush 16, 2) := by decide +kernel
theorem dX4_countFlow_9 : decode cX4_countFlow 9 = .ok (.if_icmp .ge 29, 3) := by decide +kernel
theorem dX4_countFlow_12 : decode cX4_countFlow 12 = .ok (.aload_n 0, 1) := by decide +kernel
theorem dX4_countFlow_13 : decode cX4_countFlow 13 = .ok (.iload_n 1, 1) := by decide +kernel
theorem dX4_countFlow_14 : decode cX4_countFlow 14 = .ok (.iload_n 2, 1) := by decide +kernel
theorem dX4_countFlow_15 : decode cX4_countFlow 15 = .ok (.invokevirtual 56, 3) := by decide +kernel
theorem dX4_countFlow_18 : decode cX4_countFlow 18 = .ok (.ifCond .ne 5, 3) := by decide +kernel
theorem dX4_countFlow_21 : decode cX4_countFlow 21 = .ok (.iload_n 3, 1) := by decide +kernel
theorem dX4_countFlow_22 : decode cX4_countFlow 22 = .ok (.ireturn, 1) := by decide +kernel
theorem dX4_countFlow_23 : decode cX4_countFlow 23 = .ok (.aload_n 0, 1) := by decide +kernel
theorem dX4_countFlow_24 : decode cX4_countFlow 24 = .ok (.iload_n 1, 1) := by decide +kernel
theorem dX4_countFlow_25 : decode cX4_countFlow 25 = .ok (.iload_n 2, 1) := by decide +kernel
theorem dX4_countFlow_26 : decode cX4_countFlow 26 = .ok (.invokevirtual 59, 3) := by decide +kernel
theorem dX4_countFlow_29 : decode cX4_countFlow 29 = .ok (.iinc 3 1, 3) := by decide +kernel
theorem dX4_countFlow_32 : decode cX4_countFlow 32 = .ok (.iinc 4 1, 3) := by decide +kernel
theorem dX4_countFlow_35 : decode cX4_countFlow 35 = .ok (.goto (-30), 3) := by decide +kernel
theorem dX4_countFlow_38 : decode cX4_countFlow 38 = .ok (.iload_n 3, 1) := by decide +kernel
theorem dX4_countFlow_39 : decode cX4_countFlow 39 = .ok (.ireturn, 1) := by decide +kernel
theorem dX4_findsWay_0 : decode cX4_findsWay 0 = .ok (.iconst 0, 1) := by decide +kernel
theorem dX4_findsWay_1 : decode cX4_findsWay 1 = .ok (.istore_n 3, 1) := by decide +kernel
theorem dX4_findsWay_2 : decode cX4_findsWay 2 = .ok (.iload_n 3, 1) := by decide +kernel
theorem dX4_findsWay_3 : decode cX4_findsWay 3 = .ok (.bipush 16, 2) := by decide +kernel
theorem dX4_findsWay_5 : decode cX4_findsWay 5 = .ok (.if_icmp .ge 16, 3) := by decide +kernel
theorem dX4_findsWay_8 : decode cX4_findsWay 8 = .ok (.aload_n 0, 1) := by decide +kernel
theorem dX4_findsWay_9 : decode cX4_findsWay 9 = .ok (.getfield 16, 3) := by decide +kernel
theorem dX4_findsWay_12 : decode cX4_findsWay 12 = .ok (.iload_n 3, 1) := by decide +kernel
theorem dX4_findsWay_13 : decode cX4_findsWay 13 = .ok (.iconst (-1), 1) := by decide +kernel
theorem dX4_findsWay_14 : decode cX4_findsWay 14 = .ok (.iastore, 1) := by decide +kernel
theorem dX4_findsWay_15 : decode cX4_findsWay 15 = .ok (.iinc 3 1, 3) := by decide +kernel
theorem dX4_findsWay_18 : decode cX4_findsWay 18 = .ok (.goto (-16), 3) := by decide +kernel
theorem dX4_findsWay_21 : decode cX4_findsWay 21 = .ok (.aload_n 0, 1) := by decide +kernel
theorem dX4_findsWay_22 : decode cX4_findsWay 22 = .ok (.getfield 16, 3) := by decide +kernel
theorem dX4_findsWay_25 : decode cX4_findsWay 25 = .ok (.iload_n 1, 1) := by decide +kernel
theorem dX4_findsWay_26 : decode cX4_findsWay 26 = .ok (.iload_n 1, 1) := by decide +kernel
theorem dX4_findsWay_27 : decode cX4_findsWay 27 = .ok (.iastore, 1) := by decide +kernel
theorem dX4_findsWay_28 : decode cX4_findsWay 28 = .ok (.aload_n 0, 1) := by decide +kernel
theorem dX4_findsWay_29 : decode cX4_findsWay 29 = .ok (.getfield 20, 3) := by decide +kernel
theorem dX4_findsWay_32 : decode cX4_findsWay 32 = .ok (.iconst 0, 1) := by decide +kernel
theorem dX4_findsWay_33 : decode cX4_findsWay 33 = .ok (.iload_n 1, 1) := by decide +kernel
theorem dX4_findsWay_34 : decode cX4_findsWay 34 = .ok (.iastore, 1) := by decide +kernel
theorem dX4_findsWay_35 : decode cX4_findsWay 35 = .ok (.iconst 1, 1) := by decide +kernel
theorem dX4_findsWay_36 : decode cX4_findsWay 36 = .ok (.istore_n 3, 1) := by decide +kernel
theorem dX4_findsWay_37 : decode cX4_findsWay 37 = .ok (.iconst 0, 1) := by decide +kernel
theorem dX4_findsWay_38 : decode cX4_findsWay 38 = .ok (.istore 4, 2) := by decide +kernel
theorem dX4_findsWay_40 : decode cX4_findsWay 40 = .ok (.iload 4, 2) := by decide +kernel
theorem dX4_findsWay_42 : decode cX4_findsWay 42 = .ok (.iload_n 3, 1) := by decide +kernel
theorem dX4_findsWay_43 : decode cX4_findsWay 43 = .ok (.if_icmp .ge 91, 3) := by decide +kernel
theorem dX4_findsWay_46 : decode cX4_findsWay 46 = .ok (.iload 4, 2) := by decide +kernel
theorem dX4_findsWay_48 : decode cX4_findsWay 48 = .ok (.bipush 16, 2) := by decide +kernel
theorem dX4_findsWay_50 : decode cX4_findsWay 50 = .ok (.if_icmp .ge 84, 3) := by decide +kernel
theorem dX4_findsWay_53 : decode cX4_findsWay 53 = .ok (.aload_n 0, 1) := by decide +kernel
theorem dX4_findsWay_54 : decode cX4_findsWay 54 = .ok (.getfield 20, 3) := by decide +kernel
theorem dX4_findsWay_57 : decode cX4_findsWay 57 = .ok (.iload 4, 2) := by decide +kernel
theorem dX4_findsWay_59 : decode cX4_findsWay 59 = .ok (.iaload, 1) := by decide +kernel
theorem dX4_findsWay_60 : decode cX4_findsWay 60 = .ok (.istore 5, 2) := by decide +kernel
theorem dX4_findsWay_62 : decode cX4_findsWay 62 = .ok (.iconst 0, 1) := by decide +kernel
theorem dX4_findsWay_63 : decode cX4_findsWay 63 = .ok (.istore 6, 2) := by decide +kernel
theorem dX4_findsWay_65 : decode cX4_findsWay 65 = .ok (.iload 6, 2) := by decide +kernel
theorem dX4_findsWay_67 : decode cX4_findsWay 67 = .ok (.bipush 16, 2) := by decide +kernel
theorem dX4_findsWay_69 : decode cX4_findsWay 69 = .ok (.if_icmp .ge 59, 3) := by decide +kernel
theorem dX4_findsWay_72 : decode cX4_findsWay 72 = .ok (.aload_n 0, 1) := by decide +kernel
theorem dX4_findsWay_73 : decode cX4_findsWay 73 = .ok (.getfield 13, 3) := by decide +kernel
theorem dX4_findsWay_76 : decode cX4_findsWay 76 = .ok (.iload 5, 2) := by decide +kernel
theorem dX4_findsWay_78 : decode cX4_findsWay 78 = .ok (.aaload, 1) := by decide +kernel
theorem dX4_findsWay_79 : decode cX4_findsWay 79 = .ok (.iload 6, 2) := by decide +kernel
theorem dX4_findsWay_81 : decode cX4_findsWay 81 = .ok (.iaload, 1) := by decide +kernel
theorem dX4_findsWay_82 : decode cX4_findsWay 82 = .ok (.ifCond .le 40, 3) := by decide +kernel
theorem dX4_findsWay_85 : decode cX4_findsWay 85 = .ok (.aload_n 0, 1) := by decide +kernel
theorem dX4_findsWay_86 : decode cX4_findsWay 86 = .ok (.getfield 16, 3) := by decide +kernel
theorem dX4_findsWay_89 : decode cX4_findsWay 89 = .ok (.iload 6, 2) := by decide +kernel
theorem dX4_findsWay_91 : decode cX4_findsWay 91 = .ok (.iaload, 1) := by decide +kernel
theorem dX4_findsWay_92 : decode cX4_findsWay 92 = .ok (.iconst (-1), 1) := by decide +kernel
theorem dX4_findsWay_93 : decode cX4_findsWay 93 = .ok (.if_icmp .ne 29, 3) := by decide +kernel
theorem dX4_findsWay_96 : decode cX4_findsWay 96 = .ok (.iload_n 3, 1) := by decide +kernel
theorem dX4_findsWay_97 : decode cX4_findsWay 97 = .ok (.bipush 16, 2) := by decide +kernel
theorem dX4_findsWay_99 : decode cX4_findsWay 99 = .ok (.if_icmp .ge 23, 3) := by decide +kernel
theorem dX4_findsWay_102 : decode cX4_findsWay 102 = .ok (.aload_n 0, 1) := by decide +kernel
theorem dX4_findsWay_103 : decode cX4_findsWay 103 = .ok (.getfield 16, 3) := by decide +kernel
theorem dX4_findsWay_106 : decode cX4_findsWay 106 = .ok (.iload 6, 2) := by decide +kernel
theorem dX4_findsWay_108 : decode cX4_findsWay 108 = .ok (.iload 5, 2) := by decide +kernel
theorem dX4_findsWay_110 : decode cX4_findsWay 110 = .ok (.iastore, 1) := by decide +kernel
theorem dX4_findsWay_111 : decode cX4_findsWay 111 = .ok (.aload_n 0, 1) := by decide +kernel
theorem dX4_findsWay_112 : decode cX4_findsWay 112 = .ok (.getfield 20, 3) := by decide +kernel
theorem dX4_findsWay_115 : decode cX4_findsWay 115 = .ok (.iload_n 3, 1) := by decide +kernel
theorem dX4_findsWay_116 : decode cX4_findsWay 116 = .ok (.iload 6, 2) := by decide +kernel
theorem dX4_findsWay_118 : decode cX4_findsWay 118 = .ok (.iastore, 1) := by decide +kernel
theorem dX4_findsWay_119 : decode cX4_findsWay 119 = .ok (.iinc 3 1, 3) := by decide +kernel
theorem dX4_findsWay_122 : decode cX4_findsWay 122 = .ok (.iinc 6 1, 3) := by decide +kernel
theorem dX4_findsWay_125 : decode cX4_findsWay 125 = .ok (.goto (-60), 3) := by decide +kernel
theorem dX4_findsWay_128 : decode cX4_findsWay 128 = .ok (.iinc 4 1, 3) := by decide +kernel
theorem dX4_findsWay_131 : decode cX4_findsWay 131 = .ok (.goto (-91), 3) := by decide +kernel
theorem dX4_findsWay_134 : decode cX4_findsWay 134 = .ok (.aload_n 0, 1) := by decide +kernel
theorem dX4_findsWay_135 : decode cX4_findsWay 135 = .ok (.getfield 16, 3) := by decide +kernel
theorem dX4_findsWay_138 : decode cX4_findsWay 138 = .ok (.iload_n 2, 1) := by decide +kernel
theorem dX4_findsWay_139 : decode cX4_findsWay 139 = .ok (.iaload, 1) := by decide +kernel
theorem dX4_findsWay_140 : decode cX4_findsWay 140 = .ok (.iconst (-1), 1) := by decide +kernel
theorem dX4_findsWay_141 : decode cX4_findsWay 141 = .ok (.if_icmp .eq 7, 3) := by decide +kernel
theorem dX4_findsWay_144 : decode cX4_findsWay 144 = .ok (.iconst 1, 1) := by decide +kernel
theorem dX4_findsWay_145 : decode cX4_findsWay 145 = .ok (.goto 4, 3) := by decide +kernel
theorem dX4_findsWay_148 : decode cX4_findsWay 148 = .ok (.iconst 0, 1) := by decide +kernel
theorem dX4_findsWay_149 : decode cX4_findsWay 149 = .ok (.ireturn, 1) := by decide +kernel
theorem dX4_fillWay_0 : decode cX4_fillWay 0 = .ok (.iload_n 2, 1) := by decide +kernel
theorem dX4_fillWay_1 : decode cX4_fillWay 1 = .ok (.istore_n 3, 1) := by decide +kernel
theorem dX4_fillWay_2 : decode cX4_fillWay 2 = .ok (.iconst 0, 1) := by decide +kernel
theorem dX4_fillWay_3 : decode cX4_fillWay 3 = .ok (.istore 4, 2) := by decide +kernel
theorem dX4_fillWay_5 : decode cX4_fillWay 5 = .ok (.iload 4, 2) := by decide +kernel
theorem dX4_fillWay_7 : decode cX4_fillWay 7 = .ok (.bipush 16, 2) := by decide +kernel
theorem dX4_fillWay_9 : decode cX4_fillWay 9 = .ok (.if_icmp .ge 61, 3) := by decide +kernel
theorem dX4_fillWay_12 : decode cX4_fillWay 12 = .ok (.iload_n 3, 1) := by decide +kernel
theorem dX4_fillWay_13 : decode cX4_fillWay 13 = .ok (.iload_n 1, 1) := by decide +kernel
theorem dX4_fillWay_14 : decode cX4_fillWay 14 = .ok (.if_icmp .eq 56, 3) := by decide +kernel
theorem dX4_fillWay_17 : decode cX4_fillWay 17 = .ok (.aload_n 0, 1) := by decide +kernel
theorem dX4_fillWay_18 : decode cX4_fillWay 18 = .ok (.getfield 16, 3) := by decide +kernel
theorem dX4_fillWay_21 : decode cX4_fillWay 21 = .ok (.iload_n 3, 1) := by decide +kernel
theorem dX4_fillWay_22 : decode cX4_fillWay 22 = .ok (.iaload, 1) := by decide +kernel
theorem dX4_fillWay_23 : decode cX4_fillWay 23 = .ok (.iconst (-1), 1) := by decide +kernel
theorem dX4_fillWay_24 : decode cX4_fillWay 24 = .ok (.if_icmp .eq 46, 3) := by decide +kernel
theorem dX4_fillWay_27 : decode cX4_fillWay 27 = .ok (.aload_n 0, 1) := by decide +kernel
theorem dX4_fillWay_28 : decode cX4_fillWay 28 = .ok (.getfield 16, 3) := by decide +kernel
theorem dX4_fillWay_31 : decode cX4_fillWay 31 = .ok (.iload_n 3, 1) := by decide +kernel
theorem dX4_fillWay_32 : decode cX4_fillWay 32 = .ok (.iaload, 1) := by decide +kernel
theorem dX4_fillWay_33 : decode cX4_fillWay 33 = .ok (.istore 5, 2) := by decide +kernel
theorem dX4_fillWay_35 : decode cX4_fillWay 35 = .ok (.aload_n 0, 1) := by decide +kernel
theorem dX4_fillWay_36 : decode cX4_fillWay 36 = .ok (.getfield 13, 3) := by decide +kernel
theorem dX4_fillWay_39 : decode cX4_fillWay 39 = .ok (.iload 5, 2) := by decide +kernel
theorem dX4_fillWay_41 : decode cX4_fillWay 41 = .ok (.aaload, 1) := by decide +kernel
theorem dX4_fillWay_42 : decode cX4_fillWay 42 = .ok (.iload_n 3, 1) := by decide +kernel
theorem dX4_fillWay_43 : decode cX4_fillWay 43 = .ok (.dup2, 1) := by decide +kernel
theorem dX4_fillWay_44 : decode cX4_fillWay 44 = .ok (.iaload, 1) := by decide +kernel
theorem dX4_fillWay_45 : decode cX4_fillWay 45 = .ok (.iconst 1, 1) := by decide +kernel
theorem dX4_fillWay_46 : decode cX4_fillWay 46 = .ok (.isub, 1) := by decide +kernel
theorem dX4_fillWay_47 : decode cX4_fillWay 47 = .ok (.iastore, 1) := by decide +kernel
theorem dX4_fillWay_48 : decode cX4_fillWay 48 = .ok (.aload_n 0, 1) := by decide +kernel
theorem dX4_fillWay_49 : decode cX4_fillWay 49 = .ok (.getfield 13, 3) := by decide +kernel
theorem dX4_fillWay_52 : decode cX4_fillWay 52 = .ok (.iload_n 3, 1) := by decide +kernel
theorem dX4_fillWay_53 : decode cX4_fillWay 53 = .ok (.aaload, 1) := by decide +kernel
theorem dX4_fillWay_54 : decode cX4_fillWay 54 = .ok (.iload 5, 2) := by decide +kernel
theorem dX4_fillWay_56 : decode cX4_fillWay 56 = .ok (.dup2, 1) := by decide +kernel
theorem dX4_fillWay_57 : decode cX4_fillWay 57 = .ok (.iaload, 1) := by decide +kernel
theorem dX4_fillWay_58 : decode cX4_fillWay 58 = .ok (.iconst 1, 1) := by decide +kernel
theorem dX4_fillWay_59 : decode cX4_fillWay 59 = .ok (.iadd, 1) := by decide +kernel
theorem dX4_fillWay_60 : decode cX4_fillWay 60 = .ok (.iastore, 1) := by decide +kernel
theorem dX4_fillWay_61 : decode cX4_fillWay 61 = .ok (.iload 5, 2) := by decide +kernel
theorem dX4_fillWay_63 : decode cX4_fillWay 63 = .ok (.istore_n 3, 1) := by decide +kernel
theorem dX4_fillWay_64 : decode cX4_fillWay 64 = .ok (.iinc 4 1, 3) := by decide +kernel
theorem dX4_fillWay_67 : decode cX4_fillWay 67 = .ok (.goto (-62), 3) := by decide +kernel
theorem dX4_fillWay_70 : decode cX4_fillWay 70 = .ok (.return_, 1) := by decide +kernel
set_option maxRecDepth 20000 in
theorem ggX4_gap_X5_linkedWith : GoodIn wsX4_gap wsX5_linkedWith := goodIn_r _ [6, 7, 8, 9, 10, 11, 12, 13, 39, 40, 41, 42, 43, 44, 45, 46] (by decide +kernel) (by decide +kernel)
set_option maxRecDepth 20000 in
theorem gX4_gap_X5_linkedWith : GoodIn wsX4_gap (wsV RX4 63 RX5 yX5_linkedWith wsX5_linkedWith) := goodIn_app (goodIn_of _ (by decide +kernel)) ggX4_gap_X5_linkedWith
set_option maxRecDepth 20000 in
theorem ggX4_gap_X6_has : GoodIn wsX4_gap wsX6_has := goodIn_r _ [13] (by decide +kernel) (by decide +kernel)
set_option maxRecDepth 20000 in
theorem gX4_gap_X6_has_n42 : GoodIn wsX4_gap (wsX6_has) := ggX4_gap_X6_has
set_option maxRecDepth 20000 in
theorem ggX4_gap_X5_allPoints : GoodIn wsX4_gap wsX5_allPoints := goodIn_r _ [17, 18, 39, 40, 41, 42, 43, 44, 45, 46] (by decide +kernel) (by decide +kernel)
set_option maxRecDepth 20000 in
theorem gX4_gap_X5_allPoints : GoodIn wsX4_gap (wsV RX4 67 RX5 yX5_allPoints wsX5_allPoints) := goodIn_app (goodIn_of _ (by decide +kernel)) ggX4_gap_X5_allPoints
set_option maxRecDepth 20000 in
theorem ggX4_gap_J6_bitCount_0f7a4 : GoodIn wsX4_gap wsJ6_bitCount_0f7a4 := goodIn_r _ [22, 23, 24, 25] (by decide +kernel) (by decide +kernel)
set_option maxRecDepth 20000 in
theorem gX4_gap_J6_bitCount_0f7a4 : GoodIn wsX4_gap (va_wsS RX4 71 yJ6_bitCount_0f7a4 wsJ6_bitCount_0f7a4) := goodIn_app (goodIn_of _ (by decide +kernel)) ggX4_gap_J6_bitCount_0f7a4
set_option maxRecDepth 20000 in
theorem ggX4_gap_X4_isApartWithout : GoodIn wsX4_gap wsX4_isApartWithout := goodIn_r _ [30, 1, 14, 15, 16, 5, 17, 18, 31, 32, 33, 34, 7, 10, 11, 12, 13, 35, 36, 37, 38, 39, 40, 41, 42, 43, 44, 45, 46] (by decide +kernel) (by decide +kernel)
set_option maxRecDepth 20000 in
theorem gX4_gap_X4_isApartWithout : GoodIn wsX4_gap (wsV RX4 76 RX4 yX4_isApartWithout wsX4_isApartWithout) := goodIn_app (goodIn_of _ (by decide +kernel)) ggX4_gap_X4_isApartWithout
theorem dX4_gap_0 : decode cX4_gap 0 = .ok (.aload_n 0, 1) := by decide +kernel
theorem dX4_gap_1 : decode cX4_gap 1 = .ok (.getfield 23, 3) := by decide +kernel
theorem dX4_gap_4 : decode cX4_gap 4 = .ok (.iload_n 1, 1) := by decide +kernel
theorem dX4_gap_5 : decode cX4_gap 5 = .ok (.invokevirtual 63, 3) := by decide +kernel
theorem dX4_gap_8 : decode cX4_gap 8 = .ok (.iload_n 2, 1) := by decide +kernel
theorem dX4_gap_9 : decode cX4_gap 9 = .ok (.invokestatic 42, 3) := by decide +kernel
theorem dX4_gap_12 : decode cX4_gap 12 = .ok (.ifCond .eq 5, 3) := by decide +kernel
theorem dX4_gap_15 : decode cX4_gap 15 = .ok (.iconst (-1), 1) := by decide +kernel
theorem dX4_gap_16 : decode cX4_gap 16 = .ok (.ireturn, 1) := by decide +kernel
theorem dX4_gap_17 : decode cX4_gap 17 = .ok (.iconst 1, 1) := by decide +kernel
theorem dX4_gap_18 : decode cX4_gap 18 = .ok (.iload_n 1, 1) := by decide +kernel
theorem dX4_gap_19 : decode cX4_gap 19 = .ok (.ishl, 1) := by decide +kernel
theorem dX4_gap_20 : decode cX4_gap 20 = .ok (.iconst 1, 1) := by decide +kernel
theorem dX4_gap_21 : decode cX4_gap 21 = .ok (.iload_n 2, 1) := by decide +kernel
theorem dX4_gap_22 : decode cX4_gap 22 = .ok (.ishl, 1) := by decide +kernel
theorem dX4_gap_23 : decode cX4_gap 23 = .ok (.ior, 1) := by decide +kernel
theorem dX4_gap_24 : decode cX4_gap 24 = .ok (.istore_n 3, 1) := by decide +kernel
theorem dX4_gap_25 : decode cX4_gap 25 = .ok (.aload_n 0, 1) := by decide +kernel
theorem dX4_gap_26 : decode cX4_gap 26 = .ok (.getfield 23, 3) := by decide +kernel
theorem dX4_gap_29 : decode cX4_gap 29 = .ok (.invokevirtual 67, 3) := by decide +kernel
theorem dX4_gap_32 : decode cX4_gap 32 = .ok (.iload_n 3, 1) := by decide +kernel
theorem dX4_gap_33 : decode cX4_gap 33 = .ok (.iconst (-1), 1) := by decide +kernel
theorem dX4_gap_34 : decode cX4_gap 34 = .ok (.ixor, 1) := by decide +kernel
theorem dX4_gap_35 : decode cX4_gap 35 = .ok (.iand, 1) := by decide +kernel
theorem dX4_gap_36 : decode cX4_gap 36 = .ok (.istore 4, 2) := by decide +kernel
theorem dX4_gap_38 : decode cX4_gap 38 = .ok (.iconst 0, 1) := by decide +kernel
theorem dX4_gap_39 : decode cX4_gap 39 = .ok (.istore 5, 2) := by decide +kernel
theorem dX4_gap_41 : decode cX4_gap 41 = .ok (.iload 5, 2) := by decide +kernel
theorem dX4_gap_43 : decode cX4_gap 43 = .ok (.aload_n 0, 1) := by decide +kernel
theorem dX4_gap_44 : decode cX4_gap 44 = .ok (.getfield 23, 3) := by decide +kernel
theorem dX4_gap_47 : decode cX4_gap 47 = .ok (.invokevirtual 67, 3) := by decide +kernel
theorem dX4_gap_50 : decode cX4_gap 50 = .ok (.if_icmp .gt 56, 3) := by decide +kernel
theorem dX4_gap_53 : decode cX4_gap 53 = .ok (.iload 5, 2) := by decide +kernel
theorem dX4_gap_55 : decode cX4_gap 55 = .ok (.invokestatic 71, 3) := by decide +kernel
theorem dX4_gap_58 : decode cX4_gap 58 = .ok (.iload 4, 2) := by decide +kernel
theorem dX4_gap_60 : decode cX4_gap 60 = .ok (.invokestatic 71, 3) := by decide +kernel
theorem dX4_gap_63 : decode cX4_gap 63 = .ok (.if_icmp .ge 7, 3) := by decide +kernel
theorem dX4_gap_66 : decode cX4_gap 66 = .ok (.iconst 1, 1) := by decide +kernel
theorem dX4_gap_67 : decode cX4_gap 67 = .ok (.goto 4, 3) := by decide +kernel
theorem dX4_gap_70 : decode cX4_gap 70 = .ok (.iconst 0, 1) := by decide +kernel
theorem dX4_gap_71 : decode cX4_gap 71 = .ok (.istore 6, 2) := by decide +kernel
theorem dX4_gap_73 : decode cX4_gap 73 = .ok (.iload 5, 2) := by decide +kernel
theorem dX4_gap_75 : decode cX4_gap 75 = .ok (.iload_n 3, 1) := by decide +kernel
theorem dX4_gap_76 : decode cX4_gap 76 = .ok (.iand, 1) := by decide +kernel
theorem dX4_gap_77 : decode cX4_gap 77 = .ok (.ifCond .ne 23, 3) := by decide +kernel
theorem dX4_gap_80 : decode cX4_gap 80 = .ok (.iload 6, 2) := by decide +kernel
theorem dX4_gap_82 : decode cX4_gap 82 = .ok (.ifCond .eq 18, 3) := by decide +kernel
theorem dX4_gap_85 : decode cX4_gap 85 = .ok (.aload_n 0, 1) := by decide +kernel
theorem dX4_gap_86 : decode cX4_gap 86 = .ok (.iload_n 1, 1) := by decide +kernel
theorem dX4_gap_87 : decode cX4_gap 87 = .ok (.iload_n 2, 1) := by decide +kernel
theorem dX4_gap_88 : decode cX4_gap 88 = .ok (.iload 5, 2) := by decide +kernel
theorem dX4_gap_90 : decode cX4_gap 90 = .ok (.invokevirtual 76, 3) := by decide +kernel
theorem dX4_gap_93 : decode cX4_gap 93 = .ok (.ifCond .eq 7, 3) := by decide +kernel
theorem dX4_gap_96 : decode cX4_gap 96 = .ok (.iload 5, 2) := by decide +kernel
theorem dX4_gap_98 : decode cX4_gap 98 = .ok (.istore 4, 2) := by decide +kernel
theorem dX4_gap_100 : decode cX4_gap 100 = .ok (.iinc 5 1, 3) := by decide +kernel
theorem dX4_gap_103 : decode cX4_gap 103 = .ok (.goto (-62), 3) := by decide +kernel
theorem dX4_gap_106 : decode cX4_gap 106 = .ok (.iload 4, 2) := by decide +kernel
theorem dX4_gap_108 : decode cX4_gap 108 = .ok (.ireturn, 1) := by decide +kernel
set_option maxRecDepth 20000 in
theorem ggX4_isApartWithout_X5_allPoints : GoodIn wsX4_isApartWithout wsX5_allPoints := goodIn_r _ [6, 7, 21, 22, 23, 24, 25, 26, 27, 28] (by decide +kernel) (by decide +kernel)
set_option maxRecDepth 20000 in
theorem gX4_isApartWithout_X5_allPoints : GoodIn wsX4_isApartWithout (wsV RX4 67 RX5 yX5_allPoints wsX5_allPoints) := goodIn_app (goodIn_of _ (by decide +kernel)) ggX4_isApartWithout_X5_allPoints
set_option maxRecDepth 20000 in
theorem ggX4_isApartWithout_X5_reach : GoodIn wsX4_isApartWithout wsX5_reach := goodIn_r _ [11, 12, 13, 21, 22, 23, 24, 25, 26, 27, 28] (by decide +kernel) (by decide +kernel)
set_option maxRecDepth 20000 in
theorem gX4_isApartWithout_X5_reach : GoodIn wsX4_isApartWithout (wsV RX4 80 RX5 yX5_reach wsX5_reach) := goodIn_app (goodIn_of _ (by decide +kernel)) ggX4_isApartWithout_X5_reach
set_option maxRecDepth 20000 in
theorem ggX4_isApartWithout_X6_has : GoodIn wsX4_isApartWithout wsX6_has := goodIn_r _ [16] (by decide +kernel) (by decide +kernel)
set_option maxRecDepth 20000 in
theorem gX4_isApartWithout_X6_has_n42 : GoodIn wsX4_isApartWithout (wsX6_has) := ggX4_isApartWithout_X6_has
theorem dX4_isApartWithout_0 : decode cX4_isApartWithout 0 = .ok (.aload_n 0, 1) := by decide +kernel
theorem dX4_isApartWithout_1 : decode cX4_isApartWithout 1 = .ok (.getfield 23, 3) := by decide +kernel
theorem dX4_isApartWithout_4 : decode cX4_isApartWithout 4 = .ok (.iload_n 1, 1) := by decide +kernel
theorem dX4_isApartWithout_5 : decode cX4_isApartWithout 5 = .ok (.aload_n 0, 1) := by decide +kernel
theorem dX4_isApartWithout_6 : decode cX4_isApartWithout 6 = .ok (.getfield 23, 3) := by decide +kernel
theorem dX4_isApartWithout_9 : decode cX4_isApartWithout 9 = .ok (.invokevirtual 67, 3) := by decide +kernel
theorem dX4_isApartWithout_12 : decode cX4_isApartWithout 12 = .ok (.iload_n 3, 1) := by decide +kernel
theorem dX4_isApartWithout_13 : decode cX4_isApartWithout 13 = .ok (.iconst (-1), 1) := by decide +kernel
theorem dX4_isApartWithout_14 : decode cX4_isApartWithout 14 = .ok (.ixor, 1) := by decide +kernel
theorem dX4_isApartWithout_15 : decode cX4_isApartWithout 15 = .ok (.iand, 1) := by decide +kernel
theorem dX4_isApartWithout_16 : decode cX4_isApartWithout 16 = .ok (.aload_n 0, 1) := by decide +kernel
theorem dX4_isApartWithout_17 : decode cX4_isApartWithout 17 = .ok (.getfield 23, 3) := by decide +kernel
theorem dX4_isApartWithout_20 : decode cX4_isApartWithout 20 = .ok (.getfield 39, 3) := by decide +kernel
theorem dX4_isApartWithout_23 : decode cX4_isApartWithout 23 = .ok (.invokevirtual 80, 3) := by decide +kernel
theorem dX4_isApartWithout_26 : decode cX4_isApartWithout 26 = .ok (.iload_n 2, 1) := by decide +kernel
theorem dX4_isApartWithout_27 : decode cX4_isApartWithout 27 = .ok (.invokestatic 42, 3) := by decide +kernel
theorem dX4_isApartWithout_30 : decode cX4_isApartWithout 30 = .ok (.ifCond .ne 7, 3) := by decide +kernel
theorem dX4_isApartWithout_33 : decode cX4_isApartWithout 33 = .ok (.iconst 1, 1) := by decide +kernel
theorem dX4_isApartWithout_34 : decode cX4_isApartWithout 34 = .ok (.goto 4, 3) := by decide +kernel
theorem dX4_isApartWithout_37 : decode cX4_isApartWithout 37 = .ok (.iconst 0, 1) := by decide +kernel
theorem dX4_isApartWithout_38 : decode cX4_isApartWithout 38 = .ok (.ireturn, 1) := by decide +kernel
set_option maxRecDepth 20000 in
theorem ggX4_side_X5_linesOutOf : GoodIn wsX4_side wsX5_linesOutOf := goodIn_r _ [6, 7, 8, 9, 10, 11, 12, 13, 5, 14, 15, 16, 32, 33, 34, 35, 36, 37, 38, 39] (by decide +kernel) (by decide +kernel)
set_option maxRecDepth 20000 in
theorem gX4_side_X5_linesOutOf : GoodIn wsX4_side (wsV RX4 84 RX5 yX5_linesOutOf wsX5_linesOutOf) := goodIn_app (goodIn_of _ (by decide +kernel)) ggX4_side_X5_linesOutOf
set_option maxRecDepth 20000 in
theorem ggX4_side_J6_bitCount_0f7a4 : GoodIn wsX4_side wsJ6_bitCount_0f7a4 := goodIn_r _ [20, 21, 22, 23] (by decide +kernel) (by decide +kernel)
set_option maxRecDepth 20000 in
theorem gX4_side_J6_bitCount_0f7a4 : GoodIn wsX4_side (va_wsS RX4 71 yJ6_bitCount_0f7a4 wsJ6_bitCount_0f7a4) := goodIn_app (goodIn_of _ (by decide +kernel)) ggX4_side_J6_bitCount_0f7a4
set_option maxRecDepth 20000 in
theorem ggX4_side_X5_allPoints : GoodIn wsX4_side wsX5_allPoints := goodIn_r _ [27, 7, 32, 33, 34, 35, 36, 37, 38, 39] (by decide +kernel) (by decide +kernel)
set_option maxRecDepth 20000 in
theorem gX4_side_X5_allPoints : GoodIn wsX4_side (wsV RX4 67 RX5 yX5_allPoints wsX5_allPoints) := goodIn_app (goodIn_of _ (by decide +kernel)) ggX4_side_X5_allPoints
set_option maxRecDepth 20000 in
theorem ggX4_side_X6_has : GoodIn wsX4_side wsX6_has := goodIn_r _ [10] (by decide +kernel) (by decide +kernel)
set_option maxRecDepth 20000 in
theorem gX4_side_X6_has_n42 : GoodIn wsX4_side (wsX6_has) := ggX4_side_X6_has
theorem dX4_side_0 : decode cX4_side 0 = .ok (.iconst 1, 1) := by decide +kernel
theorem dX4_side_1 : decode cX4_side 1 = .ok (.iload_n 1, 1) := by decide +kernel
theorem dX4_side_2 : decode cX4_side 2 = .ok (.ishl, 1) := by decide +kernel
theorem dX4_side_3 : decode cX4_side 3 = .ok (.istore_n 3, 1) := by decide +kernel
theorem dX4_side_4 : decode cX4_side 4 = .ok (.aload_n 0, 1) := by decide +kernel
theorem dX4_side_5 : decode cX4_side 5 = .ok (.getfield 23, 3) := by decide +kernel
theorem dX4_side_8 : decode cX4_side 8 = .ok (.iload_n 3, 1) := by decide +kernel
theorem dX4_side_9 : decode cX4_side 9 = .ok (.invokevirtual 84, 3) := by decide +kernel
theorem dX4_side_12 : decode cX4_side 12 = .ok (.invokestatic 71, 3) := by decide +kernel
theorem dX4_side_15 : decode cX4_side 15 = .ok (.istore 4, 2) := by decide +kernel
theorem dX4_side_17 : decode cX4_side 17 = .ok (.iconst 0, 1) := by decide +kernel
theorem dX4_side_18 : decode cX4_side 18 = .ok (.istore 5, 2) := by decide +kernel
theorem dX4_side_20 : decode cX4_side 20 = .ok (.iload 5, 2) := by decide +kernel
theorem dX4_side_22 : decode cX4_side 22 = .ok (.aload_n 0, 1) := by decide +kernel
theorem dX4_side_23 : decode cX4_side 23 = .ok (.getfield 23, 3) := by decide +kernel
theorem dX4_side_26 : decode cX4_side 26 = .ok (.invokevirtual 67, 3) := by decide +kernel
theorem dX4_side_29 : decode cX4_side 29 = .ok (.if_icmp .gt 86, 3) := by decide +kernel
theorem dX4_side_32 : decode cX4_side 32 = .ok (.iload 5, 2) := by decide +kernel
theorem dX4_side_34 : decode cX4_side 34 = .ok (.iload_n 1, 1) := by decide +kernel
theorem dX4_side_35 : decode cX4_side 35 = .ok (.invokestatic 42, 3) := by decide +kernel
theorem dX4_side_38 : decode cX4_side 38 = .ok (.ifCond .eq 71, 3) := by decide +kernel
theorem dX4_side_41 : decode cX4_side 41 = .ok (.iload 5, 2) := by decide +kernel
theorem dX4_side_43 : decode cX4_side 43 = .ok (.iload_n 2, 1) := by decide +kernel
theorem dX4_side_44 : decode cX4_side 44 = .ok (.invokestatic 42, 3) := by decide +kernel
theorem dX4_side_47 : decode cX4_side 47 = .ok (.ifCond .ne 62, 3) := by decide +kernel
theorem dX4_side_50 : decode cX4_side 50 = .ok (.aload_n 0, 1) := by decide +kernel
theorem dX4_side_51 : decode cX4_side 51 = .ok (.getfield 23, 3) := by decide +kernel
theorem dX4_side_54 : decode cX4_side 54 = .ok (.iload 5, 2) := by decide +kernel
theorem dX4_side_56 : decode cX4_side 56 = .ok (.invokevirtual 84, 3) := by decide +kernel
theorem dX4_side_59 : decode cX4_side 59 = .ok (.invokestatic 71, 3) := by decide +kernel
theorem dX4_side_62 : decode cX4_side 62 = .ok (.istore 6, 2) := by decide +kernel
theorem dX4_side_64 : decode cX4_side 64 = .ok (.iload 5, 2) := by decide +kernel
theorem dX4_side_66 : decode cX4_side 66 = .ok (.invokestatic 71, 3) := by decide +kernel
theorem dX4_side_69 : decode cX4_side 69 = .ok (.iload_n 3, 1) := by decide +kernel
theorem dX4_side_70 : decode cX4_side 70 = .ok (.invokestatic 71, 3) := by decide +kernel
theorem dX4_side_73 : decode cX4_side 73 = .ok (.if_icmp .ge 7, 3) := by decide +kernel
theorem dX4_side_76 : decode cX4_side 76 = .ok (.iconst 1, 1) := by decide +kernel
theorem dX4_side_77 : decode cX4_side 77 = .ok (.goto 4, 3) := by decide +kernel
theorem dX4_side_80 : decode cX4_side 80 = .ok (.iconst 0, 1) := by decide +kernel
theorem dX4_side_81 : decode cX4_side 81 = .ok (.istore 7, 2) := by decide +kernel
theorem dX4_side_83 : decode cX4_side 83 = .ok (.iload 6, 2) := by decide +kernel
theorem dX4_side_85 : decode cX4_side 85 = .ok (.iload 4, 2) := by decide +kernel
theorem dX4_side_87 : decode cX4_side 87 = .ok (.if_icmp .lt 15, 3) := by decide +kernel
theorem dX4_side_90 : decode cX4_side 90 = .ok (.iload 6, 2) := by decide +kernel
theorem dX4_side_92 : decode cX4_side 92 = .ok (.iload 4, 2) := by decide +kernel
theorem dX4_side_94 : decode cX4_side 94 = .ok (.if_icmp .ne 15, 3) := by decide +kernel
theorem dX4_side_97 : decode cX4_side 97 = .ok (.iload 7, 2) := by decide +kernel
theorem dX4_side_99 : decode cX4_side 99 = .ok (.ifCond .eq 10, 3) := by decide +kernel
theorem dX4_side_102 : decode cX4_side 102 = .ok (.iload 5, 2) := by decide +kernel
theorem dX4_side_104 : decode cX4_side 104 = .ok (.istore_n 3, 1) := by decide +kernel
theorem dX4_side_105 : decode cX4_side 105 = .ok (.iload 6, 2) := by decide +kernel
theorem dX4_side_107 : decode cX4_side 107 = .ok (.istore 4, 2) := by decide +kernel
theorem dX4_side_109 : decode cX4_side 109 = .ok (.iinc 5 1, 3) := by decide +kernel
theorem dX4_side_112 : decode cX4_side 112 = .ok (.goto (-92), 3) := by decide +kernel
theorem dX4_side_115 : decode cX4_side 115 = .ok (.iload_n 3, 1) := by decide +kernel
theorem dX4_side_116 : decode cX4_side 116 = .ok (.ireturn, 1) := by decide +kernel
theorem dX5_init_0 : decode cX5_init 0 = .ok (.aload_n 0, 1) := by decide +kernel
theorem dX5_init_1 : decode cX5_init 1 = .ok (.invokespecial 3, 3) := by decide +kernel
theorem dX5_init_4 : decode cX5_init 4 = .ok (.aload_n 0, 1) := by decide +kernel
theorem dX5_init_5 : decode cX5_init 5 = .ok (.iconst 0, 1) := by decide +kernel
theorem dX5_init_6 : decode cX5_init 6 = .ok (.putfield 9, 3) := by decide +kernel
theorem dX5_init_9 : decode cX5_init 9 = .ok (.aload_n 0, 1) := by decide +kernel
theorem dX5_init_10 : decode cX5_init 10 = .ok (.iconst 0, 1) := by decide +kernel
theorem dX5_init_11 : decode cX5_init 11 = .ok (.putfield 15, 3) := by decide +kernel
theorem dX5_init_14 : decode cX5_init 14 = .ok (.aload_n 0, 1) := by decide +kernel
theorem dX5_init_15 : decode cX5_init 15 = .ok (.iconst 0, 1) := by decide +kernel
theorem dX5_init_16 : decode cX5_init 16 = .ok (.putfield 18, 3) := by decide +kernel
theorem dX5_init_19 : decode cX5_init 19 = .ok (.aload_n 0, 1) := by decide +kernel
theorem dX5_init_20 : decode cX5_init 20 = .ok (.bipush 16, 2) := by decide +kernel
theorem dX5_init_22 : decode cX5_init 22 = .ok (.newarray .int, 2) := by decide +kernel
theorem dX5_init_24 : decode cX5_init 24 = .ok (.putfield 21, 3) := by decide +kernel
theorem dX5_init_27 : decode cX5_init 27 = .ok (.aload_n 0, 1) := by decide +kernel
theorem dX5_init_28 : decode cX5_init 28 = .ok (.bipush 16, 2) := by decide +kernel
theorem dX5_init_30 : decode cX5_init 30 = .ok (.newarray .int, 2) := by decide +kernel
theorem dX5_init_32 : decode cX5_init 32 = .ok (.putfield 25, 3) := by decide +kernel
theorem dX5_init_35 : decode cX5_init 35 = .ok (.aload_n 0, 1) := by decide +kernel
theorem dX5_init_36 : decode cX5_init 36 = .ok (.bipush 16, 2) := by decide +kernel
theorem dX5_init_38 : decode cX5_init 38 = .ok (.newarray .int, 2) := by decide +kernel
theorem dX5_init_40 : decode cX5_init 40 = .ok (.putfield 28, 3) := by decide +kernel
theorem dX5_init_43 : decode cX5_init 43 = .ok (.aload_n 0, 1) := by decide +kernel
theorem dX5_init_44 : decode cX5_init 44 = .ok (.bipush 16, 2) := by decide +kernel
theorem dX5_init_46 : decode cX5_init 46 = .ok (.newarray .int, 2) := by decide +kernel
theorem dX5_init_48 : decode cX5_init 48 = .ok (.putfield 31, 3) := by decide +kernel
theorem dX5_init_51 : decode cX5_init 51 = .ok (.aload_n 0, 1) := by decide +kernel
theorem dX5_init_52 : decode cX5_init 52 = .ok (.bipush 8, 2) := by decide +kernel
theorem dX5_init_54 : decode cX5_init 54 = .ok (.newarray .int, 2) := by decide +kernel
theorem dX5_init_56 : decode cX5_init 56 = .ok (.putfield 34, 3) := by decide +kernel
theorem dX5_init_59 : decode cX5_init 59 = .ok (.return_, 1) := by decide +kernel
theorem dX5_addPoint_0 : decode cX5_addPoint 0 = .ok (.aload_n 0, 1) := by decide +kernel
theorem dX5_addPoint_1 : decode cX5_addPoint 1 = .ok (.dup, 1) := by decide +kernel
theorem dX5_addPoint_2 : decode cX5_addPoint 2 = .ok (.getfield 9, 3) := by decide +kernel
theorem dX5_addPoint_5 : decode cX5_addPoint 5 = .ok (.iconst 1, 1) := by decide +kernel
theorem dX5_addPoint_6 : decode cX5_addPoint 6 = .ok (.iadd, 1) := by decide +kernel
theorem dX5_addPoint_7 : decode cX5_addPoint 7 = .ok (.putfield 9, 3) := by decide +kernel
theorem dX5_addPoint_10 : decode cX5_addPoint 10 = .ok (.aload_n 0, 1) := by decide +kernel
theorem dX5_addPoint_11 : decode cX5_addPoint 11 = .ok (.getfield 9, 3) := by decide +kernel
theorem dX5_addPoint_14 : decode cX5_addPoint 14 = .ok (.iconst 1, 1) := by decide +kernel
theorem dX5_addPoint_15 : decode cX5_addPoint 15 = .ok (.isub, 1) := by decide +kernel
theorem dX5_addPoint_16 : decode cX5_addPoint 16 = .ok (.ireturn, 1) := by decide +kernel
theorem dX5_addLine_0 : decode cX5_addLine 0 = .ok (.aload_n 0, 1) := by decide +kernel
theorem dX5_addLine_1 : decode cX5_addLine 1 = .ok (.getfield 15, 3) := by decide +kernel
theorem dX5_addLine_4 : decode cX5_addLine 4 = .ok (.istore 4, 2) := by decide +kernel
theorem dX5_addLine_6 : decode cX5_addLine 6 = .ok (.aload_n 0, 1) := by decide +kernel
theorem dX5_addLine_7 : decode cX5_addLine 7 = .ok (.getfield 21, 3) := by decide +kernel
theorem dX5_addLine_10 : decode cX5_addLine 10 = .ok (.iload 4, 2) := by decide +kernel
theorem dX5_addLine_12 : decode cX5_addLine 12 = .ok (.iload_n 1, 1) := by decide +kernel
theorem dX5_addLine_13 : decode cX5_addLine 13 = .ok (.iastore, 1) := by decide +kernel
theorem dX5_addLine_14 : decode cX5_addLine 14 = .ok (.aload_n 0, 1) := by decide +kernel
theorem dX5_addLine_15 : decode cX5_addLine 15 = .ok (.getfield 25, 3) := by decide +kernel
theorem dX5_addLine_18 : decode cX5_addLine 18 = .ok (.iload 4, 2) := by decide +kernel
theorem dX5_addLine_20 : decode cX5_addLine 20 = .ok (.iload_n 2, 1) := by decide +kernel
theorem dX5_addLine_21 : decode cX5_addLine 21 = .ok (.iastore, 1) := by decide +kernel
theorem dX5_addLine_22 : decode cX5_addLine 22 = .ok (.aload_n 0, 1) := by decide +kernel
theorem dX5_addLine_23 : decode cX5_addLine 23 = .ok (.getfield 28, 3) := by decide +kernel
theorem dX5_addLine_26 : decode cX5_addLine 26 = .ok (.iload 4, 2) := by decide +kernel
theorem dX5_addLine_28 : decode cX5_addLine 28 = .ok (.iload_n 3, 1) := by decide +kernel
theorem dX5_addLine_29 : decode cX5_addLine 29 = .ok (.iastore, 1) := by decide +kernel
theorem dX5_addLine_30 : decode cX5_addLine 30 = .ok (.aload_n 0, 1) := by decide +kernel
theorem dX5_addLine_31 : decode cX5_addLine 31 = .ok (.getfield 31, 3) := by decide +kernel
theorem dX5_addLine_34 : decode cX5_addLine 34 = .ok (.iload 4, 2) := by decide +kernel
theorem dX5_addLine_36 : decode cX5_addLine 36 = .ok (.iconst 1, 1) := by decide +kernel
theorem dX5_addLine_37 : decode cX5_addLine 37 = .ok (.iload_n 1, 1) := by decide +kernel
theorem dX5_addLine_38 : decode cX5_addLine 38 = .ok (.ishl, 1) := by decide +kernel
theorem dX5_addLine_39 : decode cX5_addLine 39 = .ok (.iconst 1, 1) := by decide +kernel
theorem dX5_addLine_40 : decode cX5_addLine 40 = .ok (.iload_n 2, 1) := by decide +kernel
theorem dX5_addLine_41 : decode cX5_addLine 41 = .ok (.ishl, 1) := by decide +kernel
theorem dX5_addLine_42 : decode cX5_addLine 42 = .ok (.ior, 1) := by decide +kernel
theorem dX5_addLine_43 : decode cX5_addLine 43 = .ok (.iastore, 1) := by decide +kernel
theorem dX5_addLine_44 : decode cX5_addLine 44 = .ok (.aload_n 0, 1) := by decide +kernel
theorem dX5_addLine_45 : decode cX5_addLine 45 = .ok (.getfield 34, 3) := by decide +kernel
theorem dX5_addLine_48 : decode cX5_addLine 48 = .ok (.iload_n 1, 1) := by decide +kernel
theorem dX5_addLine_49 : decode cX5_addLine 49 = .ok (.dup2, 1) := by decide +kernel
theorem dX5_addLine_50 : decode cX5_addLine 50 = .ok (.iaload, 1) := by decide +kernel
theorem dX5_addLine_51 : decode cX5_addLine 51 = .ok (.iconst 1, 1) := by decide +kernel
theorem dX5_addLine_52 : decode cX5_addLine 52 = .ok (.iload 4, 2) := by decide +kernel
theorem dX5_addLine_54 : decode cX5_addLine 54 = .ok (.ishl, 1) := by decide +kernel
theorem dX5_addLine_55 : decode cX5_addLine 55 = .ok (.ior, 1) := by decide +kernel
theorem dX5_addLine_56 : decode cX5_addLine 56 = .ok (.iastore, 1) := by decide +kernel
theorem dX5_addLine_57 : decode cX5_addLine 57 = .ok (.aload_n 0, 1) := by decide +kernel
theorem dX5_addLine_58 : decode cX5_addLine 58 = .ok (.getfield 34, 3) := by decide +kernel
theorem dX5_addLine_61 : decode cX5_addLine 61 = .ok (.iload_n 2, 1) := by decide +kernel
theorem dX5_addLine_62 : decode cX5_addLine 62 = .ok (.dup2, 1) := by decide +kernel
theorem dX5_addLine_63 : decode cX5_addLine 63 = .ok (.iaload, 1) := by decide +kernel
theorem dX5_addLine_64 : decode cX5_addLine 64 = .ok (.iconst 1, 1) := by decide +kernel
theorem dX5_addLine_65 : decode cX5_addLine 65 = .ok (.iload 4, 2) := by decide +kernel
theorem dX5_addLine_67 : decode cX5_addLine 67 = .ok (.ishl, 1) := by decide +kernel
theorem dX5_addLine_68 : decode cX5_addLine 68 = .ok (.ior, 1) := by decide +kernel
theorem dX5_addLine_69 : decode cX5_addLine 69 = .ok (.iastore, 1) := by decide +kernel
theorem dX5_addLine_70 : decode cX5_addLine 70 = .ok (.aload_n 0, 1) := by decide +kernel
theorem dX5_addLine_71 : decode cX5_addLine 71 = .ok (.dup, 1) := by decide +kernel
theorem dX5_addLine_72 : decode cX5_addLine 72 = .ok (.getfield 18, 3) := by decide +kernel
theorem dX5_addLine_75 : decode cX5_addLine 75 = .ok (.iconst 1, 1) := by decide +kernel
theorem dX5_addLine_76 : decode cX5_addLine 76 = .ok (.iload 4, 2) := by decide +kernel
theorem dX5_addLine_78 : decode cX5_addLine 78 = .ok (.ishl, 1) := by decide +kernel
theorem dX5_addLine_79 : decode cX5_addLine 79 = .ok (.ior, 1) := by decide +kernel
theorem dX5_addLine_80 : decode cX5_addLine 80 = .ok (.putfield 18, 3) := by decide +kernel
theorem dX5_addLine_83 : decode cX5_addLine 83 = .ok (.aload_n 0, 1) := by decide +kernel
theorem dX5_addLine_84 : decode cX5_addLine 84 = .ok (.dup, 1) := by decide +kernel
theorem dX5_addLine_85 : decode cX5_addLine 85 = .ok (.getfield 15, 3) := by decide +kernel
theorem dX5_addLine_88 : decode cX5_addLine 88 = .ok (.iconst 1, 1) := by decide +kernel
theorem dX5_addLine_89 : decode cX5_addLine 89 = .ok (.iadd, 1) := by decide +kernel
theorem dX5_addLine_90 : decode cX5_addLine 90 = .ok (.putfield 15, 3) := by decide +kernel
theorem dX5_addLine_93 : decode cX5_addLine 93 = .ok (.iload 4, 2) := by decide +kernel
theorem dX5_addLine_95 : decode cX5_addLine 95 = .ok (.ireturn, 1) := by decide +kernel
theorem dX5_setCut_0 : decode cX5_setCut 0 = .ok (.aload_n 0, 1) := by decide +kernel
theorem dX5_setCut_1 : decode cX5_setCut 1 = .ok (.iload_n 2, 1) := by decide +kernel
theorem dX5_setCut_2 : decode cX5_setCut 2 = .ok (.ifCond .eq 16, 3) := by decide +kernel
theorem dX5_setCut_5 : decode cX5_setCut 5 = .ok (.aload_n 0, 1) := by decide +kernel
theorem dX5_setCut_6 : decode cX5_setCut 6 = .ok (.getfield 18, 3) := by decide +kernel
theorem dX5_setCut_9 : decode cX5_setCut 9 = .ok (.iconst 1, 1) := by decide +kernel
theorem dX5_setCut_10 : decode cX5_setCut 10 = .ok (.iload_n 1, 1) := by decide +kernel
theorem dX5_setCut_11 : decode cX5_setCut 11 = .ok (.ishl, 1) := by decide +kernel
theorem dX5_setCut_12 : decode cX5_setCut 12 = .ok (.iconst (-1), 1) := by decide +kernel
theorem dX5_setCut_13 : decode cX5_setCut 13 = .ok (.ixor, 1) := by decide +kernel
theorem dX5_setCut_14 : decode cX5_setCut 14 = .ok (.iand, 1) := by decide +kernel
theorem dX5_setCut_15 : decode cX5_setCut 15 = .ok (.goto 11, 3) := by decide +kernel
theorem dX5_setCut_18 : decode cX5_setCut 18 = .ok (.aload_n 0, 1) := by decide +kernel
theorem dX5_setCut_19 : decode cX5_setCut 19 = .ok (.getfield 18, 3) := by decide +kernel
theorem dX5_setCut_22 : decode cX5_setCut 22 = .ok (.iconst 1, 1) := by decide +kernel
theorem dX5_setCut_23 : decode cX5_setCut 23 = .ok (.iload_n 1, 1) := by decide +kernel
theorem dX5_setCut_24 : decode cX5_setCut 24 = .ok (.ishl, 1) := by decide +kernel
theorem dX5_setCut_25 : decode cX5_setCut 25 = .ok (.ior, 1) := by decide +kernel
theorem dX5_setCut_26 : decode cX5_setCut 26 = .ok (.putfield 18, 3) := by decide +kernel
theorem dX5_setCut_29 : decode cX5_setCut 29 = .ok (.return_, 1) := by decide +kernel
theorem dX5_allPoints_0 : decode cX5_allPoints 0 = .ok (.iconst 1, 1) := by decide +kernel
theorem dX5_allPoints_1 : decode cX5_allPoints 1 = .ok (.aload_n 0, 1) := by decide +kernel
theorem dX5_allPoints_2 : decode cX5_allPoints 2 = .ok (.getfield 9, 3) := by decide +kernel
theorem dX5_allPoints_5 : decode cX5_allPoints 5 = .ok (.ishl, 1) := by decide +kernel
theorem dX5_allPoints_6 : decode cX5_allPoints 6 = .ok (.iconst 1, 1) := by decide +kernel
theorem dX5_allPoints_7 : decode cX5_allPoints 7 = .ok (.isub, 1) := by decide +kernel
theorem dX5_allPoints_8 : decode cX5_allPoints 8 = .ok (.ireturn, 1) := by decide +kernel
theorem dX5_standingAt_0 : decode cX5_standingAt 0 = .ok (.aload_n 0, 1) := by decide +kernel
theorem dX5_standingAt_1 : decode cX5_standingAt 1 = .ok (.getfield 34, 3) := by decide +kernel
theorem dX5_standingAt_4 : decode cX5_standingAt 4 = .ok (.iload_n 1, 1) := by decide +kernel
theorem dX5_standingAt_5 : decode cX5_standingAt 5 = .ok (.iaload, 1) := by decide +kernel
theorem dX5_standingAt_6 : decode cX5_standingAt 6 = .ok (.aload_n 0, 1) := by decide +kernel
theorem dX5_standingAt_7 : decode cX5_standingAt 7 = .ok (.getfield 18, 3) := by decide +kernel
theorem dX5_standingAt_10 : decode cX5_standingAt 10 = .ok (.iand, 1) := by decide +kernel
theorem dX5_standingAt_11 : decode cX5_standingAt 11 = .ok (.ireturn, 1) := by decide +kernel
theorem dX5_otherEnd_0 : decode cX5_otherEnd 0 = .ok (.aload_n 0, 1) := by decide +kernel
theorem dX5_otherEnd_1 : decode cX5_otherEnd 1 = .ok (.getfield 21, 3) := by decide +kernel
theorem dX5_otherEnd_4 : decode cX5_otherEnd 4 = .ok (.iload_n 1, 1) := by decide +kernel
theorem dX5_otherEnd_5 : decode cX5_otherEnd 5 = .ok (.iaload, 1) := by decide +kernel
theorem dX5_otherEnd_6 : decode cX5_otherEnd 6 = .ok (.iload_n 2, 1) := by decide +kernel
theorem dX5_otherEnd_7 : decode cX5_otherEnd 7 = .ok (.if_icmp .ne 12, 3) := by decide +kernel
theorem dX5_otherEnd_10 : decode cX5_otherEnd 10 = .ok (.aload_n 0, 1) := by decide +kernel
theorem dX5_otherEnd_11 : decode cX5_otherEnd 11 = .ok (.getfield 25, 3) := by decide +kernel
theorem dX5_otherEnd_14 : decode cX5_otherEnd 14 = .ok (.iload_n 1, 1) := by decide +kernel
theorem dX5_otherEnd_15 : decode cX5_otherEnd 15 = .ok (.iaload, 1) := by decide +kernel
theorem dX5_otherEnd_16 : decode cX5_otherEnd 16 = .ok (.goto 9, 3) := by decide +kernel
theorem dX5_otherEnd_19 : decode cX5_otherEnd 19 = .ok (.aload_n 0, 1) := by decide +kernel
theorem dX5_otherEnd_20 : decode cX5_otherEnd 20 = .ok (.getfield 21, 3) := by decide +kernel
theorem dX5_otherEnd_23 : decode cX5_otherEnd 23 = .ok (.iload_n 1, 1) := by decide +kernel
theorem dX5_otherEnd_24 : decode cX5_otherEnd 24 = .ok (.iaload, 1) := by decide +kernel
theorem dX5_otherEnd_25 : decode cX5_otherEnd 25 = .ok (.ireturn, 1) := by decide +kernel
set_option maxRecDepth 20000 in
theorem ggX5_linkedWith_X6_has : GoodIn wsX5_linkedWith wsX6_has := goodIn_r _ [7] (by decide +kernel) (by decide +kernel)
set_option maxRecDepth 20000 in
theorem gX5_linkedWith_X6_has_n37 : GoodIn wsX5_linkedWith (wsX6_has) := ggX5_linkedWith_X6_has
theorem dX5_linkedWith_0 : decode cX5_linkedWith 0 = .ok (.iconst 0, 1) := by decide +kernel
theorem dX5_linkedWith_1 : decode cX5_linkedWith 1 = .ok (.istore_n 2, 1) := by decide +kernel
theorem dX5_linkedWith_2 : decode cX5_linkedWith 2 = .ok (.iconst 0, 1) := by decide +kernel
theorem dX5_linkedWith_3 : decode cX5_linkedWith 3 = .ok (.istore_n 3, 1) := by decide +kernel
theorem dX5_linkedWith_4 : decode cX5_linkedWith 4 = .ok (.iload_n 3, 1) := by decide +kernel
theorem dX5_linkedWith_5 : decode cX5_linkedWith 5 = .ok (.aload_n 0, 1) := by decide +kernel
theorem dX5_linkedWith_6 : decode cX5_linkedWith 6 = .ok (.getfield 15, 3) := by decide +kernel
theorem dX5_linkedWith_9 : decode cX5_linkedWith 9 = .ok (.if_icmp .ge 36, 3) := by decide +kernel
theorem dX5_linkedWith_12 : decode cX5_linkedWith 12 = .ok (.aload_n 0, 1) := by decide +kernel
theorem dX5_linkedWith_13 : decode cX5_linkedWith 13 = .ok (.getfield 34, 3) := by decide +kernel
theorem dX5_linkedWith_16 : decode cX5_linkedWith 16 = .ok (.iload_n 1, 1) := by decide +kernel
theorem dX5_linkedWith_17 : decode cX5_linkedWith 17 = .ok (.iaload, 1) := by decide +kernel
theorem dX5_linkedWith_18 : decode cX5_linkedWith 18 = .ok (.aload_n 0, 1) := by decide +kernel
theorem dX5_linkedWith_19 : decode cX5_linkedWith 19 = .ok (.getfield 18, 3) := by decide +kernel
theorem dX5_linkedWith_22 : decode cX5_linkedWith 22 = .ok (.iand, 1) := by decide +kernel
theorem dX5_linkedWith_23 : decode cX5_linkedWith 23 = .ok (.iload_n 3, 1) := by decide +kernel
theorem dX5_linkedWith_24 : decode cX5_linkedWith 24 = .ok (.invokestatic 37, 3) := by decide +kernel
theorem dX5_linkedWith_27 : decode cX5_linkedWith 27 = .ok (.ifCond .eq 12, 3) := by decide +kernel
theorem dX5_linkedWith_30 : decode cX5_linkedWith 30 = .ok (.iload_n 2, 1) := by decide +kernel
theorem dX5_linkedWith_31 : decode cX5_linkedWith 31 = .ok (.aload_n 0, 1) := by decide +kernel
theorem dX5_linkedWith_32 : decode cX5_linkedWith 32 = .ok (.getfield 31, 3) := by decide +kernel
theorem dX5_linkedWith_35 : decode cX5_linkedWith 35 = .ok (.iload_n 3, 1) := by decide +kernel
theorem dX5_linkedWith_36 : decode cX5_linkedWith 36 = .ok (.iaload, 1) := by decide +kernel
theorem dX5_linkedWith_37 : decode cX5_linkedWith 37 = .ok (.ior, 1) := by decide +kernel
theorem dX5_linkedWith_38 : decode cX5_linkedWith 38 = .ok (.istore_n 2, 1) := by decide +kernel
theorem dX5_linkedWith_39 : decode cX5_linkedWith 39 = .ok (.iinc 3 1, 3) := by decide +kernel
theorem dX5_linkedWith_42 : decode cX5_linkedWith 42 = .ok (.goto (-38), 3) := by decide +kernel
theorem dX5_linkedWith_45 : decode cX5_linkedWith 45 = .ok (.iload_n 2, 1) := by decide +kernel
theorem dX5_linkedWith_46 : decode cX5_linkedWith 46 = .ok (.iconst 1, 1) := by decide +kernel
theorem dX5_linkedWith_47 : decode cX5_linkedWith 47 = .ok (.iload_n 1, 1) := by decide +kernel
theorem dX5_linkedWith_48 : decode cX5_linkedWith 48 = .ok (.ishl, 1) := by decide +kernel
theorem dX5_linkedWith_49 : decode cX5_linkedWith 49 = .ok (.iconst (-1), 1) := by decide +kernel
theorem dX5_linkedWith_50 : decode cX5_linkedWith 50 = .ok (.ixor, 1) := by decide +kernel
theorem dX5_linkedWith_51 : decode cX5_linkedWith 51 = .ok (.iand, 1) := by decide +kernel
theorem dX5_linkedWith_52 : decode cX5_linkedWith 52 = .ok (.ireturn, 1) := by decide +kernel
theorem dX5_reach_0 : decode cX5_reach 0 = .ok (.iconst 1, 1) := by decide +kernel
theorem dX5_reach_1 : decode cX5_reach 1 = .ok (.iload_n 1, 1) := by decide +kernel
theorem dX5_reach_2 : decode cX5_reach 2 = .ok (.ishl, 1) := by decide +kernel
theorem dX5_reach_3 : decode cX5_reach 3 = .ok (.istore 4, 2) := by decide +kernel
theorem dX5_reach_5 : decode cX5_reach 5 = .ok (.iconst 0, 1) := by decide +kernel
