/-! own rows: the law and its helpers: instructions, words (1) -/
theorem dL_net_129 : decode cL_net 129 = .ok (.iconst 0, 1) := by decide +kernel
theorem dL_net_130 : decode cL_net 130 = .ok (.istore 4, 2) := by decide +kernel
theorem dL_net_132 : decode cL_net 132 = .ok (.iload 4, 2) := by decide +kernel
theorem dL_net_134 : decode cL_net 134 = .ok (.bipush 6, 2) := by decide +kernel
theorem dL_net_136 : decode cL_net 136 = .ok (.if_icmp .ge 24, 3) := by decide +kernel
theorem dL_net_139 : decode cL_net 139 = .ok (.aload_n 1, 1) := by decide +kernel
theorem dL_net_140 : decode cL_net 140 = .ok (.aload_n 0, 1) := by decide +kernel
theorem dL_net_141 : decode cL_net 141 = .ok (.bipush 15, 2) := by decide +kernel
theorem dL_net_143 : decode cL_net 143 = .ok (.invokestatic 12, 3) := by decide +kernel
theorem dL_net_146 : decode cL_net 146 = .ok (.iconst 4, 1) := by decide +kernel
theorem dL_net_147 : decode cL_net 147 = .ok (.iload 4, 2) := by decide +kernel
theorem dL_net_149 : decode cL_net 149 = .ok (.imul, 1) := by decide +kernel
theorem dL_net_150 : decode cL_net 150 = .ok (.ishr, 1) := by decide +kernel
theorem dL_net_151 : decode cL_net 151 = .ok (.invokestatic 34, 3) := by decide +kernel
theorem dL_net_154 : decode cL_net 154 = .ok (.iinc 4 1, 3) := by decide +kernel
theorem dL_net_157 : decode cL_net 157 = .ok (.goto (-25), 3) := by decide +kernel
theorem dL_net_160 : decode cL_net 160 = .ok (.aload_n 1, 1) := by decide +kernel
theorem dL_net_161 : decode cL_net 161 = .ok (.areturn, 1) := by decide +kernel
theorem dL_add_0 : decode cL_add 0 = .ok (.iload_n 1, 1) := by decide +kernel
theorem dL_add_1 : decode cL_add 1 = .ok (.aload_n 0, 1) := by decide +kernel
theorem dL_add_2 : decode cL_add 2 = .ok (.iconst 0, 1) := by decide +kernel
theorem dL_add_3 : decode cL_add 3 = .ok (.invokevirtual 37, 3) := by decide +kernel
theorem dL_add_6 : decode cL_add 6 = .ok (.invokestatic 18, 3) := by decide +kernel
theorem dL_add_9 : decode cL_add 9 = .ok (.istore_n 2, 1) := by decide +kernel
theorem dL_add_10 : decode cL_add 10 = .ok (.iload_n 2, 1) := by decide +kernel
theorem dL_add_11 : decode cL_add 11 = .ok (.iconst 1, 1) := by decide +kernel
theorem dL_add_12 : decode cL_add 12 = .ok (.iadd, 1) := by decide +kernel
theorem dL_add_13 : decode cL_add 13 = .ok (.iload_n 1, 1) := by decide +kernel
theorem dL_add_14 : decode cL_add 14 = .ok (.iconst 4, 1) := by decide +kernel
theorem dL_add_15 : decode cL_add 15 = .ok (.ishr, 1) := by decide +kernel
theorem dL_add_16 : decode cL_add 16 = .ok (.aload_n 0, 1) := by decide +kernel
theorem dL_add_17 : decode cL_add 17 = .ok (.iconst 0, 1) := by decide +kernel
theorem dL_add_18 : decode cL_add 18 = .ok (.invokevirtual 37, 3) := by decide +kernel
theorem dL_add_21 : decode cL_add 21 = .ok (.iconst 1, 1) := by decide +kernel
theorem dL_add_22 : decode cL_add 22 = .ok (.isub, 1) := by decide +kernel
theorem dL_add_23 : decode cL_add 23 = .ok (.invokestatic 18, 3) := by decide +kernel
theorem dL_add_26 : decode cL_add 26 = .ok (.iadd, 1) := by decide +kernel
theorem dL_add_27 : decode cL_add 27 = .ok (.aload_n 0, 1) := by decide +kernel
theorem dL_add_28 : decode cL_add 28 = .ok (.iconst 0, 1) := by decide +kernel
theorem dL_add_29 : decode cL_add 29 = .ok (.invokevirtual 37, 3) := by decide +kernel
theorem dL_add_32 : decode cL_add 32 = .ok (.irem, 1) := by decide +kernel
theorem dL_add_33 : decode cL_add 33 = .ok (.istore_n 3, 1) := by decide +kernel
theorem dL_add_34 : decode cL_add 34 = .ok (.aload_n 0, 1) := by decide +kernel
theorem dL_add_35 : decode cL_add 35 = .ok (.iconst 1, 1) := by decide +kernel
theorem dL_add_36 : decode cL_add 36 = .ok (.invokevirtual 37, 3) := by decide +kernel
theorem dL_add_39 : decode cL_add 39 = .ok (.bipush 16, 2) := by decide +kernel
theorem dL_add_41 : decode cL_add 41 = .ok (.if_icmp .ge 20, 3) := by decide +kernel
theorem dL_add_44 : decode cL_add 44 = .ok (.aload_n 0, 1) := by decide +kernel
theorem dL_add_45 : decode cL_add 45 = .ok (.iload_n 2, 1) := by decide +kernel
theorem dL_add_46 : decode cL_add 46 = .ok (.iload_n 3, 1) := by decide +kernel
theorem dL_add_47 : decode cL_add 47 = .ok (.iconst 1, 1) := by decide +kernel
theorem dL_add_48 : decode cL_add 48 = .ok (.iload_n 1, 1) := by decide +kernel
theorem dL_add_49 : decode cL_add 49 = .ok (.iconst 3, 1) := by decide +kernel
theorem dL_add_50 : decode cL_add 50 = .ok (.ishr, 1) := by decide +kernel
theorem dL_add_51 : decode cL_add 51 = .ok (.bipush 20, 2) := by decide +kernel
theorem dL_add_53 : decode cL_add 53 = .ok (.invokestatic 18, 3) := by decide +kernel
theorem dL_add_56 : decode cL_add 56 = .ok (.iadd, 1) := by decide +kernel
theorem dL_add_57 : decode cL_add 57 = .ok (.invokevirtual 41, 3) := by decide +kernel
theorem dL_add_60 : decode cL_add 60 = .ok (.pop, 1) := by decide +kernel
theorem dL_add_61 : decode cL_add 61 = .ok (.return_, 1) := by decide +kernel
theorem dL_turned_0 : decode cL_turned 0 = .ok (.iload_n 1, 1) := by decide +kernel
theorem dL_turned_1 : decode cL_turned 1 = .ok (.aload_n 0, 1) := by decide +kernel
theorem dL_turned_2 : decode cL_turned 2 = .ok (.iconst 0, 1) := by decide +kernel
theorem dL_turned_3 : decode cL_turned 3 = .ok (.invokevirtual 37, 3) := by decide +kernel
theorem dL_turned_6 : decode cL_turned 6 = .ok (.invokestatic 18, 3) := by decide +kernel
theorem dL_turned_9 : decode cL_turned 9 = .ok (.istore_n 2, 1) := by decide +kernel
theorem dL_turned_10 : decode cL_turned 10 = .ok (.aload_n 0, 1) := by decide +kernel
theorem dL_turned_11 : decode cL_turned 11 = .ok (.iload_n 2, 1) := by decide +kernel
theorem dL_turned_12 : decode cL_turned 12 = .ok (.bipush 6, 2) := by decide +kernel
theorem dL_turned_14 : decode cL_turned 14 = .ok (.invokevirtual 45, 3) := by decide +kernel
theorem dL_turned_17 : decode cL_turned 17 = .ok (.ifCond .le 22, 3) := by decide +kernel
theorem dL_turned_20 : decode cL_turned 20 = .ok (.aload_n 0, 1) := by decide +kernel
theorem dL_turned_21 : decode cL_turned 21 = .ok (.iload_n 2, 1) := by decide +kernel
theorem dL_turned_22 : decode cL_turned 22 = .ok (.iload_n 1, 1) := by decide +kernel
theorem dL_turned_23 : decode cL_turned 23 = .ok (.iconst 3, 1) := by decide +kernel
theorem dL_turned_24 : decode cL_turned 24 = .ok (.ishr, 1) := by decide +kernel
theorem dL_turned_25 : decode cL_turned 25 = .ok (.aload_n 0, 1) := by decide +kernel
theorem dL_turned_26 : decode cL_turned 26 = .ok (.iload_n 2, 1) := by decide +kernel
theorem dL_turned_27 : decode cL_turned 27 = .ok (.bipush 6, 2) := by decide +kernel
theorem dL_turned_29 : decode cL_turned 29 = .ok (.invokevirtual 45, 3) := by decide +kernel
theorem dL_turned_32 : decode cL_turned 32 = .ok (.invokestatic 18, 3) := by decide +kernel
theorem dL_turned_35 : decode cL_turned 35 = .ok (.invokevirtual 48, 3) := by decide +kernel
theorem dL_turned_38 : decode cL_turned 38 = .ok (.pop, 1) := by decide +kernel
theorem dL_turned_39 : decode cL_turned 39 = .ok (.return_, 1) := by decide +kernel
theorem dL_isDone_0 : decode cL_isDone 0 = .ok (.iload_n 1, 1) := by decide +kernel
theorem dL_isDone_1 : decode cL_isDone 1 = .ok (.iconst 4, 1) := by decide +kernel
theorem dL_isDone_2 : decode cL_isDone 2 = .ok (.ishr, 1) := by decide +kernel
theorem dL_isDone_3 : decode cL_isDone 3 = .ok (.iconst 1, 1) := by decide +kernel
theorem dL_isDone_4 : decode cL_isDone 4 = .ok (.aload_n 0, 1) := by decide +kernel
theorem dL_isDone_5 : decode cL_isDone 5 = .ok (.iconst 1, 1) := by decide +kernel
