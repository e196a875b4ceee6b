/-! own rows: the law and its helpers: instructions, words (0) -/
theorem dL_below_0 : decode cL_below 0 = .ok (.iload_n 0, 1) := by decide +kernel
theorem dL_below_1 : decode cL_below 1 = .ok (.ldc 7, 2) := by decide +kernel
theorem dL_below_3 : decode cL_below 3 = .ok (.iand, 1) := by decide +kernel
theorem dL_below_4 : decode cL_below 4 = .ok (.iload_n 1, 1) := by decide +kernel
theorem dL_below_5 : decode cL_below 5 = .ok (.irem, 1) := by decide +kernel
theorem dL_below_6 : decode cL_below 6 = .ok (.ireturn, 1) := by decide +kernel
theorem dL_cell_0 : decode cL_cell 0 = .ok (.iload_n 1, 1) := by decide +kernel
theorem dL_cell_1 : decode cL_cell 1 = .ok (.aload_n 0, 1) := by decide +kernel
theorem dL_cell_2 : decode cL_cell 2 = .ok (.arraylength, 1) := by decide +kernel
theorem dL_cell_3 : decode cL_cell 3 = .ok (.if_icmp .ge 9, 3) := by decide +kernel
theorem dL_cell_6 : decode cL_cell 6 = .ok (.aload_n 0, 1) := by decide +kernel
theorem dL_cell_7 : decode cL_cell 7 = .ok (.iload_n 1, 1) := by decide +kernel
theorem dL_cell_8 : decode cL_cell 8 = .ok (.iaload, 1) := by decide +kernel
theorem dL_cell_9 : decode cL_cell 9 = .ok (.goto 9, 3) := by decide +kernel
theorem dL_cell_12 : decode cL_cell 12 = .ok (.ldc 8, 2) := by decide +kernel
theorem dL_cell_14 : decode cL_cell 14 = .ok (.iload_n 1, 1) := by decide +kernel
theorem dL_cell_15 : decode cL_cell 15 = .ok (.iconst 3, 1) := by decide +kernel
theorem dL_cell_16 : decode cL_cell 16 = .ok (.iadd, 1) := by decide +kernel
theorem dL_cell_17 : decode cL_cell 17 = .ok (.imul, 1) := by decide +kernel
theorem dL_cell_18 : decode cL_cell 18 = .ok (.ireturn, 1) := by decide +kernel
theorem dL_net_0 : decode cL_net 0 = .ok (.new 9, 3) := by decide +kernel
theorem dL_net_3 : decode cL_net 3 = .ok (.dup, 1) := by decide +kernel
theorem dL_net_4 : decode cL_net 4 = .ok (.invokespecial 11, 3) := by decide +kernel
theorem dL_net_7 : decode cL_net 7 = .ok (.astore_n 1, 1) := by decide +kernel
theorem dL_net_8 : decode cL_net 8 = .ok (.iconst 2, 1) := by decide +kernel
theorem dL_net_9 : decode cL_net 9 = .ok (.aload_n 0, 1) := by decide +kernel
theorem dL_net_10 : decode cL_net 10 = .ok (.iconst 0, 1) := by decide +kernel
theorem dL_net_11 : decode cL_net 11 = .ok (.invokestatic 12, 3) := by decide +kernel
theorem dL_net_14 : decode cL_net 14 = .ok (.bipush 7, 2) := by decide +kernel
theorem dL_net_16 : decode cL_net 16 = .ok (.invokestatic 18, 3) := by decide +kernel
theorem dL_net_19 : decode cL_net 19 = .ok (.iadd, 1) := by decide +kernel
theorem dL_net_20 : decode cL_net 20 = .ok (.istore_n 2, 1) := by decide +kernel
theorem dL_net_21 : decode cL_net 21 = .ok (.iconst 0, 1) := by decide +kernel
theorem dL_net_22 : decode cL_net 22 = .ok (.istore_n 3, 1) := by decide +kernel
theorem dL_net_23 : decode cL_net 23 = .ok (.iload_n 3, 1) := by decide +kernel
theorem dL_net_24 : decode cL_net 24 = .ok (.iload_n 2, 1) := by decide +kernel
theorem dL_net_25 : decode cL_net 25 = .ok (.if_icmp .ge 14, 3) := by decide +kernel
theorem dL_net_28 : decode cL_net 28 = .ok (.aload_n 1, 1) := by decide +kernel
theorem dL_net_29 : decode cL_net 29 = .ok (.invokevirtual 22, 3) := by decide +kernel
theorem dL_net_32 : decode cL_net 32 = .ok (.pop, 1) := by decide +kernel
theorem dL_net_33 : decode cL_net 33 = .ok (.iinc 3 1, 3) := by decide +kernel
theorem dL_net_36 : decode cL_net 36 = .ok (.goto (-13), 3) := by decide +kernel
theorem dL_net_39 : decode cL_net 39 = .ok (.aload_n 0, 1) := by decide +kernel
theorem dL_net_40 : decode cL_net 40 = .ok (.iconst 1, 1) := by decide +kernel
theorem dL_net_41 : decode cL_net 41 = .ok (.invokestatic 12, 3) := by decide +kernel
theorem dL_net_44 : decode cL_net 44 = .ok (.bipush 17, 2) := by decide +kernel
theorem dL_net_46 : decode cL_net 46 = .ok (.invokestatic 18, 3) := by decide +kernel
theorem dL_net_49 : decode cL_net 49 = .ok (.istore_n 3, 1) := by decide +kernel
theorem dL_net_50 : decode cL_net 50 = .ok (.iconst 0, 1) := by decide +kernel
theorem dL_net_51 : decode cL_net 51 = .ok (.istore 4, 2) := by decide +kernel
theorem dL_net_53 : decode cL_net 53 = .ok (.iload 4, 2) := by decide +kernel
theorem dL_net_55 : decode cL_net 55 = .ok (.iload_n 3, 1) := by decide +kernel
theorem dL_net_56 : decode cL_net 56 = .ok (.if_icmp .ge 33, 3) := by decide +kernel
theorem dL_net_59 : decode cL_net 59 = .ok (.aload_n 1, 1) := by decide +kernel
theorem dL_net_60 : decode cL_net 60 = .ok (.aload_n 0, 1) := by decide +kernel
theorem dL_net_61 : decode cL_net 61 = .ok (.iconst 2, 1) := by decide +kernel
theorem dL_net_62 : decode cL_net 62 = .ok (.iload 4, 2) := by decide +kernel
theorem dL_net_64 : decode cL_net 64 = .ok (.bipush 12, 2) := by decide +kernel
theorem dL_net_66 : decode cL_net 66 = .ok (.irem, 1) := by decide +kernel
theorem dL_net_67 : decode cL_net 67 = .ok (.iadd, 1) := by decide +kernel
theorem dL_net_68 : decode cL_net 68 = .ok (.invokestatic 12, 3) := by decide +kernel
theorem dL_net_71 : decode cL_net 71 = .ok (.iload 4, 2) := by decide +kernel
theorem dL_net_73 : decode cL_net 73 = .ok (.bipush 12, 2) := by decide +kernel
theorem dL_net_75 : decode cL_net 75 = .ok (.idiv, 1) := by decide +kernel
theorem dL_net_76 : decode cL_net 76 = .ok (.bipush 7, 2) := by decide +kernel
theorem dL_net_78 : decode cL_net 78 = .ok (.imul, 1) := by decide +kernel
theorem dL_net_79 : decode cL_net 79 = .ok (.ishr, 1) := by decide +kernel
theorem dL_net_80 : decode cL_net 80 = .ok (.invokestatic 26, 3) := by decide +kernel
theorem dL_net_83 : decode cL_net 83 = .ok (.iinc 4 1, 3) := by decide +kernel
theorem dL_net_86 : decode cL_net 86 = .ok (.goto (-33), 3) := by decide +kernel
theorem dL_net_89 : decode cL_net 89 = .ok (.iconst 0, 1) := by decide +kernel
theorem dL_net_90 : decode cL_net 90 = .ok (.istore 4, 2) := by decide +kernel
theorem dL_net_92 : decode cL_net 92 = .ok (.iload 4, 2) := by decide +kernel
theorem dL_net_94 : decode cL_net 94 = .ok (.iload_n 3, 1) := by decide +kernel
theorem dL_net_95 : decode cL_net 95 = .ok (.if_icmp .ge 34, 3) := by decide +kernel
theorem dL_net_98 : decode cL_net 98 = .ok (.aload_n 0, 1) := by decide +kernel
theorem dL_net_99 : decode cL_net 99 = .ok (.bipush 14, 2) := by decide +kernel
theorem dL_net_101 : decode cL_net 101 = .ok (.invokestatic 12, 3) := by decide +kernel
theorem dL_net_104 : decode cL_net 104 = .ok (.iload 4, 2) := by decide +kernel
theorem dL_net_106 : decode cL_net 106 = .ok (.ishr, 1) := by decide +kernel
theorem dL_net_107 : decode cL_net 107 = .ok (.bipush 6, 2) := by decide +kernel
theorem dL_net_109 : decode cL_net 109 = .ok (.invokestatic 18, 3) := by decide +kernel
theorem dL_net_112 : decode cL_net 112 = .ok (.ifCond .ne 11, 3) := by decide +kernel
theorem dL_net_115 : decode cL_net 115 = .ok (.aload_n 1, 1) := by decide +kernel
theorem dL_net_116 : decode cL_net 116 = .ok (.iload 4, 2) := by decide +kernel
theorem dL_net_118 : decode cL_net 118 = .ok (.iconst 1, 1) := by decide +kernel
theorem dL_net_119 : decode cL_net 119 = .ok (.invokevirtual 30, 3) := by decide +kernel
theorem dL_net_122 : decode cL_net 122 = .ok (.pop, 1) := by decide +kernel
theorem dL_net_123 : decode cL_net 123 = .ok (.iinc 4 1, 3) := by decide +kernel
theorem dL_net_126 : decode cL_net 126 = .ok (.goto (-34), 3) := by decide +kernel
