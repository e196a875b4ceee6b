/-! own rows: the law and its helpers: instructions, words (4) -/
theorem dL_law_151 : decode cL_law 151 = .ok (.lstore_n 2, 1) := by decide +kernel
theorem dL_law_152 : decode cL_law 152 = .ok (.aload_n 1, 1) := by decide +kernel
theorem dL_law_153 : decode cL_law 153 = .ok (.invokevirtual 81, 3) := by decide +kernel
theorem dL_law_156 : decode cL_law 156 = .ok (.ifCond .eq 16, 3) := by decide +kernel
theorem dL_law_159 : decode cL_law 159 = .ok (.aload_n 1, 1) := by decide +kernel
theorem dL_law_160 : decode cL_law 160 = .ok (.invokevirtual 73, 3) := by decide +kernel
theorem dL_law_163 : decode cL_law 163 = .ok (.lload_n 2, 1) := by decide +kernel
theorem dL_law_164 : decode cL_law 164 = .ok (.lcmp, 1) := by decide +kernel
theorem dL_law_165 : decode cL_law 165 = .ok (.ifCond .ne 7, 3) := by decide +kernel
theorem dL_law_168 : decode cL_law 168 = .ok (.iconst 1, 1) := by decide +kernel
theorem dL_law_169 : decode cL_law 169 = .ok (.goto 4, 3) := by decide +kernel
theorem dL_law_172 : decode cL_law 172 = .ok (.iconst 0, 1) := by decide +kernel
theorem dL_law_173 : decode cL_law 173 = .ok (.ireturn, 1) := by decide +kernel
theorem dL_isParted_0 : decode cL_isParted 0 = .ok (.aload_n 0, 1) := by decide +kernel
theorem dL_isParted_1 : decode cL_isParted 1 = .ok (.iload_n 1, 1) := by decide +kernel
theorem dL_isParted_2 : decode cL_isParted 2 = .ok (.iload_n 2, 1) := by decide +kernel
theorem dL_isParted_3 : decode cL_isParted 3 = .ok (.iconst 0, 1) := by decide +kernel
theorem dL_isParted_4 : decode cL_isParted 4 = .ok (.invokevirtual 85, 3) := by decide +kernel
theorem dL_isParted_7 : decode cL_isParted 7 = .ok (.istore_n 3, 1) := by decide +kernel
theorem dL_isParted_8 : decode cL_isParted 8 = .ok (.aload_n 0, 1) := by decide +kernel
theorem dL_isParted_9 : decode cL_isParted 9 = .ok (.iload_n 1, 1) := by decide +kernel
theorem dL_isParted_10 : decode cL_isParted 10 = .ok (.iload_n 2, 1) := by decide +kernel
theorem dL_isParted_11 : decode cL_isParted 11 = .ok (.iconst 1, 1) := by decide +kernel
theorem dL_isParted_12 : decode cL_isParted 12 = .ok (.invokevirtual 85, 3) := by decide +kernel
theorem dL_isParted_15 : decode cL_isParted 15 = .ok (.istore 4, 2) := by decide +kernel
theorem dL_isParted_17 : decode cL_isParted 17 = .ok (.aload_n 0, 1) := by decide +kernel
theorem dL_isParted_18 : decode cL_isParted 18 = .ok (.iload_n 1, 1) := by decide +kernel
theorem dL_isParted_19 : decode cL_isParted 19 = .ok (.iload_n 2, 1) := by decide +kernel
theorem dL_isParted_20 : decode cL_isParted 20 = .ok (.iconst 3, 1) := by decide +kernel
theorem dL_isParted_21 : decode cL_isParted 21 = .ok (.invokevirtual 85, 3) := by decide +kernel
theorem dL_isParted_24 : decode cL_isParted 24 = .ok (.istore 5, 2) := by decide +kernel
theorem dL_isParted_26 : decode cL_isParted 26 = .ok (.aload_n 0, 1) := by decide +kernel
theorem dL_isParted_27 : decode cL_isParted 27 = .ok (.iload_n 1, 1) := by decide +kernel
theorem dL_isParted_28 : decode cL_isParted 28 = .ok (.iload_n 2, 1) := by decide +kernel
theorem dL_isParted_29 : decode cL_isParted 29 = .ok (.iconst 4, 1) := by decide +kernel
theorem dL_isParted_30 : decode cL_isParted 30 = .ok (.invokevirtual 85, 3) := by decide +kernel
theorem dL_isParted_33 : decode cL_isParted 33 = .ok (.istore 6, 2) := by decide +kernel
theorem dL_isParted_35 : decode cL_isParted 35 = .ok (.aload_n 0, 1) := by decide +kernel
theorem dL_isParted_36 : decode cL_isParted 36 = .ok (.iload_n 1, 1) := by decide +kernel
theorem dL_isParted_37 : decode cL_isParted 37 = .ok (.iload_n 2, 1) := by decide +kernel
theorem dL_isParted_38 : decode cL_isParted 38 = .ok (.iconst 5, 1) := by decide +kernel
theorem dL_isParted_39 : decode cL_isParted 39 = .ok (.invokevirtual 85, 3) := by decide +kernel
theorem dL_isParted_42 : decode cL_isParted 42 = .ok (.istore 7, 2) := by decide +kernel
theorem dL_isParted_44 : decode cL_isParted 44 = .ok (.aload_n 0, 1) := by decide +kernel
theorem dL_isParted_45 : decode cL_isParted 45 = .ok (.iload_n 1, 1) := by decide +kernel
theorem dL_isParted_46 : decode cL_isParted 46 = .ok (.iconst 5, 1) := by decide +kernel
theorem dL_isParted_47 : decode cL_isParted 47 = .ok (.invokevirtual 45, 3) := by decide +kernel
theorem dL_isParted_50 : decode cL_isParted 50 = .ok (.iload_n 2, 1) := by decide +kernel
theorem dL_isParted_51 : decode cL_isParted 51 = .ok (.ishr, 1) := by decide +kernel
theorem dL_isParted_52 : decode cL_isParted 52 = .ok (.iconst 1, 1) := by decide +kernel
theorem dL_isParted_53 : decode cL_isParted 53 = .ok (.iand, 1) := by decide +kernel
theorem dL_isParted_54 : decode cL_isParted 54 = .ok (.iconst 1, 1) := by decide +kernel
theorem dL_isParted_55 : decode cL_isParted 55 = .ok (.if_icmp .ne 7, 3) := by decide +kernel
theorem dL_isParted_58 : decode cL_isParted 58 = .ok (.iconst 1, 1) := by decide +kernel
theorem dL_isParted_59 : decode cL_isParted 59 = .ok (.goto 4, 3) := by decide +kernel
theorem dL_isParted_62 : decode cL_isParted 62 = .ok (.iconst 0, 1) := by decide +kernel
theorem dL_isParted_63 : decode cL_isParted 63 = .ok (.istore 8, 2) := by decide +kernel
theorem dL_isParted_65 : decode cL_isParted 65 = .ok (.iload 8, 2) := by decide +kernel
theorem dL_isParted_67 : decode cL_isParted 67 = .ok (.iload 5, 2) := by decide +kernel
theorem dL_isParted_69 : decode cL_isParted 69 = .ok (.iconst (-1), 1) := by decide +kernel
theorem dL_isParted_70 : decode cL_isParted 70 = .ok (.if_icmp .ne 7, 3) := by decide +kernel
theorem dL_isParted_73 : decode cL_isParted 73 = .ok (.iconst 1, 1) := by decide +kernel
theorem dL_isParted_74 : decode cL_isParted 74 = .ok (.goto 4, 3) := by decide +kernel
theorem dL_isParted_77 : decode cL_isParted 77 = .ok (.iconst 0, 1) := by decide +kernel
theorem dL_isParted_78 : decode cL_isParted 78 = .ok (.if_icmp .ne 38, 3) := by decide +kernel
theorem dL_isParted_81 : decode cL_isParted 81 = .ok (.iload_n 3, 1) := by decide +kernel
theorem dL_isParted_82 : decode cL_isParted 82 = .ok (.iload 4, 2) := by decide +kernel
theorem dL_isParted_84 : decode cL_isParted 84 = .ok (.if_icmp .gt 32, 3) := by decide +kernel
theorem dL_isParted_87 : decode cL_isParted 87 = .ok (.iload 4, 2) := by decide +kernel
theorem dL_isParted_89 : decode cL_isParted 89 = .ok (.iload 7, 2) := by decide +kernel
theorem dL_isParted_91 : decode cL_isParted 91 = .ok (.invokestatic 88, 3) := by decide +kernel
theorem dL_isParted_94 : decode cL_isParted 94 = .ok (.if_icmp .ne 22, 3) := by decide +kernel
theorem dL_isParted_97 : decode cL_isParted 97 = .ok (.iload 6, 2) := by decide +kernel
theorem dL_isParted_99 : decode cL_isParted 99 = .ok (.iload_n 1, 1) := by decide +kernel
theorem dL_isParted_100 : decode cL_isParted 100 = .ok (.ishr, 1) := by decide +kernel
theorem dL_isParted_101 : decode cL_isParted 101 = .ok (.iconst 1, 1) := by decide +kernel
theorem dL_isParted_102 : decode cL_isParted 102 = .ok (.iand, 1) := by decide +kernel
theorem dL_isParted_103 : decode cL_isParted 103 = .ok (.ifCond .eq 13, 3) := by decide +kernel
theorem dL_isParted_106 : decode cL_isParted 106 = .ok (.iload 6, 2) := by decide +kernel
theorem dL_isParted_108 : decode cL_isParted 108 = .ok (.iload_n 2, 1) := by decide +kernel
theorem dL_isParted_109 : decode cL_isParted 109 = .ok (.ishr, 1) := by decide +kernel
theorem dL_isParted_110 : decode cL_isParted 110 = .ok (.iconst 1, 1) := by decide +kernel
theorem dL_isParted_111 : decode cL_isParted 111 = .ok (.iand, 1) := by decide +kernel
theorem dL_isParted_112 : decode cL_isParted 112 = .ok (.iconst 1, 1) := by decide +kernel
theorem dL_isParted_113 : decode cL_isParted 113 = .ok (.if_icmp .ne 5, 3) := by decide +kernel
theorem dL_isParted_116 : decode cL_isParted 116 = .ok (.iconst 0, 1) := by decide +kernel
theorem dL_isParted_117 : decode cL_isParted 117 = .ok (.ireturn, 1) := by decide +kernel
theorem dL_isParted_118 : decode cL_isParted 118 = .ok (.aload_n 0, 1) := by decide +kernel
theorem dL_isParted_119 : decode cL_isParted 119 = .ok (.iconst 0, 1) := by decide +kernel
theorem dL_isParted_120 : decode cL_isParted 120 = .ok (.iload 7, 2) := by decide +kernel
