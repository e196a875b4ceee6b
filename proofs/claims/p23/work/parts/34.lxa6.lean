/-! own rows: the law and its helpers: instructions, words (6) -/
theorem dL_isParted_283 : decode cL_isParted 283 = .ok (.iconst 0, 1) := by decide +kernel
theorem dL_isParted_284 : decode cL_isParted 284 = .ok (.ireturn, 1) := by decide +kernel
theorem dL_areOff_0 : decode cL_areOff 0 = .ok (.iconst 1, 1) := by decide +kernel
theorem dL_areOff_1 : decode cL_areOff 1 = .ok (.iload_n 1, 1) := by decide +kernel
theorem dL_areOff_2 : decode cL_areOff 2 = .ok (.ishl, 1) := by decide +kernel
theorem dL_areOff_3 : decode cL_areOff 3 = .ok (.istore 4, 2) := by decide +kernel
theorem dL_areOff_5 : decode cL_areOff 5 = .ok (.iconst 0, 1) := by decide +kernel
theorem dL_areOff_6 : decode cL_areOff 6 = .ok (.istore 5, 2) := by decide +kernel
theorem dL_areOff_8 : decode cL_areOff 8 = .ok (.iload 5, 2) := by decide +kernel
theorem dL_areOff_10 : decode cL_areOff 10 = .ok (.aload_n 0, 1) := by decide +kernel
theorem dL_areOff_11 : decode cL_areOff 11 = .ok (.iconst 0, 1) := by decide +kernel
theorem dL_areOff_12 : decode cL_areOff 12 = .ok (.invokevirtual 37, 3) := by decide +kernel
theorem dL_areOff_15 : decode cL_areOff 15 = .ok (.if_icmp .ge 55, 3) := by decide +kernel
theorem dL_areOff_18 : decode cL_areOff 18 = .ok (.iconst 0, 1) := by decide +kernel
theorem dL_areOff_19 : decode cL_areOff 19 = .ok (.istore 6, 2) := by decide +kernel
theorem dL_areOff_21 : decode cL_areOff 21 = .ok (.iload 6, 2) := by decide +kernel
theorem dL_areOff_23 : decode cL_areOff 23 = .ok (.aload_n 0, 1) := by decide +kernel
theorem dL_areOff_24 : decode cL_areOff 24 = .ok (.iconst 0, 1) := by decide +kernel
theorem dL_areOff_25 : decode cL_areOff 25 = .ok (.invokevirtual 37, 3) := by decide +kernel
theorem dL_areOff_28 : decode cL_areOff 28 = .ok (.if_icmp .ge 36, 3) := by decide +kernel
theorem dL_areOff_31 : decode cL_areOff 31 = .ok (.iload 4, 2) := by decide +kernel
theorem dL_areOff_33 : decode cL_areOff 33 = .ok (.iload 6, 2) := by decide +kernel
theorem dL_areOff_35 : decode cL_areOff 35 = .ok (.ishr, 1) := by decide +kernel
theorem dL_areOff_36 : decode cL_areOff 36 = .ok (.iconst 1, 1) := by decide +kernel
theorem dL_areOff_37 : decode cL_areOff 37 = .ok (.iand, 1) := by decide +kernel
theorem dL_areOff_38 : decode cL_areOff 38 = .ok (.iconst 1, 1) := by decide +kernel
theorem dL_areOff_39 : decode cL_areOff 39 = .ok (.if_icmp .ne 19, 3) := by decide +kernel
theorem dL_areOff_42 : decode cL_areOff 42 = .ok (.iload 4, 2) := by decide +kernel
theorem dL_areOff_44 : decode cL_areOff 44 = .ok (.aload_n 0, 1) := by decide +kernel
theorem dL_areOff_45 : decode cL_areOff 45 = .ok (.iload 6, 2) := by decide +kernel
theorem dL_areOff_47 : decode cL_areOff 47 = .ok (.iconst 5, 1) := by decide +kernel
theorem dL_areOff_48 : decode cL_areOff 48 = .ok (.invokevirtual 45, 3) := by decide +kernel
theorem dL_areOff_51 : decode cL_areOff 51 = .ok (.iload_n 3, 1) := by decide +kernel
theorem dL_areOff_52 : decode cL_areOff 52 = .ok (.iconst (-1), 1) := by decide +kernel
theorem dL_areOff_53 : decode cL_areOff 53 = .ok (.ixor, 1) := by decide +kernel
theorem dL_areOff_54 : decode cL_areOff 54 = .ok (.iand, 1) := by decide +kernel
theorem dL_areOff_55 : decode cL_areOff 55 = .ok (.ior, 1) := by decide +kernel
theorem dL_areOff_56 : decode cL_areOff 56 = .ok (.istore 4, 2) := by decide +kernel
theorem dL_areOff_58 : decode cL_areOff 58 = .ok (.iinc 6 1, 3) := by decide +kernel
theorem dL_areOff_61 : decode cL_areOff 61 = .ok (.goto (-40), 3) := by decide +kernel
theorem dL_areOff_64 : decode cL_areOff 64 = .ok (.iinc 5 1, 3) := by decide +kernel
theorem dL_areOff_67 : decode cL_areOff 67 = .ok (.goto (-59), 3) := by decide +kernel
theorem dL_areOff_70 : decode cL_areOff 70 = .ok (.iload 4, 2) := by decide +kernel
theorem dL_areOff_72 : decode cL_areOff 72 = .ok (.iload_n 2, 1) := by decide +kernel
theorem dL_areOff_73 : decode cL_areOff 73 = .ok (.ishr, 1) := by decide +kernel
theorem dL_areOff_74 : decode cL_areOff 74 = .ok (.iconst 1, 1) := by decide +kernel
theorem dL_areOff_75 : decode cL_areOff 75 = .ok (.iand, 1) := by decide +kernel
theorem dL_areOff_76 : decode cL_areOff 76 = .ok (.ifCond .ne 7, 3) := by decide +kernel
theorem dL_areOff_79 : decode cL_areOff 79 = .ok (.iconst 1, 1) := by decide +kernel
theorem dL_areOff_80 : decode cL_areOff 80 = .ok (.goto 4, 3) := by decide +kernel
theorem dL_areOff_83 : decode cL_areOff 83 = .ok (.iconst 0, 1) := by decide +kernel
theorem dL_areOff_84 : decode cL_areOff 84 = .ok (.ireturn, 1) := by decide +kernel
