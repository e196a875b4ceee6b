/-! own rows: the law and its helpers: instructions, words (2) -/
theorem dL_isDone_6 : decode cL_isDone 6 = .ok (.invokevirtual 37, 3) := by decide +kernel
theorem dL_isDone_9 : decode cL_isDone 9 = .ok (.invokestatic 51, 3) := by decide +kernel
theorem dL_isDone_12 : decode cL_isDone 12 = .ok (.invokestatic 18, 3) := by decide +kernel
theorem dL_isDone_15 : decode cL_isDone 15 = .ok (.istore_n 2, 1) := by decide +kernel
theorem dL_isDone_16 : decode cL_isDone 16 = .ok (.iload_n 1, 1) := by decide +kernel
theorem dL_isDone_17 : decode cL_isDone 17 = .ok (.bipush 8, 2) := by decide +kernel
theorem dL_isDone_19 : decode cL_isDone 19 = .ok (.invokestatic 18, 3) := by decide +kernel
theorem dL_isDone_22 : decode cL_isDone 22 = .ok (.tableswitch 149 0 5 #[38, 46, 109, 109, 119, 129], 38) := by decide +kernel
theorem dL_isDone_60 : decode cL_isDone 60 = .ok (.aload_n 0, 1) := by decide +kernel
theorem dL_isDone_61 : decode cL_isDone 61 = .ok (.invokevirtual 22, 3) := by decide +kernel
theorem dL_isDone_64 : decode cL_isDone 64 = .ok (.pop, 1) := by decide +kernel
theorem dL_isDone_65 : decode cL_isDone 65 = .ok (.goto 113, 3) := by decide +kernel
theorem dL_isDone_68 : decode cL_isDone 68 = .ok (.aload_n 0, 1) := by decide +kernel
theorem dL_isDone_69 : decode cL_isDone 69 = .ok (.iload_n 1, 1) := by decide +kernel
theorem dL_isDone_70 : decode cL_isDone 70 = .ok (.iconst 3, 1) := by decide +kernel
theorem dL_isDone_71 : decode cL_isDone 71 = .ok (.ishr, 1) := by decide +kernel
theorem dL_isDone_72 : decode cL_isDone 72 = .ok (.aload_n 0, 1) := by decide +kernel
theorem dL_isDone_73 : decode cL_isDone 73 = .ok (.iconst 0, 1) := by decide +kernel
theorem dL_isDone_74 : decode cL_isDone 74 = .ok (.invokevirtual 37, 3) := by decide +kernel
theorem dL_isDone_77 : decode cL_isDone 77 = .ok (.invokestatic 18, 3) := by decide +kernel
theorem dL_isDone_80 : decode cL_isDone 80 = .ok (.iload_n 1, 1) := by decide +kernel
theorem dL_isDone_81 : decode cL_isDone 81 = .ok (.iconst 3, 1) := by decide +kernel
theorem dL_isDone_82 : decode cL_isDone 82 = .ok (.ishr, 1) := by decide +kernel
theorem dL_isDone_83 : decode cL_isDone 83 = .ok (.aload_n 0, 1) := by decide +kernel
theorem dL_isDone_84 : decode cL_isDone 84 = .ok (.iconst 0, 1) := by decide +kernel
theorem dL_isDone_85 : decode cL_isDone 85 = .ok (.invokevirtual 37, 3) := by decide +kernel
theorem dL_isDone_88 : decode cL_isDone 88 = .ok (.invokestatic 18, 3) := by decide +kernel
theorem dL_isDone_91 : decode cL_isDone 91 = .ok (.iconst 1, 1) := by decide +kernel
theorem dL_isDone_92 : decode cL_isDone 92 = .ok (.iadd, 1) := by decide +kernel
theorem dL_isDone_93 : decode cL_isDone 93 = .ok (.iload_n 1, 1) := by decide +kernel
theorem dL_isDone_94 : decode cL_isDone 94 = .ok (.bipush 6, 2) := by decide +kernel
theorem dL_isDone_96 : decode cL_isDone 96 = .ok (.ishr, 1) := by decide +kernel
theorem dL_isDone_97 : decode cL_isDone 97 = .ok (.aload_n 0, 1) := by decide +kernel
theorem dL_isDone_98 : decode cL_isDone 98 = .ok (.iconst 0, 1) := by decide +kernel
theorem dL_isDone_99 : decode cL_isDone 99 = .ok (.invokevirtual 37, 3) := by decide +kernel
theorem dL_isDone_102 : decode cL_isDone 102 = .ok (.iconst 1, 1) := by decide +kernel
theorem dL_isDone_103 : decode cL_isDone 103 = .ok (.isub, 1) := by decide +kernel
theorem dL_isDone_104 : decode cL_isDone 104 = .ok (.invokestatic 18, 3) := by decide +kernel
theorem dL_isDone_107 : decode cL_isDone 107 = .ok (.iadd, 1) := by decide +kernel
theorem dL_isDone_108 : decode cL_isDone 108 = .ok (.aload_n 0, 1) := by decide +kernel
theorem dL_isDone_109 : decode cL_isDone 109 = .ok (.iconst 0, 1) := by decide +kernel
theorem dL_isDone_110 : decode cL_isDone 110 = .ok (.invokevirtual 37, 3) := by decide +kernel
theorem dL_isDone_113 : decode cL_isDone 113 = .ok (.irem, 1) := by decide +kernel
theorem dL_isDone_114 : decode cL_isDone 114 = .ok (.iconst 1, 1) := by decide +kernel
theorem dL_isDone_115 : decode cL_isDone 115 = .ok (.iload_n 1, 1) := by decide +kernel
theorem dL_isDone_116 : decode cL_isDone 116 = .ok (.iconst 5, 1) := by decide +kernel
theorem dL_isDone_117 : decode cL_isDone 117 = .ok (.ishr, 1) := by decide +kernel
theorem dL_isDone_118 : decode cL_isDone 118 = .ok (.bipush 20, 2) := by decide +kernel
theorem dL_isDone_120 : decode cL_isDone 120 = .ok (.invokestatic 18, 3) := by decide +kernel
theorem dL_isDone_123 : decode cL_isDone 123 = .ok (.iadd, 1) := by decide +kernel
theorem dL_isDone_124 : decode cL_isDone 124 = .ok (.invokevirtual 41, 3) := by decide +kernel
theorem dL_isDone_127 : decode cL_isDone 127 = .ok (.pop, 1) := by decide +kernel
theorem dL_isDone_128 : decode cL_isDone 128 = .ok (.goto 50, 3) := by decide +kernel
theorem dL_isDone_131 : decode cL_isDone 131 = .ok (.aload_n 0, 1) := by decide +kernel
theorem dL_isDone_132 : decode cL_isDone 132 = .ok (.iload_n 2, 1) := by decide +kernel
theorem dL_isDone_133 : decode cL_isDone 133 = .ok (.iconst 1, 1) := by decide +kernel
theorem dL_isDone_134 : decode cL_isDone 134 = .ok (.invokevirtual 30, 3) := by decide +kernel
theorem dL_isDone_137 : decode cL_isDone 137 = .ok (.pop, 1) := by decide +kernel
theorem dL_isDone_138 : decode cL_isDone 138 = .ok (.goto 40, 3) := by decide +kernel
theorem dL_isDone_141 : decode cL_isDone 141 = .ok (.aload_n 0, 1) := by decide +kernel
theorem dL_isDone_142 : decode cL_isDone 142 = .ok (.iload_n 2, 1) := by decide +kernel
theorem dL_isDone_143 : decode cL_isDone 143 = .ok (.iconst 0, 1) := by decide +kernel
theorem dL_isDone_144 : decode cL_isDone 144 = .ok (.invokevirtual 30, 3) := by decide +kernel
theorem dL_isDone_147 : decode cL_isDone 147 = .ok (.pop, 1) := by decide +kernel
theorem dL_isDone_148 : decode cL_isDone 148 = .ok (.goto 30, 3) := by decide +kernel
theorem dL_isDone_151 : decode cL_isDone 151 = .ok (.aload_n 0, 1) := by decide +kernel
theorem dL_isDone_152 : decode cL_isDone 152 = .ok (.iload_n 2, 1) := by decide +kernel
theorem dL_isDone_153 : decode cL_isDone 153 = .ok (.iconst 1, 1) := by decide +kernel
theorem dL_isDone_154 : decode cL_isDone 154 = .ok (.iload_n 1, 1) := by decide +kernel
theorem dL_isDone_155 : decode cL_isDone 155 = .ok (.bipush 7, 2) := by decide +kernel
theorem dL_isDone_157 : decode cL_isDone 157 = .ok (.ishr, 1) := by decide +kernel
theorem dL_isDone_158 : decode cL_isDone 158 = .ok (.bipush 20, 2) := by decide +kernel
theorem dL_isDone_160 : decode cL_isDone 160 = .ok (.invokestatic 18, 3) := by decide +kernel
theorem dL_isDone_163 : decode cL_isDone 163 = .ok (.iadd, 1) := by decide +kernel
theorem dL_isDone_164 : decode cL_isDone 164 = .ok (.invokevirtual 56, 3) := by decide +kernel
theorem dL_isDone_167 : decode cL_isDone 167 = .ok (.pop, 1) := by decide +kernel
theorem dL_isDone_168 : decode cL_isDone 168 = .ok (.goto 10, 3) := by decide +kernel
theorem dL_isDone_171 : decode cL_isDone 171 = .ok (.aload_n 0, 1) := by decide +kernel
theorem dL_isDone_172 : decode cL_isDone 172 = .ok (.iload_n 1, 1) := by decide +kernel
theorem dL_isDone_173 : decode cL_isDone 173 = .ok (.iconst 3, 1) := by decide +kernel
theorem dL_isDone_174 : decode cL_isDone 174 = .ok (.ishr, 1) := by decide +kernel
theorem dL_isDone_175 : decode cL_isDone 175 = .ok (.invokestatic 34, 3) := by decide +kernel
theorem dL_isDone_178 : decode cL_isDone 178 = .ok (.iconst 1, 1) := by decide +kernel
theorem dL_isDone_179 : decode cL_isDone 179 = .ok (.ireturn, 1) := by decide +kernel
theorem dL_isDone_180 : decode cL_isDone 180 = .ok (.astore_n 3, 1) := by decide +kernel
theorem dL_isDone_181 : decode cL_isDone 181 = .ok (.iconst 0, 1) := by decide +kernel
theorem dL_isDone_182 : decode cL_isDone 182 = .ok (.ireturn, 1) := by decide +kernel
theorem dL_isDone_183 : decode cL_isDone 183 = .ok (.astore_n 3, 1) := by decide +kernel
theorem dL_isDone_184 : decode cL_isDone 184 = .ok (.aload_n 0, 1) := by decide +kernel
theorem dL_isDone_185 : decode cL_isDone 185 = .ok (.iconst 1, 1) := by decide +kernel
