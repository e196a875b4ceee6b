/-! own rows: the law and its helpers: instructions, words (5) -/
theorem dL_isParted_122 : decode cL_isParted 122 = .ok (.invokevirtual 93, 3) := by decide +kernel
theorem dL_isParted_125 : decode cL_isParted 125 = .ok (.istore 9, 2) := by decide +kernel
theorem dL_isParted_127 : decode cL_isParted 127 = .ok (.iload 9, 2) := by decide +kernel
theorem dL_isParted_129 : decode cL_isParted 129 = .ok (.aload_n 0, 1) := by decide +kernel
theorem dL_isParted_130 : decode cL_isParted 130 = .ok (.iconst 3, 1) := by decide +kernel
theorem dL_isParted_131 : decode cL_isParted 131 = .ok (.invokevirtual 37, 3) := by decide +kernel
theorem dL_isParted_134 : decode cL_isParted 134 = .ok (.iload 4, 2) := by decide +kernel
theorem dL_isParted_136 : decode cL_isParted 136 = .ok (.ifCond .le 7, 3) := by decide +kernel
theorem dL_isParted_139 : decode cL_isParted 139 = .ok (.iconst 1, 1) := by decide +kernel
theorem dL_isParted_140 : decode cL_isParted 140 = .ok (.goto 4, 3) := by decide +kernel
theorem dL_isParted_143 : decode cL_isParted 143 = .ok (.iconst 0, 1) := by decide +kernel
theorem dL_isParted_144 : decode cL_isParted 144 = .ok (.iadd, 1) := by decide +kernel
theorem dL_isParted_145 : decode cL_isParted 145 = .ok (.if_icmp .lt 25, 3) := by decide +kernel
theorem dL_isParted_148 : decode cL_isParted 148 = .ok (.iload 4, 2) := by decide +kernel
theorem dL_isParted_150 : decode cL_isParted 150 = .ok (.aload_n 0, 1) := by decide +kernel
theorem dL_isParted_151 : decode cL_isParted 151 = .ok (.iload_n 1, 1) := by decide +kernel
theorem dL_isParted_152 : decode cL_isParted 152 = .ok (.iconst 1, 1) := by decide +kernel
theorem dL_isParted_153 : decode cL_isParted 153 = .ok (.invokevirtual 45, 3) := by decide +kernel
theorem dL_isParted_156 : decode cL_isParted 156 = .ok (.if_icmp .gt 14, 3) := by decide +kernel
theorem dL_isParted_159 : decode cL_isParted 159 = .ok (.iload 4, 2) := by decide +kernel
theorem dL_isParted_161 : decode cL_isParted 161 = .ok (.aload_n 0, 1) := by decide +kernel
theorem dL_isParted_162 : decode cL_isParted 162 = .ok (.iload_n 2, 1) := by decide +kernel
theorem dL_isParted_163 : decode cL_isParted 163 = .ok (.iconst 1, 1) := by decide +kernel
theorem dL_isParted_164 : decode cL_isParted 164 = .ok (.invokevirtual 45, 3) := by decide +kernel
theorem dL_isParted_167 : decode cL_isParted 167 = .ok (.if_icmp .le 5, 3) := by decide +kernel
theorem dL_isParted_170 : decode cL_isParted 170 = .ok (.iconst 0, 1) := by decide +kernel
theorem dL_isParted_171 : decode cL_isParted 171 = .ok (.ireturn, 1) := by decide +kernel
theorem dL_isParted_172 : decode cL_isParted 172 = .ok (.iload 8, 2) := by decide +kernel
theorem dL_isParted_174 : decode cL_isParted 174 = .ok (.ifCond .eq 24, 3) := by decide +kernel
theorem dL_isParted_177 : decode cL_isParted 177 = .ok (.aload_n 0, 1) := by decide +kernel
theorem dL_isParted_178 : decode cL_isParted 178 = .ok (.iload_n 1, 1) := by decide +kernel
theorem dL_isParted_179 : decode cL_isParted 179 = .ok (.iload_n 2, 1) := by decide +kernel
theorem dL_isParted_180 : decode cL_isParted 180 = .ok (.iconst 2, 1) := by decide +kernel
theorem dL_isParted_181 : decode cL_isParted 181 = .ok (.invokevirtual 85, 3) := by decide +kernel
theorem dL_isParted_184 : decode cL_isParted 184 = .ok (.iconst 1, 1) := by decide +kernel
theorem dL_isParted_185 : decode cL_isParted 185 = .ok (.if_icmp .ne 11, 3) := by decide +kernel
theorem dL_isParted_188 : decode cL_isParted 188 = .ok (.iload_n 3, 1) := by decide +kernel
theorem dL_isParted_189 : decode cL_isParted 189 = .ok (.ifCond .le 7, 3) := by decide +kernel
theorem dL_isParted_192 : decode cL_isParted 192 = .ok (.iconst 1, 1) := by decide +kernel
theorem dL_isParted_193 : decode cL_isParted 193 = .ok (.goto 4, 3) := by decide +kernel
theorem dL_isParted_196 : decode cL_isParted 196 = .ok (.iconst 0, 1) := by decide +kernel
theorem dL_isParted_197 : decode cL_isParted 197 = .ok (.ireturn, 1) := by decide +kernel
theorem dL_isParted_198 : decode cL_isParted 198 = .ok (.aload_n 0, 1) := by decide +kernel
theorem dL_isParted_199 : decode cL_isParted 199 = .ok (.iload 5, 2) := by decide +kernel
theorem dL_isParted_201 : decode cL_isParted 201 = .ok (.iconst 0, 1) := by decide +kernel
theorem dL_isParted_202 : decode cL_isParted 202 = .ok (.invokevirtual 93, 3) := by decide +kernel
theorem dL_isParted_205 : decode cL_isParted 205 = .ok (.istore 10, 2) := by decide +kernel
theorem dL_isParted_207 : decode cL_isParted 207 = .ok (.iload_n 3, 1) := by decide +kernel
theorem dL_isParted_208 : decode cL_isParted 208 = .ok (.iload 5, 2) := by decide +kernel
theorem dL_isParted_210 : decode cL_isParted 210 = .ok (.invokestatic 88, 3) := by decide +kernel
theorem dL_isParted_213 : decode cL_isParted 213 = .ok (.if_icmp .ne 70, 3) := by decide +kernel
theorem dL_isParted_216 : decode cL_isParted 216 = .ok (.iload 5, 2) := by decide +kernel
theorem dL_isParted_218 : decode cL_isParted 218 = .ok (.iload_n 1, 1) := by decide +kernel
theorem dL_isParted_219 : decode cL_isParted 219 = .ok (.ishr, 1) := by decide +kernel
theorem dL_isParted_220 : decode cL_isParted 220 = .ok (.iconst 1, 1) := by decide +kernel
theorem dL_isParted_221 : decode cL_isParted 221 = .ok (.iand, 1) := by decide +kernel
theorem dL_isParted_222 : decode cL_isParted 222 = .ok (.ifCond .ne 61, 3) := by decide +kernel
theorem dL_isParted_225 : decode cL_isParted 225 = .ok (.iload 5, 2) := by decide +kernel
theorem dL_isParted_227 : decode cL_isParted 227 = .ok (.iload_n 2, 1) := by decide +kernel
theorem dL_isParted_228 : decode cL_isParted 228 = .ok (.ishr, 1) := by decide +kernel
theorem dL_isParted_229 : decode cL_isParted 229 = .ok (.iconst 1, 1) := by decide +kernel
theorem dL_isParted_230 : decode cL_isParted 230 = .ok (.iand, 1) := by decide +kernel
theorem dL_isParted_231 : decode cL_isParted 231 = .ok (.ifCond .ne 52, 3) := by decide +kernel
theorem dL_isParted_234 : decode cL_isParted 234 = .ok (.iload_n 3, 1) := by decide +kernel
theorem dL_isParted_235 : decode cL_isParted 235 = .ok (.ifCond .le 7, 3) := by decide +kernel
theorem dL_isParted_238 : decode cL_isParted 238 = .ok (.iconst 1, 1) := by decide +kernel
theorem dL_isParted_239 : decode cL_isParted 239 = .ok (.goto 4, 3) := by decide +kernel
theorem dL_isParted_242 : decode cL_isParted 242 = .ok (.iconst 0, 1) := by decide +kernel
theorem dL_isParted_243 : decode cL_isParted 243 = .ok (.aload_n 0, 1) := by decide +kernel
theorem dL_isParted_244 : decode cL_isParted 244 = .ok (.iload_n 1, 1) := by decide +kernel
theorem dL_isParted_245 : decode cL_isParted 245 = .ok (.iload_n 2, 1) := by decide +kernel
theorem dL_isParted_246 : decode cL_isParted 246 = .ok (.iconst 2, 1) := by decide +kernel
theorem dL_isParted_247 : decode cL_isParted 247 = .ok (.invokevirtual 85, 3) := by decide +kernel
theorem dL_isParted_250 : decode cL_isParted 250 = .ok (.iconst 1, 1) := by decide +kernel
theorem dL_isParted_251 : decode cL_isParted 251 = .ok (.if_icmp .le 7, 3) := by decide +kernel
theorem dL_isParted_254 : decode cL_isParted 254 = .ok (.iconst 1, 1) := by decide +kernel
theorem dL_isParted_255 : decode cL_isParted 255 = .ok (.goto 4, 3) := by decide +kernel
theorem dL_isParted_258 : decode cL_isParted 258 = .ok (.iconst 0, 1) := by decide +kernel
theorem dL_isParted_259 : decode cL_isParted 259 = .ok (.if_icmp .ne 24, 3) := by decide +kernel
theorem dL_isParted_262 : decode cL_isParted 262 = .ok (.iload 10, 2) := by decide +kernel
theorem dL_isParted_264 : decode cL_isParted 264 = .ok (.iconst 2, 1) := by decide +kernel
theorem dL_isParted_265 : decode cL_isParted 265 = .ok (.if_icmp .lt 18, 3) := by decide +kernel
theorem dL_isParted_268 : decode cL_isParted 268 = .ok (.aload_n 0, 1) := by decide +kernel
theorem dL_isParted_269 : decode cL_isParted 269 = .ok (.iload_n 1, 1) := by decide +kernel
theorem dL_isParted_270 : decode cL_isParted 270 = .ok (.iload_n 2, 1) := by decide +kernel
theorem dL_isParted_271 : decode cL_isParted 271 = .ok (.iload 5, 2) := by decide +kernel
theorem dL_isParted_273 : decode cL_isParted 273 = .ok (.invokestatic 96, 3) := by decide +kernel
theorem dL_isParted_276 : decode cL_isParted 276 = .ok (.ifCond .eq 7, 3) := by decide +kernel
theorem dL_isParted_279 : decode cL_isParted 279 = .ok (.iconst 1, 1) := by decide +kernel
theorem dL_isParted_280 : decode cL_isParted 280 = .ok (.goto 4, 3) := by decide +kernel
