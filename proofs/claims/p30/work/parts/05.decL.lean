theorem bdL_law_0 : decode cL_law 0 = .ok (.new 7, 3) ∧ decode cL_law 3 = .ok (.dup, 1) ∧ decode cL_law 4 = .ok (.invokespecial 9, 3) ∧ decode cL_law 7 = .ok (.astore_n 1, 1) ∧ decode cL_law 8 = .ok (.new 10, 3) ∧ decode cL_law 11 = .ok (.dup, 1) ∧ decode cL_law 12 = .ok (.invokespecial 12, 3) ∧ decode cL_law 15 = .ok (.astore_n 2, 1) ∧ decode cL_law 16 = .ok (.iconst 0, 1) ∧ decode cL_law 17 = .ok (.istore_n 3, 1) ∧ decode cL_law 18 = .ok (.iload_n 3, 1) ∧ decode cL_law 19 = .ok (.aload_n 0, 1) ∧ decode cL_law 20 = .ok (.arraylength, 1) ∧ decode cL_law 21 = .ok (.iconst 5, 1) ∧ decode cL_law 22 = .ok (.isub, 1) ∧ decode cL_law 23 = .ok (.if_icmp .gt 974, 3) := by decide +kernel
theorem dL_law_0 : decode cL_law 0 = .ok (.new 7, 3) := bdL_law_0.1
theorem dL_law_3 : decode cL_law 3 = .ok (.dup, 1) := bdL_law_0.2.1
theorem dL_law_4 : decode cL_law 4 = .ok (.invokespecial 9, 3) := bdL_law_0.2.2.1
theorem dL_law_7 : decode cL_law 7 = .ok (.astore_n 1, 1) := bdL_law_0.2.2.2.1
theorem dL_law_8 : decode cL_law 8 = .ok (.new 10, 3) := bdL_law_0.2.2.2.2.1
theorem dL_law_11 : decode cL_law 11 = .ok (.dup, 1) := bdL_law_0.2.2.2.2.2.1
theorem dL_law_12 : decode cL_law 12 = .ok (.invokespecial 12, 3) := bdL_law_0.2.2.2.2.2.2.1
theorem dL_law_15 : decode cL_law 15 = .ok (.astore_n 2, 1) := bdL_law_0.2.2.2.2.2.2.2.1
theorem dL_law_16 : decode cL_law 16 = .ok (.iconst 0, 1) := bdL_law_0.2.2.2.2.2.2.2.2.1
theorem dL_law_17 : decode cL_law 17 = .ok (.istore_n 3, 1) := bdL_law_0.2.2.2.2.2.2.2.2.2.1
theorem dL_law_18 : decode cL_law 18 = .ok (.iload_n 3, 1) := bdL_law_0.2.2.2.2.2.2.2.2.2.2.1
theorem dL_law_19 : decode cL_law 19 = .ok (.aload_n 0, 1) := bdL_law_0.2.2.2.2.2.2.2.2.2.2.2.1
theorem dL_law_20 : decode cL_law 20 = .ok (.arraylength, 1) := bdL_law_0.2.2.2.2.2.2.2.2.2.2.2.2.1
theorem dL_law_21 : decode cL_law 21 = .ok (.iconst 5, 1) := bdL_law_0.2.2.2.2.2.2.2.2.2.2.2.2.2.1
theorem dL_law_22 : decode cL_law 22 = .ok (.isub, 1) := bdL_law_0.2.2.2.2.2.2.2.2.2.2.2.2.2.2.1
theorem dL_law_23 : decode cL_law 23 = .ok (.if_icmp .gt 974, 3) := bdL_law_0.2.2.2.2.2.2.2.2.2.2.2.2.2.2.2
theorem bdL_law_26 : decode cL_law 26 = .ok (.aload_n 0, 1) ∧ decode cL_law 27 = .ok (.iload_n 3, 1) ∧ decode cL_law 28 = .ok (.iaload, 1) ∧ decode cL_law 29 = .ok (.bipush 31, 2) ∧ decode cL_law 31 = .ok (.iand, 1) ∧ decode cL_law 32 = .ok (.tableswitch 959 0 28 #[132, 165, 188, 211, 244, 277, 330, 363, 386, 419, 452, 475, 508, 541, 574, 597, 630, 653, 686, 709, 742, 775, 808, 861, 874, 887, 900, 913, 936], 132) ∧ decode cL_law 164 = .ok (.aload_n 1, 1) ∧ decode cL_law 165 = .ok (.aload_n 0, 1) ∧ decode cL_law 166 = .ok (.iload_n 3, 1) ∧ decode cL_law 167 = .ok (.iconst 1, 1) ∧ decode cL_law 168 = .ok (.iadd, 1) ∧ decode cL_law 169 = .ok (.iaload, 1) ∧ decode cL_law 170 = .ok (.aload_n 0, 1) ∧ decode cL_law 171 = .ok (.iload_n 3, 1) ∧ decode cL_law 172 = .ok (.iconst 2, 1) ∧ decode cL_law 173 = .ok (.iadd, 1) := by decide +kernel
theorem dL_law_26 : decode cL_law 26 = .ok (.aload_n 0, 1) := bdL_law_26.1
theorem dL_law_27 : decode cL_law 27 = .ok (.iload_n 3, 1) := bdL_law_26.2.1
theorem dL_law_28 : decode cL_law 28 = .ok (.iaload, 1) := bdL_law_26.2.2.1
theorem dL_law_29 : decode cL_law 29 = .ok (.bipush 31, 2) := bdL_law_26.2.2.2.1
theorem dL_law_31 : decode cL_law 31 = .ok (.iand, 1) := bdL_law_26.2.2.2.2.1
theorem dL_law_32 : decode cL_law 32 = .ok (.tableswitch 959 0 28 #[132, 165, 188, 211, 244, 277, 330, 363, 386, 419, 452, 475, 508, 541, 574, 597, 630, 653, 686, 709, 742, 775, 808, 861, 874, 887, 900, 913, 936], 132) := bdL_law_26.2.2.2.2.2.1
theorem dL_law_164 : decode cL_law 164 = .ok (.aload_n 1, 1) := bdL_law_26.2.2.2.2.2.2.1
theorem dL_law_165 : decode cL_law 165 = .ok (.aload_n 0, 1) := bdL_law_26.2.2.2.2.2.2.2.1
theorem dL_law_166 : decode cL_law 166 = .ok (.iload_n 3, 1) := bdL_law_26.2.2.2.2.2.2.2.2.1
theorem dL_law_167 : decode cL_law 167 = .ok (.iconst 1, 1) := bdL_law_26.2.2.2.2.2.2.2.2.2.1
theorem dL_law_168 : decode cL_law 168 = .ok (.iadd, 1) := bdL_law_26.2.2.2.2.2.2.2.2.2.2.1
theorem dL_law_169 : decode cL_law 169 = .ok (.iaload, 1) := bdL_law_26.2.2.2.2.2.2.2.2.2.2.2.1
theorem dL_law_170 : decode cL_law 170 = .ok (.aload_n 0, 1) := bdL_law_26.2.2.2.2.2.2.2.2.2.2.2.2.1
theorem dL_law_171 : decode cL_law 171 = .ok (.iload_n 3, 1) := bdL_law_26.2.2.2.2.2.2.2.2.2.2.2.2.2.1
theorem dL_law_172 : decode cL_law 172 = .ok (.iconst 2, 1) := bdL_law_26.2.2.2.2.2.2.2.2.2.2.2.2.2.2.1
theorem dL_law_173 : decode cL_law 173 = .ok (.iadd, 1) := bdL_law_26.2.2.2.2.2.2.2.2.2.2.2.2.2.2.2
theorem bdL_law_174 : decode cL_law 174 = .ok (.iaload, 1) ∧ decode cL_law 175 = .ok (.invokevirtual 13, 3) ∧ decode cL_law 178 = .ok (.pop, 1) ∧ decode cL_law 179 = .ok (.aload_n 2, 1) ∧ decode cL_law 180 = .ok (.aload_n 0, 1) ∧ decode cL_law 181 = .ok (.iload_n 3, 1) ∧ decode cL_law 182 = .ok (.iconst 1, 1) ∧ decode cL_law 183 = .ok (.iadd, 1) ∧ decode cL_law 184 = .ok (.iaload, 1) ∧ decode cL_law 185 = .ok (.aload_n 0, 1) ∧ decode cL_law 186 = .ok (.iload_n 3, 1) ∧ decode cL_law 187 = .ok (.iconst 2, 1) ∧ decode cL_law 188 = .ok (.iadd, 1) ∧ decode cL_law 189 = .ok (.iaload, 1) ∧ decode cL_law 190 = .ok (.invokevirtual 17, 3) ∧ decode cL_law 193 = .ok (.pop, 1) := by decide +kernel
theorem dL_law_174 : decode cL_law 174 = .ok (.iaload, 1) := bdL_law_174.1
theorem dL_law_175 : decode cL_law 175 = .ok (.invokevirtual 13, 3) := bdL_law_174.2.1
theorem dL_law_178 : decode cL_law 178 = .ok (.pop, 1) := bdL_law_174.2.2.1
theorem dL_law_179 : decode cL_law 179 = .ok (.aload_n 2, 1) := bdL_law_174.2.2.2.1
theorem dL_law_180 : decode cL_law 180 = .ok (.aload_n 0, 1) := bdL_law_174.2.2.2.2.1
theorem dL_law_181 : decode cL_law 181 = .ok (.iload_n 3, 1) := bdL_law_174.2.2.2.2.2.1
theorem dL_law_182 : decode cL_law 182 = .ok (.iconst 1, 1) := bdL_law_174.2.2.2.2.2.2.1
theorem dL_law_183 : decode cL_law 183 = .ok (.iadd, 1) := bdL_law_174.2.2.2.2.2.2.2.1
theorem dL_law_184 : decode cL_law 184 = .ok (.iaload, 1) := bdL_law_174.2.2.2.2.2.2.2.2.1
theorem dL_law_185 : decode cL_law 185 = .ok (.aload_n 0, 1) := bdL_law_174.2.2.2.2.2.2.2.2.2.1
theorem dL_law_186 : decode cL_law 186 = .ok (.iload_n 3, 1) := bdL_law_174.2.2.2.2.2.2.2.2.2.2.1
theorem dL_law_187 : decode cL_law 187 = .ok (.iconst 2, 1) := bdL_law_174.2.2.2.2.2.2.2.2.2.2.2.1
theorem dL_law_188 : decode cL_law 188 = .ok (.iadd, 1) := bdL_law_174.2.2.2.2.2.2.2.2.2.2.2.2.1
theorem dL_law_189 : decode cL_law 189 = .ok (.iaload, 1) := bdL_law_174.2.2.2.2.2.2.2.2.2.2.2.2.2.1
theorem dL_law_190 : decode cL_law 190 = .ok (.invokevirtual 17, 3) := bdL_law_174.2.2.2.2.2.2.2.2.2.2.2.2.2.2.1
theorem dL_law_193 : decode cL_law 193 = .ok (.pop, 1) := bdL_law_174.2.2.2.2.2.2.2.2.2.2.2.2.2.2.2
theorem bdL_law_194 : decode cL_law 194 = .ok (.goto 797, 3) ∧ decode cL_law 197 = .ok (.aload_n 1, 1) ∧ decode cL_law 198 = .ok (.aload_n 0, 1) ∧ decode cL_law 199 = .ok (.iload_n 3, 1) ∧ decode cL_law 200 = .ok (.iconst 1, 1) ∧ decode cL_law 201 = .ok (.iadd, 1) ∧ decode cL_law 202 = .ok (.iaload, 1) ∧ decode cL_law 203 = .ok (.invokevirtual 18, 3) ∧ decode cL_law 206 = .ok (.pop, 1) ∧ decode cL_law 207 = .ok (.aload_n 2, 1) ∧ decode cL_law 208 = .ok (.aload_n 0, 1) ∧ decode cL_law 209 = .ok (.iload_n 3, 1) ∧ decode cL_law 210 = .ok (.iconst 1, 1) ∧ decode cL_law 211 = .ok (.iadd, 1) ∧ decode cL_law 212 = .ok (.iaload, 1) ∧ decode cL_law 213 = .ok (.invokevirtual 22, 3) := by decide +kernel
theorem dL_law_194 : decode cL_law 194 = .ok (.goto 797, 3) := bdL_law_194.1
theorem dL_law_197 : decode cL_law 197 = .ok (.aload_n 1, 1) := bdL_law_194.2.1
theorem dL_law_198 : decode cL_law 198 = .ok (.aload_n 0, 1) := bdL_law_194.2.2.1
theorem dL_law_199 : decode cL_law 199 = .ok (.iload_n 3, 1) := bdL_law_194.2.2.2.1
theorem dL_law_200 : decode cL_law 200 = .ok (.iconst 1, 1) := bdL_law_194.2.2.2.2.1
theorem dL_law_201 : decode cL_law 201 = .ok (.iadd, 1) := bdL_law_194.2.2.2.2.2.1
theorem dL_law_202 : decode cL_law 202 = .ok (.iaload, 1) := bdL_law_194.2.2.2.2.2.2.1
theorem dL_law_203 : decode cL_law 203 = .ok (.invokevirtual 18, 3) := bdL_law_194.2.2.2.2.2.2.2.1
theorem dL_law_206 : decode cL_law 206 = .ok (.pop, 1) := bdL_law_194.2.2.2.2.2.2.2.2.1
theorem dL_law_207 : decode cL_law 207 = .ok (.aload_n 2, 1) := bdL_law_194.2.2.2.2.2.2.2.2.2.1
theorem dL_law_208 : decode cL_law 208 = .ok (.aload_n 0, 1) := bdL_law_194.2.2.2.2.2.2.2.2.2.2.1
theorem dL_law_209 : decode cL_law 209 = .ok (.iload_n 3, 1) := bdL_law_194.2.2.2.2.2.2.2.2.2.2.2.1
theorem dL_law_210 : decode cL_law 210 = .ok (.iconst 1, 1) := bdL_law_194.2.2.2.2.2.2.2.2.2.2.2.2.1
theorem dL_law_211 : decode cL_law 211 = .ok (.iadd, 1) := bdL_law_194.2.2.2.2.2.2.2.2.2.2.2.2.2.1
theorem dL_law_212 : decode cL_law 212 = .ok (.iaload, 1) := bdL_law_194.2.2.2.2.2.2.2.2.2.2.2.2.2.2.1
theorem dL_law_213 : decode cL_law 213 = .ok (.invokevirtual 22, 3) := bdL_law_194.2.2.2.2.2.2.2.2.2.2.2.2.2.2.2
theorem bdL_law_216 : decode cL_law 216 = .ok (.pop, 1) ∧ decode cL_law 217 = .ok (.goto 774, 3) ∧ decode cL_law 220 = .ok (.aload_n 1, 1) ∧ decode cL_law 221 = .ok (.aload_n 0, 1) ∧ decode cL_law 222 = .ok (.iload_n 3, 1) ∧ decode cL_law 223 = .ok (.iconst 1, 1) ∧ decode cL_law 224 = .ok (.iadd, 1) ∧ decode cL_law 225 = .ok (.iaload, 1) ∧ decode cL_law 226 = .ok (.invokevirtual 23, 3) ∧ decode cL_law 229 = .ok (.pop, 1) ∧ decode cL_law 230 = .ok (.aload_n 2, 1) ∧ decode cL_law 231 = .ok (.aload_n 0, 1) ∧ decode cL_law 232 = .ok (.iload_n 3, 1) ∧ decode cL_law 233 = .ok (.iconst 1, 1) ∧ decode cL_law 234 = .ok (.iadd, 1) ∧ decode cL_law 235 = .ok (.iaload, 1) := by decide +kernel
theorem dL_law_216 : decode cL_law 216 = .ok (.pop, 1) := bdL_law_216.1
theorem dL_law_217 : decode cL_law 217 = .ok (.goto 774, 3) := bdL_law_216.2.1
theorem dL_law_220 : decode cL_law 220 = .ok (.aload_n 1, 1) := bdL_law_216.2.2.1
theorem dL_law_221 : decode cL_law 221 = .ok (.aload_n 0, 1) := bdL_law_216.2.2.2.1
theorem dL_law_222 : decode cL_law 222 = .ok (.iload_n 3, 1) := bdL_law_216.2.2.2.2.1
theorem dL_law_223 : decode cL_law 223 = .ok (.iconst 1, 1) := bdL_law_216.2.2.2.2.2.1
theorem dL_law_224 : decode cL_law 224 = .ok (.iadd, 1) := bdL_law_216.2.2.2.2.2.2.1
theorem dL_law_225 : decode cL_law 225 = .ok (.iaload, 1) := bdL_law_216.2.2.2.2.2.2.2.1
theorem dL_law_226 : decode cL_law 226 = .ok (.invokevirtual 23, 3) := bdL_law_216.2.2.2.2.2.2.2.2.1
theorem dL_law_229 : decode cL_law 229 = .ok (.pop, 1) := bdL_law_216.2.2.2.2.2.2.2.2.2.1
theorem dL_law_230 : decode cL_law 230 = .ok (.aload_n 2, 1) := bdL_law_216.2.2.2.2.2.2.2.2.2.2.1
theorem dL_law_231 : decode cL_law 231 = .ok (.aload_n 0, 1) := bdL_law_216.2.2.2.2.2.2.2.2.2.2.2.1
theorem dL_law_232 : decode cL_law 232 = .ok (.iload_n 3, 1) := bdL_law_216.2.2.2.2.2.2.2.2.2.2.2.2.1
theorem dL_law_233 : decode cL_law 233 = .ok (.iconst 1, 1) := bdL_law_216.2.2.2.2.2.2.2.2.2.2.2.2.2.1
theorem dL_law_234 : decode cL_law 234 = .ok (.iadd, 1) := bdL_law_216.2.2.2.2.2.2.2.2.2.2.2.2.2.2.1
theorem dL_law_235 : decode cL_law 235 = .ok (.iaload, 1) := bdL_law_216.2.2.2.2.2.2.2.2.2.2.2.2.2.2.2
theorem bdL_law_236 : decode cL_law 236 = .ok (.invokevirtual 26, 3) ∧ decode cL_law 239 = .ok (.pop, 1) ∧ decode cL_law 240 = .ok (.goto 751, 3) ∧ decode cL_law 243 = .ok (.aload_n 1, 1) ∧ decode cL_law 244 = .ok (.aload_n 0, 1) ∧ decode cL_law 245 = .ok (.iload_n 3, 1) ∧ decode cL_law 246 = .ok (.iconst 1, 1) ∧ decode cL_law 247 = .ok (.iadd, 1) ∧ decode cL_law 248 = .ok (.iaload, 1) ∧ decode cL_law 249 = .ok (.aload_n 0, 1) ∧ decode cL_law 250 = .ok (.iload_n 3, 1) ∧ decode cL_law 251 = .ok (.iconst 2, 1) ∧ decode cL_law 252 = .ok (.iadd, 1) ∧ decode cL_law 253 = .ok (.iaload, 1) ∧ decode cL_law 254 = .ok (.invokevirtual 27, 3) ∧ decode cL_law 257 = .ok (.pop, 1) := by decide +kernel
theorem dL_law_236 : decode cL_law 236 = .ok (.invokevirtual 26, 3) := bdL_law_236.1
theorem dL_law_239 : decode cL_law 239 = .ok (.pop, 1) := bdL_law_236.2.1
theorem dL_law_240 : decode cL_law 240 = .ok (.goto 751, 3) := bdL_law_236.2.2.1
theorem dL_law_243 : decode cL_law 243 = .ok (.aload_n 1, 1) := bdL_law_236.2.2.2.1
theorem dL_law_244 : decode cL_law 244 = .ok (.aload_n 0, 1) := bdL_law_236.2.2.2.2.1
theorem dL_law_245 : decode cL_law 245 = .ok (.iload_n 3, 1) := bdL_law_236.2.2.2.2.2.1
theorem dL_law_246 : decode cL_law 246 = .ok (.iconst 1, 1) := bdL_law_236.2.2.2.2.2.2.1
theorem dL_law_247 : decode cL_law 247 = .ok (.iadd, 1) := bdL_law_236.2.2.2.2.2.2.2.1
theorem dL_law_248 : decode cL_law 248 = .ok (.iaload, 1) := bdL_law_236.2.2.2.2.2.2.2.2.1
theorem dL_law_249 : decode cL_law 249 = .ok (.aload_n 0, 1) := bdL_law_236.2.2.2.2.2.2.2.2.2.1
theorem dL_law_250 : decode cL_law 250 = .ok (.iload_n 3, 1) := bdL_law_236.2.2.2.2.2.2.2.2.2.2.1
theorem dL_law_251 : decode cL_law 251 = .ok (.iconst 2, 1) := bdL_law_236.2.2.2.2.2.2.2.2.2.2.2.1
theorem dL_law_252 : decode cL_law 252 = .ok (.iadd, 1) := bdL_law_236.2.2.2.2.2.2.2.2.2.2.2.2.1
theorem dL_law_253 : decode cL_law 253 = .ok (.iaload, 1) := bdL_law_236.2.2.2.2.2.2.2.2.2.2.2.2.2.1
theorem dL_law_254 : decode cL_law 254 = .ok (.invokevirtual 27, 3) := bdL_law_236.2.2.2.2.2.2.2.2.2.2.2.2.2.2.1
theorem dL_law_257 : decode cL_law 257 = .ok (.pop, 1) := bdL_law_236.2.2.2.2.2.2.2.2.2.2.2.2.2.2.2
theorem bdL_law_258 : decode cL_law 258 = .ok (.aload_n 2, 1) ∧ decode cL_law 259 = .ok (.aload_n 0, 1) ∧ decode cL_law 260 = .ok (.iload_n 3, 1) ∧ decode cL_law 261 = .ok (.iconst 1, 1) ∧ decode cL_law 262 = .ok (.iadd, 1) ∧ decode cL_law 263 = .ok (.iaload, 1) ∧ decode cL_law 264 = .ok (.aload_n 0, 1) ∧ decode cL_law 265 = .ok (.iload_n 3, 1) ∧ decode cL_law 266 = .ok (.iconst 2, 1) ∧ decode cL_law 267 = .ok (.iadd, 1) ∧ decode cL_law 268 = .ok (.iaload, 1) ∧ decode cL_law 269 = .ok (.invokevirtual 30, 3) ∧ decode cL_law 272 = .ok (.pop, 1) ∧ decode cL_law 273 = .ok (.goto 718, 3) ∧ decode cL_law 276 = .ok (.aload_n 1, 1) ∧ decode cL_law 277 = .ok (.aload_n 0, 1) := by decide +kernel
theorem dL_law_258 : decode cL_law 258 = .ok (.aload_n 2, 1) := bdL_law_258.1
theorem dL_law_259 : decode cL_law 259 = .ok (.aload_n 0, 1) := bdL_law_258.2.1
theorem dL_law_260 : decode cL_law 260 = .ok (.iload_n 3, 1) := bdL_law_258.2.2.1
theorem dL_law_261 : decode cL_law 261 = .ok (.iconst 1, 1) := bdL_law_258.2.2.2.1
theorem dL_law_262 : decode cL_law 262 = .ok (.iadd, 1) := bdL_law_258.2.2.2.2.1
theorem dL_law_263 : decode cL_law 263 = .ok (.iaload, 1) := bdL_law_258.2.2.2.2.2.1
theorem dL_law_264 : decode cL_law 264 = .ok (.aload_n 0, 1) := bdL_law_258.2.2.2.2.2.2.1
theorem dL_law_265 : decode cL_law 265 = .ok (.iload_n 3, 1) := bdL_law_258.2.2.2.2.2.2.2.1
theorem dL_law_266 : decode cL_law 266 = .ok (.iconst 2, 1) := bdL_law_258.2.2.2.2.2.2.2.2.1
theorem dL_law_267 : decode cL_law 267 = .ok (.iadd, 1) := bdL_law_258.2.2.2.2.2.2.2.2.2.1
theorem dL_law_268 : decode cL_law 268 = .ok (.iaload, 1) := bdL_law_258.2.2.2.2.2.2.2.2.2.2.1
theorem dL_law_269 : decode cL_law 269 = .ok (.invokevirtual 30, 3) := bdL_law_258.2.2.2.2.2.2.2.2.2.2.2.1
theorem dL_law_272 : decode cL_law 272 = .ok (.pop, 1) := bdL_law_258.2.2.2.2.2.2.2.2.2.2.2.2.1
theorem dL_law_273 : decode cL_law 273 = .ok (.goto 718, 3) := bdL_law_258.2.2.2.2.2.2.2.2.2.2.2.2.2.1
theorem dL_law_276 : decode cL_law 276 = .ok (.aload_n 1, 1) := bdL_law_258.2.2.2.2.2.2.2.2.2.2.2.2.2.2.1
theorem dL_law_277 : decode cL_law 277 = .ok (.aload_n 0, 1) := bdL_law_258.2.2.2.2.2.2.2.2.2.2.2.2.2.2.2
theorem bdL_law_278 : decode cL_law 278 = .ok (.iload_n 3, 1) ∧ decode cL_law 279 = .ok (.iconst 1, 1) ∧ decode cL_law 280 = .ok (.iadd, 1) ∧ decode cL_law 281 = .ok (.iaload, 1) ∧ decode cL_law 282 = .ok (.aload_n 0, 1) ∧ decode cL_law 283 = .ok (.iload_n 3, 1) ∧ decode cL_law 284 = .ok (.iconst 2, 1) ∧ decode cL_law 285 = .ok (.iadd, 1) ∧ decode cL_law 286 = .ok (.iaload, 1) ∧ decode cL_law 287 = .ok (.invokevirtual 31, 3) ∧ decode cL_law 290 = .ok (.pop, 1) ∧ decode cL_law 291 = .ok (.aload_n 2, 1) ∧ decode cL_law 292 = .ok (.aload_n 0, 1) ∧ decode cL_law 293 = .ok (.iload_n 3, 1) ∧ decode cL_law 294 = .ok (.iconst 1, 1) ∧ decode cL_law 295 = .ok (.iadd, 1) := by decide +kernel
theorem dL_law_278 : decode cL_law 278 = .ok (.iload_n 3, 1) := bdL_law_278.1
theorem dL_law_279 : decode cL_law 279 = .ok (.iconst 1, 1) := bdL_law_278.2.1
theorem dL_law_280 : decode cL_law 280 = .ok (.iadd, 1) := bdL_law_278.2.2.1
theorem dL_law_281 : decode cL_law 281 = .ok (.iaload, 1) := bdL_law_278.2.2.2.1
theorem dL_law_282 : decode cL_law 282 = .ok (.aload_n 0, 1) := bdL_law_278.2.2.2.2.1
theorem dL_law_283 : decode cL_law 283 = .ok (.iload_n 3, 1) := bdL_law_278.2.2.2.2.2.1
theorem dL_law_284 : decode cL_law 284 = .ok (.iconst 2, 1) := bdL_law_278.2.2.2.2.2.2.1
theorem dL_law_285 : decode cL_law 285 = .ok (.iadd, 1) := bdL_law_278.2.2.2.2.2.2.2.1
theorem dL_law_286 : decode cL_law 286 = .ok (.iaload, 1) := bdL_law_278.2.2.2.2.2.2.2.2.1
theorem dL_law_287 : decode cL_law 287 = .ok (.invokevirtual 31, 3) := bdL_law_278.2.2.2.2.2.2.2.2.2.1
theorem dL_law_290 : decode cL_law 290 = .ok (.pop, 1) := bdL_law_278.2.2.2.2.2.2.2.2.2.2.1
theorem dL_law_291 : decode cL_law 291 = .ok (.aload_n 2, 1) := bdL_law_278.2.2.2.2.2.2.2.2.2.2.2.1
theorem dL_law_292 : decode cL_law 292 = .ok (.aload_n 0, 1) := bdL_law_278.2.2.2.2.2.2.2.2.2.2.2.2.1
theorem dL_law_293 : decode cL_law 293 = .ok (.iload_n 3, 1) := bdL_law_278.2.2.2.2.2.2.2.2.2.2.2.2.2.1
theorem dL_law_294 : decode cL_law 294 = .ok (.iconst 1, 1) := bdL_law_278.2.2.2.2.2.2.2.2.2.2.2.2.2.2.1
theorem dL_law_295 : decode cL_law 295 = .ok (.iadd, 1) := bdL_law_278.2.2.2.2.2.2.2.2.2.2.2.2.2.2.2
theorem bdL_law_296 : decode cL_law 296 = .ok (.iaload, 1) ∧ decode cL_law 297 = .ok (.aload_n 0, 1) ∧ decode cL_law 298 = .ok (.iload_n 3, 1) ∧ decode cL_law 299 = .ok (.iconst 2, 1) ∧ decode cL_law 300 = .ok (.iadd, 1) ∧ decode cL_law 301 = .ok (.iaload, 1) ∧ decode cL_law 302 = .ok (.invokevirtual 34, 3) ∧ decode cL_law 305 = .ok (.pop, 1) ∧ decode cL_law 306 = .ok (.goto 685, 3) ∧ decode cL_law 309 = .ok (.aload_n 1, 1) ∧ decode cL_law 310 = .ok (.aload_n 0, 1) ∧ decode cL_law 311 = .ok (.iload_n 3, 1) ∧ decode cL_law 312 = .ok (.iconst 1, 1) ∧ decode cL_law 313 = .ok (.iadd, 1) ∧ decode cL_law 314 = .ok (.iaload, 1) ∧ decode cL_law 315 = .ok (.aload_n 0, 1) := by decide +kernel
theorem dL_law_296 : decode cL_law 296 = .ok (.iaload, 1) := bdL_law_296.1
theorem dL_law_297 : decode cL_law 297 = .ok (.aload_n 0, 1) := bdL_law_296.2.1
theorem dL_law_298 : decode cL_law 298 = .ok (.iload_n 3, 1) := bdL_law_296.2.2.1
theorem dL_law_299 : decode cL_law 299 = .ok (.iconst 2, 1) := bdL_law_296.2.2.2.1
theorem dL_law_300 : decode cL_law 300 = .ok (.iadd, 1) := bdL_law_296.2.2.2.2.1
theorem dL_law_301 : decode cL_law 301 = .ok (.iaload, 1) := bdL_law_296.2.2.2.2.2.1
theorem dL_law_302 : decode cL_law 302 = .ok (.invokevirtual 34, 3) := bdL_law_296.2.2.2.2.2.2.1
theorem dL_law_305 : decode cL_law 305 = .ok (.pop, 1) := bdL_law_296.2.2.2.2.2.2.2.1
theorem dL_law_306 : decode cL_law 306 = .ok (.goto 685, 3) := bdL_law_296.2.2.2.2.2.2.2.2.1
theorem dL_law_309 : decode cL_law 309 = .ok (.aload_n 1, 1) := bdL_law_296.2.2.2.2.2.2.2.2.2.1
theorem dL_law_310 : decode cL_law 310 = .ok (.aload_n 0, 1) := bdL_law_296.2.2.2.2.2.2.2.2.2.2.1
theorem dL_law_311 : decode cL_law 311 = .ok (.iload_n 3, 1) := bdL_law_296.2.2.2.2.2.2.2.2.2.2.2.1
theorem dL_law_312 : decode cL_law 312 = .ok (.iconst 1, 1) := bdL_law_296.2.2.2.2.2.2.2.2.2.2.2.2.1
theorem dL_law_313 : decode cL_law 313 = .ok (.iadd, 1) := bdL_law_296.2.2.2.2.2.2.2.2.2.2.2.2.2.1
theorem dL_law_314 : decode cL_law 314 = .ok (.iaload, 1) := bdL_law_296.2.2.2.2.2.2.2.2.2.2.2.2.2.2.1
theorem dL_law_315 : decode cL_law 315 = .ok (.aload_n 0, 1) := bdL_law_296.2.2.2.2.2.2.2.2.2.2.2.2.2.2.2
theorem bdL_law_316 : decode cL_law 316 = .ok (.iload_n 3, 1) ∧ decode cL_law 317 = .ok (.iconst 2, 1) ∧ decode cL_law 318 = .ok (.iadd, 1) ∧ decode cL_law 319 = .ok (.iaload, 1) ∧ decode cL_law 320 = .ok (.aload_n 0, 1) ∧ decode cL_law 321 = .ok (.iload_n 3, 1) ∧ decode cL_law 322 = .ok (.iconst 3, 1) ∧ decode cL_law 323 = .ok (.iadd, 1) ∧ decode cL_law 324 = .ok (.iaload, 1) ∧ decode cL_law 325 = .ok (.aload_n 0, 1) ∧ decode cL_law 326 = .ok (.iload_n 3, 1) ∧ decode cL_law 327 = .ok (.iconst 4, 1) ∧ decode cL_law 328 = .ok (.iadd, 1) ∧ decode cL_law 329 = .ok (.iaload, 1) ∧ decode cL_law 330 = .ok (.invokevirtual 35, 3) ∧ decode cL_law 333 = .ok (.pop, 1) := by decide +kernel
theorem dL_law_316 : decode cL_law 316 = .ok (.iload_n 3, 1) := bdL_law_316.1
theorem dL_law_317 : decode cL_law 317 = .ok (.iconst 2, 1) := bdL_law_316.2.1
theorem dL_law_318 : decode cL_law 318 = .ok (.iadd, 1) := bdL_law_316.2.2.1
theorem dL_law_319 : decode cL_law 319 = .ok (.iaload, 1) := bdL_law_316.2.2.2.1
theorem dL_law_320 : decode cL_law 320 = .ok (.aload_n 0, 1) := bdL_law_316.2.2.2.2.1
theorem dL_law_321 : decode cL_law 321 = .ok (.iload_n 3, 1) := bdL_law_316.2.2.2.2.2.1
theorem dL_law_322 : decode cL_law 322 = .ok (.iconst 3, 1) := bdL_law_316.2.2.2.2.2.2.1
theorem dL_law_323 : decode cL_law 323 = .ok (.iadd, 1) := bdL_law_316.2.2.2.2.2.2.2.1
theorem dL_law_324 : decode cL_law 324 = .ok (.iaload, 1) := bdL_law_316.2.2.2.2.2.2.2.2.1
theorem dL_law_325 : decode cL_law 325 = .ok (.aload_n 0, 1) := bdL_law_316.2.2.2.2.2.2.2.2.2.1
theorem dL_law_326 : decode cL_law 326 = .ok (.iload_n 3, 1) := bdL_law_316.2.2.2.2.2.2.2.2.2.2.1
theorem dL_law_327 : decode cL_law 327 = .ok (.iconst 4, 1) := bdL_law_316.2.2.2.2.2.2.2.2.2.2.2.1
theorem dL_law_328 : decode cL_law 328 = .ok (.iadd, 1) := bdL_law_316.2.2.2.2.2.2.2.2.2.2.2.2.1
theorem dL_law_329 : decode cL_law 329 = .ok (.iaload, 1) := bdL_law_316.2.2.2.2.2.2.2.2.2.2.2.2.2.1
theorem dL_law_330 : decode cL_law 330 = .ok (.invokevirtual 35, 3) := bdL_law_316.2.2.2.2.2.2.2.2.2.2.2.2.2.2.1
theorem dL_law_333 : decode cL_law 333 = .ok (.pop, 1) := bdL_law_316.2.2.2.2.2.2.2.2.2.2.2.2.2.2.2
theorem bdL_law_334 : decode cL_law 334 = .ok (.aload_n 2, 1) ∧ decode cL_law 335 = .ok (.aload_n 0, 1) ∧ decode cL_law 336 = .ok (.iload_n 3, 1) ∧ decode cL_law 337 = .ok (.iconst 1, 1) ∧ decode cL_law 338 = .ok (.iadd, 1) ∧ decode cL_law 339 = .ok (.iaload, 1) ∧ decode cL_law 340 = .ok (.aload_n 0, 1) ∧ decode cL_law 341 = .ok (.iload_n 3, 1) ∧ decode cL_law 342 = .ok (.iconst 2, 1) ∧ decode cL_law 343 = .ok (.iadd, 1) ∧ decode cL_law 344 = .ok (.iaload, 1) ∧ decode cL_law 345 = .ok (.aload_n 0, 1) ∧ decode cL_law 346 = .ok (.iload_n 3, 1) ∧ decode cL_law 347 = .ok (.iconst 3, 1) ∧ decode cL_law 348 = .ok (.iadd, 1) ∧ decode cL_law 349 = .ok (.iaload, 1) := by decide +kernel
theorem dL_law_334 : decode cL_law 334 = .ok (.aload_n 2, 1) := bdL_law_334.1
theorem dL_law_335 : decode cL_law 335 = .ok (.aload_n 0, 1) := bdL_law_334.2.1
theorem dL_law_336 : decode cL_law 336 = .ok (.iload_n 3, 1) := bdL_law_334.2.2.1
theorem dL_law_337 : decode cL_law 337 = .ok (.iconst 1, 1) := bdL_law_334.2.2.2.1
theorem dL_law_338 : decode cL_law 338 = .ok (.iadd, 1) := bdL_law_334.2.2.2.2.1
theorem dL_law_339 : decode cL_law 339 = .ok (.iaload, 1) := bdL_law_334.2.2.2.2.2.1
theorem dL_law_340 : decode cL_law 340 = .ok (.aload_n 0, 1) := bdL_law_334.2.2.2.2.2.2.1
theorem dL_law_341 : decode cL_law 341 = .ok (.iload_n 3, 1) := bdL_law_334.2.2.2.2.2.2.2.1
theorem dL_law_342 : decode cL_law 342 = .ok (.iconst 2, 1) := bdL_law_334.2.2.2.2.2.2.2.2.1
theorem dL_law_343 : decode cL_law 343 = .ok (.iadd, 1) := bdL_law_334.2.2.2.2.2.2.2.2.2.1
theorem dL_law_344 : decode cL_law 344 = .ok (.iaload, 1) := bdL_law_334.2.2.2.2.2.2.2.2.2.2.1
theorem dL_law_345 : decode cL_law 345 = .ok (.aload_n 0, 1) := bdL_law_334.2.2.2.2.2.2.2.2.2.2.2.1
theorem dL_law_346 : decode cL_law 346 = .ok (.iload_n 3, 1) := bdL_law_334.2.2.2.2.2.2.2.2.2.2.2.2.1
theorem dL_law_347 : decode cL_law 347 = .ok (.iconst 3, 1) := bdL_law_334.2.2.2.2.2.2.2.2.2.2.2.2.2.1
theorem dL_law_348 : decode cL_law 348 = .ok (.iadd, 1) := bdL_law_334.2.2.2.2.2.2.2.2.2.2.2.2.2.2.1
theorem dL_law_349 : decode cL_law 349 = .ok (.iaload, 1) := bdL_law_334.2.2.2.2.2.2.2.2.2.2.2.2.2.2.2
theorem bdL_law_350 : decode cL_law 350 = .ok (.aload_n 0, 1) ∧ decode cL_law 351 = .ok (.iload_n 3, 1) ∧ decode cL_law 352 = .ok (.iconst 4, 1) ∧ decode cL_law 353 = .ok (.iadd, 1) ∧ decode cL_law 354 = .ok (.iaload, 1) ∧ decode cL_law 355 = .ok (.invokevirtual 39, 3) ∧ decode cL_law 358 = .ok (.pop, 1) ∧ decode cL_law 359 = .ok (.goto 632, 3) ∧ decode cL_law 362 = .ok (.aload_n 1, 1) ∧ decode cL_law 363 = .ok (.aload_n 0, 1) ∧ decode cL_law 364 = .ok (.iload_n 3, 1) ∧ decode cL_law 365 = .ok (.iconst 1, 1) ∧ decode cL_law 366 = .ok (.iadd, 1) ∧ decode cL_law 367 = .ok (.iaload, 1) ∧ decode cL_law 368 = .ok (.aload_n 0, 1) ∧ decode cL_law 369 = .ok (.iload_n 3, 1) := by decide +kernel
theorem dL_law_350 : decode cL_law 350 = .ok (.aload_n 0, 1) := bdL_law_350.1
theorem dL_law_351 : decode cL_law 351 = .ok (.iload_n 3, 1) := bdL_law_350.2.1
theorem dL_law_352 : decode cL_law 352 = .ok (.iconst 4, 1) := bdL_law_350.2.2.1
theorem dL_law_353 : decode cL_law 353 = .ok (.iadd, 1) := bdL_law_350.2.2.2.1
theorem dL_law_354 : decode cL_law 354 = .ok (.iaload, 1) := bdL_law_350.2.2.2.2.1
theorem dL_law_355 : decode cL_law 355 = .ok (.invokevirtual 39, 3) := bdL_law_350.2.2.2.2.2.1
theorem dL_law_358 : decode cL_law 358 = .ok (.pop, 1) := bdL_law_350.2.2.2.2.2.2.1
theorem dL_law_359 : decode cL_law 359 = .ok (.goto 632, 3) := bdL_law_350.2.2.2.2.2.2.2.1
theorem dL_law_362 : decode cL_law 362 = .ok (.aload_n 1, 1) := bdL_law_350.2.2.2.2.2.2.2.2.1
theorem dL_law_363 : decode cL_law 363 = .ok (.aload_n 0, 1) := bdL_law_350.2.2.2.2.2.2.2.2.2.1
theorem dL_law_364 : decode cL_law 364 = .ok (.iload_n 3, 1) := bdL_law_350.2.2.2.2.2.2.2.2.2.2.1
theorem dL_law_365 : decode cL_law 365 = .ok (.iconst 1, 1) := bdL_law_350.2.2.2.2.2.2.2.2.2.2.2.1
theorem dL_law_366 : decode cL_law 366 = .ok (.iadd, 1) := bdL_law_350.2.2.2.2.2.2.2.2.2.2.2.2.1
theorem dL_law_367 : decode cL_law 367 = .ok (.iaload, 1) := bdL_law_350.2.2.2.2.2.2.2.2.2.2.2.2.2.1
theorem dL_law_368 : decode cL_law 368 = .ok (.aload_n 0, 1) := bdL_law_350.2.2.2.2.2.2.2.2.2.2.2.2.2.2.1
theorem dL_law_369 : decode cL_law 369 = .ok (.iload_n 3, 1) := bdL_law_350.2.2.2.2.2.2.2.2.2.2.2.2.2.2.2
theorem bdL_law_370 : decode cL_law 370 = .ok (.iconst 2, 1) ∧ decode cL_law 371 = .ok (.iadd, 1) ∧ decode cL_law 372 = .ok (.iaload, 1) ∧ decode cL_law 373 = .ok (.invokevirtual 40, 3) ∧ decode cL_law 376 = .ok (.pop, 1) ∧ decode cL_law 377 = .ok (.aload_n 2, 1) ∧ decode cL_law 378 = .ok (.aload_n 0, 1) ∧ decode cL_law 379 = .ok (.iload_n 3, 1) ∧ decode cL_law 380 = .ok (.iconst 1, 1) ∧ decode cL_law 381 = .ok (.iadd, 1) ∧ decode cL_law 382 = .ok (.iaload, 1) ∧ decode cL_law 383 = .ok (.aload_n 0, 1) ∧ decode cL_law 384 = .ok (.iload_n 3, 1) ∧ decode cL_law 385 = .ok (.iconst 2, 1) ∧ decode cL_law 386 = .ok (.iadd, 1) ∧ decode cL_law 387 = .ok (.iaload, 1) := by decide +kernel
theorem dL_law_370 : decode cL_law 370 = .ok (.iconst 2, 1) := bdL_law_370.1
theorem dL_law_371 : decode cL_law 371 = .ok (.iadd, 1) := bdL_law_370.2.1
theorem dL_law_372 : decode cL_law 372 = .ok (.iaload, 1) := bdL_law_370.2.2.1
theorem dL_law_373 : decode cL_law 373 = .ok (.invokevirtual 40, 3) := bdL_law_370.2.2.2.1
theorem dL_law_376 : decode cL_law 376 = .ok (.pop, 1) := bdL_law_370.2.2.2.2.1
theorem dL_law_377 : decode cL_law 377 = .ok (.aload_n 2, 1) := bdL_law_370.2.2.2.2.2.1
theorem dL_law_378 : decode cL_law 378 = .ok (.aload_n 0, 1) := bdL_law_370.2.2.2.2.2.2.1
theorem dL_law_379 : decode cL_law 379 = .ok (.iload_n 3, 1) := bdL_law_370.2.2.2.2.2.2.2.1
theorem dL_law_380 : decode cL_law 380 = .ok (.iconst 1, 1) := bdL_law_370.2.2.2.2.2.2.2.2.1
theorem dL_law_381 : decode cL_law 381 = .ok (.iadd, 1) := bdL_law_370.2.2.2.2.2.2.2.2.2.1
theorem dL_law_382 : decode cL_law 382 = .ok (.iaload, 1) := bdL_law_370.2.2.2.2.2.2.2.2.2.2.1
theorem dL_law_383 : decode cL_law 383 = .ok (.aload_n 0, 1) := bdL_law_370.2.2.2.2.2.2.2.2.2.2.2.1
theorem dL_law_384 : decode cL_law 384 = .ok (.iload_n 3, 1) := bdL_law_370.2.2.2.2.2.2.2.2.2.2.2.2.1
theorem dL_law_385 : decode cL_law 385 = .ok (.iconst 2, 1) := bdL_law_370.2.2.2.2.2.2.2.2.2.2.2.2.2.1
theorem dL_law_386 : decode cL_law 386 = .ok (.iadd, 1) := bdL_law_370.2.2.2.2.2.2.2.2.2.2.2.2.2.2.1
theorem dL_law_387 : decode cL_law 387 = .ok (.iaload, 1) := bdL_law_370.2.2.2.2.2.2.2.2.2.2.2.2.2.2.2
theorem bdL_law_388 : decode cL_law 388 = .ok (.invokevirtual 43, 3) ∧ decode cL_law 391 = .ok (.pop, 1) ∧ decode cL_law 392 = .ok (.goto 599, 3) ∧ decode cL_law 395 = .ok (.aload_n 1, 1) ∧ decode cL_law 396 = .ok (.aload_n 0, 1) ∧ decode cL_law 397 = .ok (.iload_n 3, 1) ∧ decode cL_law 398 = .ok (.iconst 1, 1) ∧ decode cL_law 399 = .ok (.iadd, 1) ∧ decode cL_law 400 = .ok (.iaload, 1) ∧ decode cL_law 401 = .ok (.invokevirtual 44, 3) ∧ decode cL_law 404 = .ok (.pop, 1) ∧ decode cL_law 405 = .ok (.aload_n 2, 1) ∧ decode cL_law 406 = .ok (.aload_n 0, 1) ∧ decode cL_law 407 = .ok (.iload_n 3, 1) ∧ decode cL_law 408 = .ok (.iconst 1, 1) ∧ decode cL_law 409 = .ok (.iadd, 1) := by decide +kernel
theorem dL_law_388 : decode cL_law 388 = .ok (.invokevirtual 43, 3) := bdL_law_388.1
theorem dL_law_391 : decode cL_law 391 = .ok (.pop, 1) := bdL_law_388.2.1
theorem dL_law_392 : decode cL_law 392 = .ok (.goto 599, 3) := bdL_law_388.2.2.1
theorem dL_law_395 : decode cL_law 395 = .ok (.aload_n 1, 1) := bdL_law_388.2.2.2.1
theorem dL_law_396 : decode cL_law 396 = .ok (.aload_n 0, 1) := bdL_law_388.2.2.2.2.1
theorem dL_law_397 : decode cL_law 397 = .ok (.iload_n 3, 1) := bdL_law_388.2.2.2.2.2.1
theorem dL_law_398 : decode cL_law 398 = .ok (.iconst 1, 1) := bdL_law_388.2.2.2.2.2.2.1
theorem dL_law_399 : decode cL_law 399 = .ok (.iadd, 1) := bdL_law_388.2.2.2.2.2.2.2.1
theorem dL_law_400 : decode cL_law 400 = .ok (.iaload, 1) := bdL_law_388.2.2.2.2.2.2.2.2.1
theorem dL_law_401 : decode cL_law 401 = .ok (.invokevirtual 44, 3) := bdL_law_388.2.2.2.2.2.2.2.2.2.1
theorem dL_law_404 : decode cL_law 404 = .ok (.pop, 1) := bdL_law_388.2.2.2.2.2.2.2.2.2.2.1
theorem dL_law_405 : decode cL_law 405 = .ok (.aload_n 2, 1) := bdL_law_388.2.2.2.2.2.2.2.2.2.2.2.1
theorem dL_law_406 : decode cL_law 406 = .ok (.aload_n 0, 1) := bdL_law_388.2.2.2.2.2.2.2.2.2.2.2.2.1
theorem dL_law_407 : decode cL_law 407 = .ok (.iload_n 3, 1) := bdL_law_388.2.2.2.2.2.2.2.2.2.2.2.2.2.1
theorem dL_law_408 : decode cL_law 408 = .ok (.iconst 1, 1) := bdL_law_388.2.2.2.2.2.2.2.2.2.2.2.2.2.2.1
theorem dL_law_409 : decode cL_law 409 = .ok (.iadd, 1) := bdL_law_388.2.2.2.2.2.2.2.2.2.2.2.2.2.2.2
theorem bdL_law_410 : decode cL_law 410 = .ok (.iaload, 1) ∧ decode cL_law 411 = .ok (.invokevirtual 47, 3) ∧ decode cL_law 414 = .ok (.pop, 1) ∧ decode cL_law 415 = .ok (.goto 576, 3) ∧ decode cL_law 418 = .ok (.aload_n 1, 1) ∧ decode cL_law 419 = .ok (.aload_n 0, 1) ∧ decode cL_law 420 = .ok (.iload_n 3, 1) ∧ decode cL_law 421 = .ok (.iconst 1, 1) ∧ decode cL_law 422 = .ok (.iadd, 1) ∧ decode cL_law 423 = .ok (.iaload, 1) ∧ decode cL_law 424 = .ok (.aload_n 0, 1) ∧ decode cL_law 425 = .ok (.iload_n 3, 1) ∧ decode cL_law 426 = .ok (.iconst 2, 1) ∧ decode cL_law 427 = .ok (.iadd, 1) ∧ decode cL_law 428 = .ok (.iaload, 1) ∧ decode cL_law 429 = .ok (.invokevirtual 48, 3) := by decide +kernel
theorem dL_law_410 : decode cL_law 410 = .ok (.iaload, 1) := bdL_law_410.1
theorem dL_law_411 : decode cL_law 411 = .ok (.invokevirtual 47, 3) := bdL_law_410.2.1
theorem dL_law_414 : decode cL_law 414 = .ok (.pop, 1) := bdL_law_410.2.2.1
theorem dL_law_415 : decode cL_law 415 = .ok (.goto 576, 3) := bdL_law_410.2.2.2.1
theorem dL_law_418 : decode cL_law 418 = .ok (.aload_n 1, 1) := bdL_law_410.2.2.2.2.1
theorem dL_law_419 : decode cL_law 419 = .ok (.aload_n 0, 1) := bdL_law_410.2.2.2.2.2.1
theorem dL_law_420 : decode cL_law 420 = .ok (.iload_n 3, 1) := bdL_law_410.2.2.2.2.2.2.1
theorem dL_law_421 : decode cL_law 421 = .ok (.iconst 1, 1) := bdL_law_410.2.2.2.2.2.2.2.1
theorem dL_law_422 : decode cL_law 422 = .ok (.iadd, 1) := bdL_law_410.2.2.2.2.2.2.2.2.1
theorem dL_law_423 : decode cL_law 423 = .ok (.iaload, 1) := bdL_law_410.2.2.2.2.2.2.2.2.2.1
theorem dL_law_424 : decode cL_law 424 = .ok (.aload_n 0, 1) := bdL_law_410.2.2.2.2.2.2.2.2.2.2.1
theorem dL_law_425 : decode cL_law 425 = .ok (.iload_n 3, 1) := bdL_law_410.2.2.2.2.2.2.2.2.2.2.2.1
theorem dL_law_426 : decode cL_law 426 = .ok (.iconst 2, 1) := bdL_law_410.2.2.2.2.2.2.2.2.2.2.2.2.1
theorem dL_law_427 : decode cL_law 427 = .ok (.iadd, 1) := bdL_law_410.2.2.2.2.2.2.2.2.2.2.2.2.2.1
theorem dL_law_428 : decode cL_law 428 = .ok (.iaload, 1) := bdL_law_410.2.2.2.2.2.2.2.2.2.2.2.2.2.2.1
theorem dL_law_429 : decode cL_law 429 = .ok (.invokevirtual 48, 3) := bdL_law_410.2.2.2.2.2.2.2.2.2.2.2.2.2.2.2
theorem bdL_law_432 : decode cL_law 432 = .ok (.pop, 1) ∧ decode cL_law 433 = .ok (.aload_n 2, 1) ∧ decode cL_law 434 = .ok (.aload_n 0, 1) ∧ decode cL_law 435 = .ok (.iload_n 3, 1) ∧ decode cL_law 436 = .ok (.iconst 1, 1) ∧ decode cL_law 437 = .ok (.iadd, 1) ∧ decode cL_law 438 = .ok (.iaload, 1) ∧ decode cL_law 439 = .ok (.aload_n 0, 1) ∧ decode cL_law 440 = .ok (.iload_n 3, 1) ∧ decode cL_law 441 = .ok (.iconst 2, 1) ∧ decode cL_law 442 = .ok (.iadd, 1) ∧ decode cL_law 443 = .ok (.iaload, 1) ∧ decode cL_law 444 = .ok (.invokevirtual 51, 3) ∧ decode cL_law 447 = .ok (.pop, 1) ∧ decode cL_law 448 = .ok (.goto 543, 3) ∧ decode cL_law 451 = .ok (.aload_n 1, 1) := by decide +kernel
theorem dL_law_432 : decode cL_law 432 = .ok (.pop, 1) := bdL_law_432.1
theorem dL_law_433 : decode cL_law 433 = .ok (.aload_n 2, 1) := bdL_law_432.2.1
theorem dL_law_434 : decode cL_law 434 = .ok (.aload_n 0, 1) := bdL_law_432.2.2.1
theorem dL_law_435 : decode cL_law 435 = .ok (.iload_n 3, 1) := bdL_law_432.2.2.2.1
theorem dL_law_436 : decode cL_law 436 = .ok (.iconst 1, 1) := bdL_law_432.2.2.2.2.1
theorem dL_law_437 : decode cL_law 437 = .ok (.iadd, 1) := bdL_law_432.2.2.2.2.2.1
theorem dL_law_438 : decode cL_law 438 = .ok (.iaload, 1) := bdL_law_432.2.2.2.2.2.2.1
theorem dL_law_439 : decode cL_law 439 = .ok (.aload_n 0, 1) := bdL_law_432.2.2.2.2.2.2.2.1
theorem dL_law_440 : decode cL_law 440 = .ok (.iload_n 3, 1) := bdL_law_432.2.2.2.2.2.2.2.2.1
theorem dL_law_441 : decode cL_law 441 = .ok (.iconst 2, 1) := bdL_law_432.2.2.2.2.2.2.2.2.2.1
theorem dL_law_442 : decode cL_law 442 = .ok (.iadd, 1) := bdL_law_432.2.2.2.2.2.2.2.2.2.2.1
theorem dL_law_443 : decode cL_law 443 = .ok (.iaload, 1) := bdL_law_432.2.2.2.2.2.2.2.2.2.2.2.1
theorem dL_law_444 : decode cL_law 444 = .ok (.invokevirtual 51, 3) := bdL_law_432.2.2.2.2.2.2.2.2.2.2.2.2.1
theorem dL_law_447 : decode cL_law 447 = .ok (.pop, 1) := bdL_law_432.2.2.2.2.2.2.2.2.2.2.2.2.2.1
theorem dL_law_448 : decode cL_law 448 = .ok (.goto 543, 3) := bdL_law_432.2.2.2.2.2.2.2.2.2.2.2.2.2.2.1
theorem dL_law_451 : decode cL_law 451 = .ok (.aload_n 1, 1) := bdL_law_432.2.2.2.2.2.2.2.2.2.2.2.2.2.2.2
theorem bdL_law_452 : decode cL_law 452 = .ok (.aload_n 0, 1) ∧ decode cL_law 453 = .ok (.iload_n 3, 1) ∧ decode cL_law 454 = .ok (.iconst 1, 1) ∧ decode cL_law 455 = .ok (.iadd, 1) ∧ decode cL_law 456 = .ok (.iaload, 1) ∧ decode cL_law 457 = .ok (.aload_n 0, 1) ∧ decode cL_law 458 = .ok (.iload_n 3, 1) ∧ decode cL_law 459 = .ok (.iconst 2, 1) ∧ decode cL_law 460 = .ok (.iadd, 1) ∧ decode cL_law 461 = .ok (.iaload, 1) ∧ decode cL_law 462 = .ok (.invokevirtual 52, 3) ∧ decode cL_law 465 = .ok (.pop, 1) ∧ decode cL_law 466 = .ok (.aload_n 2, 1) ∧ decode cL_law 467 = .ok (.aload_n 0, 1) ∧ decode cL_law 468 = .ok (.iload_n 3, 1) ∧ decode cL_law 469 = .ok (.iconst 1, 1) := by decide +kernel
theorem dL_law_452 : decode cL_law 452 = .ok (.aload_n 0, 1) := bdL_law_452.1
theorem dL_law_453 : decode cL_law 453 = .ok (.iload_n 3, 1) := bdL_law_452.2.1
theorem dL_law_454 : decode cL_law 454 = .ok (.iconst 1, 1) := bdL_law_452.2.2.1
theorem dL_law_455 : decode cL_law 455 = .ok (.iadd, 1) := bdL_law_452.2.2.2.1
theorem dL_law_456 : decode cL_law 456 = .ok (.iaload, 1) := bdL_law_452.2.2.2.2.1
theorem dL_law_457 : decode cL_law 457 = .ok (.aload_n 0, 1) := bdL_law_452.2.2.2.2.2.1
theorem dL_law_458 : decode cL_law 458 = .ok (.iload_n 3, 1) := bdL_law_452.2.2.2.2.2.2.1
theorem dL_law_459 : decode cL_law 459 = .ok (.iconst 2, 1) := bdL_law_452.2.2.2.2.2.2.2.1
theorem dL_law_460 : decode cL_law 460 = .ok (.iadd, 1) := bdL_law_452.2.2.2.2.2.2.2.2.1
theorem dL_law_461 : decode cL_law 461 = .ok (.iaload, 1) := bdL_law_452.2.2.2.2.2.2.2.2.2.1
theorem dL_law_462 : decode cL_law 462 = .ok (.invokevirtual 52, 3) := bdL_law_452.2.2.2.2.2.2.2.2.2.2.1
theorem dL_law_465 : decode cL_law 465 = .ok (.pop, 1) := bdL_law_452.2.2.2.2.2.2.2.2.2.2.2.1
theorem dL_law_466 : decode cL_law 466 = .ok (.aload_n 2, 1) := bdL_law_452.2.2.2.2.2.2.2.2.2.2.2.2.1
theorem dL_law_467 : decode cL_law 467 = .ok (.aload_n 0, 1) := bdL_law_452.2.2.2.2.2.2.2.2.2.2.2.2.2.1
theorem dL_law_468 : decode cL_law 468 = .ok (.iload_n 3, 1) := bdL_law_452.2.2.2.2.2.2.2.2.2.2.2.2.2.2.1
theorem dL_law_469 : decode cL_law 469 = .ok (.iconst 1, 1) := bdL_law_452.2.2.2.2.2.2.2.2.2.2.2.2.2.2.2
theorem bdL_law_470 : decode cL_law 470 = .ok (.iadd, 1) ∧ decode cL_law 471 = .ok (.iaload, 1) ∧ decode cL_law 472 = .ok (.aload_n 0, 1) ∧ decode cL_law 473 = .ok (.iload_n 3, 1) ∧ decode cL_law 474 = .ok (.iconst 2, 1) ∧ decode cL_law 475 = .ok (.iadd, 1) ∧ decode cL_law 476 = .ok (.iaload, 1) ∧ decode cL_law 477 = .ok (.invokevirtual 55, 3) ∧ decode cL_law 480 = .ok (.pop, 1) ∧ decode cL_law 481 = .ok (.goto 510, 3) ∧ decode cL_law 484 = .ok (.aload_n 1, 1) ∧ decode cL_law 485 = .ok (.aload_n 0, 1) ∧ decode cL_law 486 = .ok (.iload_n 3, 1) ∧ decode cL_law 487 = .ok (.iconst 1, 1) ∧ decode cL_law 488 = .ok (.iadd, 1) ∧ decode cL_law 489 = .ok (.iaload, 1) := by decide +kernel
theorem dL_law_470 : decode cL_law 470 = .ok (.iadd, 1) := bdL_law_470.1
theorem dL_law_471 : decode cL_law 471 = .ok (.iaload, 1) := bdL_law_470.2.1
theorem dL_law_472 : decode cL_law 472 = .ok (.aload_n 0, 1) := bdL_law_470.2.2.1
theorem dL_law_473 : decode cL_law 473 = .ok (.iload_n 3, 1) := bdL_law_470.2.2.2.1
theorem dL_law_474 : decode cL_law 474 = .ok (.iconst 2, 1) := bdL_law_470.2.2.2.2.1
theorem dL_law_475 : decode cL_law 475 = .ok (.iadd, 1) := bdL_law_470.2.2.2.2.2.1
theorem dL_law_476 : decode cL_law 476 = .ok (.iaload, 1) := bdL_law_470.2.2.2.2.2.2.1
theorem dL_law_477 : decode cL_law 477 = .ok (.invokevirtual 55, 3) := bdL_law_470.2.2.2.2.2.2.2.1
theorem dL_law_480 : decode cL_law 480 = .ok (.pop, 1) := bdL_law_470.2.2.2.2.2.2.2.2.1
theorem dL_law_481 : decode cL_law 481 = .ok (.goto 510, 3) := bdL_law_470.2.2.2.2.2.2.2.2.2.1
theorem dL_law_484 : decode cL_law 484 = .ok (.aload_n 1, 1) := bdL_law_470.2.2.2.2.2.2.2.2.2.2.1
theorem dL_law_485 : decode cL_law 485 = .ok (.aload_n 0, 1) := bdL_law_470.2.2.2.2.2.2.2.2.2.2.2.1
theorem dL_law_486 : decode cL_law 486 = .ok (.iload_n 3, 1) := bdL_law_470.2.2.2.2.2.2.2.2.2.2.2.2.1
theorem dL_law_487 : decode cL_law 487 = .ok (.iconst 1, 1) := bdL_law_470.2.2.2.2.2.2.2.2.2.2.2.2.2.1
theorem dL_law_488 : decode cL_law 488 = .ok (.iadd, 1) := bdL_law_470.2.2.2.2.2.2.2.2.2.2.2.2.2.2.1
theorem dL_law_489 : decode cL_law 489 = .ok (.iaload, 1) := bdL_law_470.2.2.2.2.2.2.2.2.2.2.2.2.2.2.2
theorem bdL_law_490 : decode cL_law 490 = .ok (.invokevirtual 56, 3) ∧ decode cL_law 493 = .ok (.pop, 1) ∧ decode cL_law 494 = .ok (.aload_n 2, 1) ∧ decode cL_law 495 = .ok (.aload_n 0, 1) ∧ decode cL_law 496 = .ok (.iload_n 3, 1) ∧ decode cL_law 497 = .ok (.iconst 1, 1) ∧ decode cL_law 498 = .ok (.iadd, 1) ∧ decode cL_law 499 = .ok (.iaload, 1) ∧ decode cL_law 500 = .ok (.invokevirtual 59, 3) ∧ decode cL_law 503 = .ok (.pop, 1) ∧ decode cL_law 504 = .ok (.goto 487, 3) ∧ decode cL_law 507 = .ok (.aload_n 1, 1) ∧ decode cL_law 508 = .ok (.aload_n 0, 1) ∧ decode cL_law 509 = .ok (.iload_n 3, 1) ∧ decode cL_law 510 = .ok (.iconst 1, 1) ∧ decode cL_law 511 = .ok (.iadd, 1) := by decide +kernel
theorem dL_law_490 : decode cL_law 490 = .ok (.invokevirtual 56, 3) := bdL_law_490.1
theorem dL_law_493 : decode cL_law 493 = .ok (.pop, 1) := bdL_law_490.2.1
theorem dL_law_494 : decode cL_law 494 = .ok (.aload_n 2, 1) := bdL_law_490.2.2.1
theorem dL_law_495 : decode cL_law 495 = .ok (.aload_n 0, 1) := bdL_law_490.2.2.2.1
theorem dL_law_496 : decode cL_law 496 = .ok (.iload_n 3, 1) := bdL_law_490.2.2.2.2.1
theorem dL_law_497 : decode cL_law 497 = .ok (.iconst 1, 1) := bdL_law_490.2.2.2.2.2.1
theorem dL_law_498 : decode cL_law 498 = .ok (.iadd, 1) := bdL_law_490.2.2.2.2.2.2.1
theorem dL_law_499 : decode cL_law 499 = .ok (.iaload, 1) := bdL_law_490.2.2.2.2.2.2.2.1
theorem dL_law_500 : decode cL_law 500 = .ok (.invokevirtual 59, 3) := bdL_law_490.2.2.2.2.2.2.2.2.1
theorem dL_law_503 : decode cL_law 503 = .ok (.pop, 1) := bdL_law_490.2.2.2.2.2.2.2.2.2.1
theorem dL_law_504 : decode cL_law 504 = .ok (.goto 487, 3) := bdL_law_490.2.2.2.2.2.2.2.2.2.2.1
theorem dL_law_507 : decode cL_law 507 = .ok (.aload_n 1, 1) := bdL_law_490.2.2.2.2.2.2.2.2.2.2.2.1
theorem dL_law_508 : decode cL_law 508 = .ok (.aload_n 0, 1) := bdL_law_490.2.2.2.2.2.2.2.2.2.2.2.2.1
theorem dL_law_509 : decode cL_law 509 = .ok (.iload_n 3, 1) := bdL_law_490.2.2.2.2.2.2.2.2.2.2.2.2.2.1
theorem dL_law_510 : decode cL_law 510 = .ok (.iconst 1, 1) := bdL_law_490.2.2.2.2.2.2.2.2.2.2.2.2.2.2.1
theorem dL_law_511 : decode cL_law 511 = .ok (.iadd, 1) := bdL_law_490.2.2.2.2.2.2.2.2.2.2.2.2.2.2.2
theorem bdL_law_512 : decode cL_law 512 = .ok (.iaload, 1) ∧ decode cL_law 513 = .ok (.aload_n 0, 1) ∧ decode cL_law 514 = .ok (.iload_n 3, 1) ∧ decode cL_law 515 = .ok (.iconst 2, 1) ∧ decode cL_law 516 = .ok (.iadd, 1) ∧ decode cL_law 517 = .ok (.iaload, 1) ∧ decode cL_law 518 = .ok (.invokevirtual 60, 3) ∧ decode cL_law 521 = .ok (.pop, 1) ∧ decode cL_law 522 = .ok (.aload_n 2, 1) ∧ decode cL_law 523 = .ok (.aload_n 0, 1) ∧ decode cL_law 524 = .ok (.iload_n 3, 1) ∧ decode cL_law 525 = .ok (.iconst 1, 1) ∧ decode cL_law 526 = .ok (.iadd, 1) ∧ decode cL_law 527 = .ok (.iaload, 1) ∧ decode cL_law 528 = .ok (.aload_n 0, 1) ∧ decode cL_law 529 = .ok (.iload_n 3, 1) := by decide +kernel
theorem dL_law_512 : decode cL_law 512 = .ok (.iaload, 1) := bdL_law_512.1
theorem dL_law_513 : decode cL_law 513 = .ok (.aload_n 0, 1) := bdL_law_512.2.1
theorem dL_law_514 : decode cL_law 514 = .ok (.iload_n 3, 1) := bdL_law_512.2.2.1
theorem dL_law_515 : decode cL_law 515 = .ok (.iconst 2, 1) := bdL_law_512.2.2.2.1
theorem dL_law_516 : decode cL_law 516 = .ok (.iadd, 1) := bdL_law_512.2.2.2.2.1
theorem dL_law_517 : decode cL_law 517 = .ok (.iaload, 1) := bdL_law_512.2.2.2.2.2.1
theorem dL_law_518 : decode cL_law 518 = .ok (.invokevirtual 60, 3) := bdL_law_512.2.2.2.2.2.2.1
theorem dL_law_521 : decode cL_law 521 = .ok (.pop, 1) := bdL_law_512.2.2.2.2.2.2.2.1
theorem dL_law_522 : decode cL_law 522 = .ok (.aload_n 2, 1) := bdL_law_512.2.2.2.2.2.2.2.2.1
theorem dL_law_523 : decode cL_law 523 = .ok (.aload_n 0, 1) := bdL_law_512.2.2.2.2.2.2.2.2.2.1
theorem dL_law_524 : decode cL_law 524 = .ok (.iload_n 3, 1) := bdL_law_512.2.2.2.2.2.2.2.2.2.2.1
theorem dL_law_525 : decode cL_law 525 = .ok (.iconst 1, 1) := bdL_law_512.2.2.2.2.2.2.2.2.2.2.2.1
theorem dL_law_526 : decode cL_law 526 = .ok (.iadd, 1) := bdL_law_512.2.2.2.2.2.2.2.2.2.2.2.2.1
theorem dL_law_527 : decode cL_law 527 = .ok (.iaload, 1) := bdL_law_512.2.2.2.2.2.2.2.2.2.2.2.2.2.1
theorem dL_law_528 : decode cL_law 528 = .ok (.aload_n 0, 1) := bdL_law_512.2.2.2.2.2.2.2.2.2.2.2.2.2.2.1
theorem dL_law_529 : decode cL_law 529 = .ok (.iload_n 3, 1) := bdL_law_512.2.2.2.2.2.2.2.2.2.2.2.2.2.2.2
theorem bdL_law_530 : decode cL_law 530 = .ok (.iconst 2, 1) ∧ decode cL_law 531 = .ok (.iadd, 1) ∧ decode cL_law 532 = .ok (.iaload, 1) ∧ decode cL_law 533 = .ok (.invokevirtual 63, 3) ∧ decode cL_law 536 = .ok (.pop, 1) ∧ decode cL_law 537 = .ok (.goto 454, 3) ∧ decode cL_law 540 = .ok (.aload_n 1, 1) ∧ decode cL_law 541 = .ok (.aload_n 0, 1) ∧ decode cL_law 542 = .ok (.iload_n 3, 1) ∧ decode cL_law 543 = .ok (.iconst 1, 1) ∧ decode cL_law 544 = .ok (.iadd, 1) ∧ decode cL_law 545 = .ok (.iaload, 1) ∧ decode cL_law 546 = .ok (.aload_n 0, 1) ∧ decode cL_law 547 = .ok (.iload_n 3, 1) ∧ decode cL_law 548 = .ok (.iconst 2, 1) ∧ decode cL_law 549 = .ok (.iadd, 1) := by decide +kernel
theorem dL_law_530 : decode cL_law 530 = .ok (.iconst 2, 1) := bdL_law_530.1
theorem dL_law_531 : decode cL_law 531 = .ok (.iadd, 1) := bdL_law_530.2.1
theorem dL_law_532 : decode cL_law 532 = .ok (.iaload, 1) := bdL_law_530.2.2.1
theorem dL_law_533 : decode cL_law 533 = .ok (.invokevirtual 63, 3) := bdL_law_530.2.2.2.1
theorem dL_law_536 : decode cL_law 536 = .ok (.pop, 1) := bdL_law_530.2.2.2.2.1
theorem dL_law_537 : decode cL_law 537 = .ok (.goto 454, 3) := bdL_law_530.2.2.2.2.2.1
theorem dL_law_540 : decode cL_law 540 = .ok (.aload_n 1, 1) := bdL_law_530.2.2.2.2.2.2.1
theorem dL_law_541 : decode cL_law 541 = .ok (.aload_n 0, 1) := bdL_law_530.2.2.2.2.2.2.2.1
theorem dL_law_542 : decode cL_law 542 = .ok (.iload_n 3, 1) := bdL_law_530.2.2.2.2.2.2.2.2.1
theorem dL_law_543 : decode cL_law 543 = .ok (.iconst 1, 1) := bdL_law_530.2.2.2.2.2.2.2.2.2.1
theorem dL_law_544 : decode cL_law 544 = .ok (.iadd, 1) := bdL_law_530.2.2.2.2.2.2.2.2.2.2.1
theorem dL_law_545 : decode cL_law 545 = .ok (.iaload, 1) := bdL_law_530.2.2.2.2.2.2.2.2.2.2.2.1
theorem dL_law_546 : decode cL_law 546 = .ok (.aload_n 0, 1) := bdL_law_530.2.2.2.2.2.2.2.2.2.2.2.2.1
theorem dL_law_547 : decode cL_law 547 = .ok (.iload_n 3, 1) := bdL_law_530.2.2.2.2.2.2.2.2.2.2.2.2.2.1
theorem dL_law_548 : decode cL_law 548 = .ok (.iconst 2, 1) := bdL_law_530.2.2.2.2.2.2.2.2.2.2.2.2.2.2.1
theorem dL_law_549 : decode cL_law 549 = .ok (.iadd, 1) := bdL_law_530.2.2.2.2.2.2.2.2.2.2.2.2.2.2.2
theorem bdL_law_550 : decode cL_law 550 = .ok (.iaload, 1) ∧ decode cL_law 551 = .ok (.invokevirtual 64, 3) ∧ decode cL_law 554 = .ok (.pop2, 1) ∧ decode cL_law 555 = .ok (.aload_n 2, 1) ∧ decode cL_law 556 = .ok (.aload_n 0, 1) ∧ decode cL_law 557 = .ok (.iload_n 3, 1) ∧ decode cL_law 558 = .ok (.iconst 1, 1) ∧ decode cL_law 559 = .ok (.iadd, 1) ∧ decode cL_law 560 = .ok (.iaload, 1) ∧ decode cL_law 561 = .ok (.aload_n 0, 1) ∧ decode cL_law 562 = .ok (.iload_n 3, 1) ∧ decode cL_law 563 = .ok (.iconst 2, 1) ∧ decode cL_law 564 = .ok (.iadd, 1) ∧ decode cL_law 565 = .ok (.iaload, 1) ∧ decode cL_law 566 = .ok (.invokevirtual 68, 3) ∧ decode cL_law 569 = .ok (.pop2, 1) := by decide +kernel
theorem dL_law_550 : decode cL_law 550 = .ok (.iaload, 1) := bdL_law_550.1
theorem dL_law_551 : decode cL_law 551 = .ok (.invokevirtual 64, 3) := bdL_law_550.2.1
theorem dL_law_554 : decode cL_law 554 = .ok (.pop2, 1) := bdL_law_550.2.2.1
theorem dL_law_555 : decode cL_law 555 = .ok (.aload_n 2, 1) := bdL_law_550.2.2.2.1
theorem dL_law_556 : decode cL_law 556 = .ok (.aload_n 0, 1) := bdL_law_550.2.2.2.2.1
theorem dL_law_557 : decode cL_law 557 = .ok (.iload_n 3, 1) := bdL_law_550.2.2.2.2.2.1
theorem dL_law_558 : decode cL_law 558 = .ok (.iconst 1, 1) := bdL_law_550.2.2.2.2.2.2.1
theorem dL_law_559 : decode cL_law 559 = .ok (.iadd, 1) := bdL_law_550.2.2.2.2.2.2.2.1
theorem dL_law_560 : decode cL_law 560 = .ok (.iaload, 1) := bdL_law_550.2.2.2.2.2.2.2.2.1
theorem dL_law_561 : decode cL_law 561 = .ok (.aload_n 0, 1) := bdL_law_550.2.2.2.2.2.2.2.2.2.1
theorem dL_law_562 : decode cL_law 562 = .ok (.iload_n 3, 1) := bdL_law_550.2.2.2.2.2.2.2.2.2.2.1
theorem dL_law_563 : decode cL_law 563 = .ok (.iconst 2, 1) := bdL_law_550.2.2.2.2.2.2.2.2.2.2.2.1
theorem dL_law_564 : decode cL_law 564 = .ok (.iadd, 1) := bdL_law_550.2.2.2.2.2.2.2.2.2.2.2.2.1
theorem dL_law_565 : decode cL_law 565 = .ok (.iaload, 1) := bdL_law_550.2.2.2.2.2.2.2.2.2.2.2.2.2.1
theorem dL_law_566 : decode cL_law 566 = .ok (.invokevirtual 68, 3) := bdL_law_550.2.2.2.2.2.2.2.2.2.2.2.2.2.2.1
theorem dL_law_569 : decode cL_law 569 = .ok (.pop2, 1) := bdL_law_550.2.2.2.2.2.2.2.2.2.2.2.2.2.2.2
theorem bdL_law_570 : decode cL_law 570 = .ok (.goto 421, 3) ∧ decode cL_law 573 = .ok (.aload_n 1, 1) ∧ decode cL_law 574 = .ok (.aload_n 0, 1) ∧ decode cL_law 575 = .ok (.iload_n 3, 1) ∧ decode cL_law 576 = .ok (.iconst 1, 1) ∧ decode cL_law 577 = .ok (.iadd, 1) ∧ decode cL_law 578 = .ok (.iaload, 1) ∧ decode cL_law 579 = .ok (.aload_n 0, 1) ∧ decode cL_law 580 = .ok (.iload_n 3, 1) ∧ decode cL_law 581 = .ok (.iconst 2, 1) ∧ decode cL_law 582 = .ok (.iadd, 1) ∧ decode cL_law 583 = .ok (.iaload, 1) ∧ decode cL_law 584 = .ok (.invokevirtual 69, 3) ∧ decode cL_law 587 = .ok (.pop, 1) ∧ decode cL_law 588 = .ok (.aload_n 2, 1) ∧ decode cL_law 589 = .ok (.aload_n 0, 1) := by decide +kernel
theorem dL_law_570 : decode cL_law 570 = .ok (.goto 421, 3) := bdL_law_570.1
theorem dL_law_573 : decode cL_law 573 = .ok (.aload_n 1, 1) := bdL_law_570.2.1
theorem dL_law_574 : decode cL_law 574 = .ok (.aload_n 0, 1) := bdL_law_570.2.2.1
theorem dL_law_575 : decode cL_law 575 = .ok (.iload_n 3, 1) := bdL_law_570.2.2.2.1
theorem dL_law_576 : decode cL_law 576 = .ok (.iconst 1, 1) := bdL_law_570.2.2.2.2.1
theorem dL_law_577 : decode cL_law 577 = .ok (.iadd, 1) := bdL_law_570.2.2.2.2.2.1
theorem dL_law_578 : decode cL_law 578 = .ok (.iaload, 1) := bdL_law_570.2.2.2.2.2.2.1
theorem dL_law_579 : decode cL_law 579 = .ok (.aload_n 0, 1) := bdL_law_570.2.2.2.2.2.2.2.1
theorem dL_law_580 : decode cL_law 580 = .ok (.iload_n 3, 1) := bdL_law_570.2.2.2.2.2.2.2.2.1
theorem dL_law_581 : decode cL_law 581 = .ok (.iconst 2, 1) := bdL_law_570.2.2.2.2.2.2.2.2.2.1
theorem dL_law_582 : decode cL_law 582 = .ok (.iadd, 1) := bdL_law_570.2.2.2.2.2.2.2.2.2.2.1
theorem dL_law_583 : decode cL_law 583 = .ok (.iaload, 1) := bdL_law_570.2.2.2.2.2.2.2.2.2.2.2.1
theorem dL_law_584 : decode cL_law 584 = .ok (.invokevirtual 69, 3) := bdL_law_570.2.2.2.2.2.2.2.2.2.2.2.2.1
theorem dL_law_587 : decode cL_law 587 = .ok (.pop, 1) := bdL_law_570.2.2.2.2.2.2.2.2.2.2.2.2.2.1
theorem dL_law_588 : decode cL_law 588 = .ok (.aload_n 2, 1) := bdL_law_570.2.2.2.2.2.2.2.2.2.2.2.2.2.2.1
theorem dL_law_589 : decode cL_law 589 = .ok (.aload_n 0, 1) := bdL_law_570.2.2.2.2.2.2.2.2.2.2.2.2.2.2.2
theorem bdL_law_590 : decode cL_law 590 = .ok (.iload_n 3, 1) ∧ decode cL_law 591 = .ok (.iconst 1, 1) ∧ decode cL_law 592 = .ok (.iadd, 1) ∧ decode cL_law 593 = .ok (.iaload, 1) ∧ decode cL_law 594 = .ok (.aload_n 0, 1) ∧ decode cL_law 595 = .ok (.iload_n 3, 1) ∧ decode cL_law 596 = .ok (.iconst 2, 1) ∧ decode cL_law 597 = .ok (.iadd, 1) ∧ decode cL_law 598 = .ok (.iaload, 1) ∧ decode cL_law 599 = .ok (.invokevirtual 72, 3) ∧ decode cL_law 602 = .ok (.pop, 1) ∧ decode cL_law 603 = .ok (.goto 388, 3) ∧ decode cL_law 606 = .ok (.aload_n 1, 1) ∧ decode cL_law 607 = .ok (.aload_n 0, 1) ∧ decode cL_law 608 = .ok (.iload_n 3, 1) ∧ decode cL_law 609 = .ok (.iconst 1, 1) := by decide +kernel
theorem dL_law_590 : decode cL_law 590 = .ok (.iload_n 3, 1) := bdL_law_590.1
theorem dL_law_591 : decode cL_law 591 = .ok (.iconst 1, 1) := bdL_law_590.2.1
theorem dL_law_592 : decode cL_law 592 = .ok (.iadd, 1) := bdL_law_590.2.2.1
theorem dL_law_593 : decode cL_law 593 = .ok (.iaload, 1) := bdL_law_590.2.2.2.1
theorem dL_law_594 : decode cL_law 594 = .ok (.aload_n 0, 1) := bdL_law_590.2.2.2.2.1
theorem dL_law_595 : decode cL_law 595 = .ok (.iload_n 3, 1) := bdL_law_590.2.2.2.2.2.1
theorem dL_law_596 : decode cL_law 596 = .ok (.iconst 2, 1) := bdL_law_590.2.2.2.2.2.2.1
theorem dL_law_597 : decode cL_law 597 = .ok (.iadd, 1) := bdL_law_590.2.2.2.2.2.2.2.1
theorem dL_law_598 : decode cL_law 598 = .ok (.iaload, 1) := bdL_law_590.2.2.2.2.2.2.2.2.1
theorem dL_law_599 : decode cL_law 599 = .ok (.invokevirtual 72, 3) := bdL_law_590.2.2.2.2.2.2.2.2.2.1
theorem dL_law_602 : decode cL_law 602 = .ok (.pop, 1) := bdL_law_590.2.2.2.2.2.2.2.2.2.2.1
theorem dL_law_603 : decode cL_law 603 = .ok (.goto 388, 3) := bdL_law_590.2.2.2.2.2.2.2.2.2.2.2.1
theorem dL_law_606 : decode cL_law 606 = .ok (.aload_n 1, 1) := bdL_law_590.2.2.2.2.2.2.2.2.2.2.2.2.1
theorem dL_law_607 : decode cL_law 607 = .ok (.aload_n 0, 1) := bdL_law_590.2.2.2.2.2.2.2.2.2.2.2.2.2.1
theorem dL_law_608 : decode cL_law 608 = .ok (.iload_n 3, 1) := bdL_law_590.2.2.2.2.2.2.2.2.2.2.2.2.2.2.1
theorem dL_law_609 : decode cL_law 609 = .ok (.iconst 1, 1) := bdL_law_590.2.2.2.2.2.2.2.2.2.2.2.2.2.2.2
theorem bdL_law_610 : decode cL_law 610 = .ok (.iadd, 1) ∧ decode cL_law 611 = .ok (.iaload, 1) ∧ decode cL_law 612 = .ok (.invokevirtual 73, 3) ∧ decode cL_law 615 = .ok (.pop, 1) ∧ decode cL_law 616 = .ok (.aload_n 2, 1) ∧ decode cL_law 617 = .ok (.aload_n 0, 1) ∧ decode cL_law 618 = .ok (.iload_n 3, 1) ∧ decode cL_law 619 = .ok (.iconst 1, 1) ∧ decode cL_law 620 = .ok (.iadd, 1) ∧ decode cL_law 621 = .ok (.iaload, 1) ∧ decode cL_law 622 = .ok (.invokevirtual 76, 3) ∧ decode cL_law 625 = .ok (.pop, 1) ∧ decode cL_law 626 = .ok (.goto 365, 3) ∧ decode cL_law 629 = .ok (.aload_n 1, 1) ∧ decode cL_law 630 = .ok (.aload_n 0, 1) ∧ decode cL_law 631 = .ok (.iload_n 3, 1) := by decide +kernel
theorem dL_law_610 : decode cL_law 610 = .ok (.iadd, 1) := bdL_law_610.1
theorem dL_law_611 : decode cL_law 611 = .ok (.iaload, 1) := bdL_law_610.2.1
theorem dL_law_612 : decode cL_law 612 = .ok (.invokevirtual 73, 3) := bdL_law_610.2.2.1
theorem dL_law_615 : decode cL_law 615 = .ok (.pop, 1) := bdL_law_610.2.2.2.1
theorem dL_law_616 : decode cL_law 616 = .ok (.aload_n 2, 1) := bdL_law_610.2.2.2.2.1
theorem dL_law_617 : decode cL_law 617 = .ok (.aload_n 0, 1) := bdL_law_610.2.2.2.2.2.1
theorem dL_law_618 : decode cL_law 618 = .ok (.iload_n 3, 1) := bdL_law_610.2.2.2.2.2.2.1
theorem dL_law_619 : decode cL_law 619 = .ok (.iconst 1, 1) := bdL_law_610.2.2.2.2.2.2.2.1
theorem dL_law_620 : decode cL_law 620 = .ok (.iadd, 1) := bdL_law_610.2.2.2.2.2.2.2.2.1
theorem dL_law_621 : decode cL_law 621 = .ok (.iaload, 1) := bdL_law_610.2.2.2.2.2.2.2.2.2.1
theorem dL_law_622 : decode cL_law 622 = .ok (.invokevirtual 76, 3) := bdL_law_610.2.2.2.2.2.2.2.2.2.2.1
theorem dL_law_625 : decode cL_law 625 = .ok (.pop, 1) := bdL_law_610.2.2.2.2.2.2.2.2.2.2.2.1
theorem dL_law_626 : decode cL_law 626 = .ok (.goto 365, 3) := bdL_law_610.2.2.2.2.2.2.2.2.2.2.2.2.1
theorem dL_law_629 : decode cL_law 629 = .ok (.aload_n 1, 1) := bdL_law_610.2.2.2.2.2.2.2.2.2.2.2.2.2.1
theorem dL_law_630 : decode cL_law 630 = .ok (.aload_n 0, 1) := bdL_law_610.2.2.2.2.2.2.2.2.2.2.2.2.2.2.1
theorem dL_law_631 : decode cL_law 631 = .ok (.iload_n 3, 1) := bdL_law_610.2.2.2.2.2.2.2.2.2.2.2.2.2.2.2
theorem bdL_law_632 : decode cL_law 632 = .ok (.iconst 1, 1) ∧ decode cL_law 633 = .ok (.iadd, 1) ∧ decode cL_law 634 = .ok (.iaload, 1) ∧ decode cL_law 635 = .ok (.aload_n 0, 1) ∧ decode cL_law 636 = .ok (.iload_n 3, 1) ∧ decode cL_law 637 = .ok (.iconst 2, 1) ∧ decode cL_law 638 = .ok (.iadd, 1) ∧ decode cL_law 639 = .ok (.iaload, 1) ∧ decode cL_law 640 = .ok (.invokevirtual 77, 3) ∧ decode cL_law 643 = .ok (.pop, 1) ∧ decode cL_law 644 = .ok (.aload_n 2, 1) ∧ decode cL_law 645 = .ok (.aload_n 0, 1) ∧ decode cL_law 646 = .ok (.iload_n 3, 1) ∧ decode cL_law 647 = .ok (.iconst 1, 1) ∧ decode cL_law 648 = .ok (.iadd, 1) ∧ decode cL_law 649 = .ok (.iaload, 1) := by decide +kernel
theorem dL_law_632 : decode cL_law 632 = .ok (.iconst 1, 1) := bdL_law_632.1
theorem dL_law_633 : decode cL_law 633 = .ok (.iadd, 1) := bdL_law_632.2.1
theorem dL_law_634 : decode cL_law 634 = .ok (.iaload, 1) := bdL_law_632.2.2.1
theorem dL_law_635 : decode cL_law 635 = .ok (.aload_n 0, 1) := bdL_law_632.2.2.2.1
theorem dL_law_636 : decode cL_law 636 = .ok (.iload_n 3, 1) := bdL_law_632.2.2.2.2.1
theorem dL_law_637 : decode cL_law 637 = .ok (.iconst 2, 1) := bdL_law_632.2.2.2.2.2.1
theorem dL_law_638 : decode cL_law 638 = .ok (.iadd, 1) := bdL_law_632.2.2.2.2.2.2.1
theorem dL_law_639 : decode cL_law 639 = .ok (.iaload, 1) := bdL_law_632.2.2.2.2.2.2.2.1
theorem dL_law_640 : decode cL_law 640 = .ok (.invokevirtual 77, 3) := bdL_law_632.2.2.2.2.2.2.2.2.1
theorem dL_law_643 : decode cL_law 643 = .ok (.pop, 1) := bdL_law_632.2.2.2.2.2.2.2.2.2.1
theorem dL_law_644 : decode cL_law 644 = .ok (.aload_n 2, 1) := bdL_law_632.2.2.2.2.2.2.2.2.2.2.1
theorem dL_law_645 : decode cL_law 645 = .ok (.aload_n 0, 1) := bdL_law_632.2.2.2.2.2.2.2.2.2.2.2.1
theorem dL_law_646 : decode cL_law 646 = .ok (.iload_n 3, 1) := bdL_law_632.2.2.2.2.2.2.2.2.2.2.2.2.1
theorem dL_law_647 : decode cL_law 647 = .ok (.iconst 1, 1) := bdL_law_632.2.2.2.2.2.2.2.2.2.2.2.2.2.1
theorem dL_law_648 : decode cL_law 648 = .ok (.iadd, 1) := bdL_law_632.2.2.2.2.2.2.2.2.2.2.2.2.2.2.1
theorem dL_law_649 : decode cL_law 649 = .ok (.iaload, 1) := bdL_law_632.2.2.2.2.2.2.2.2.2.2.2.2.2.2.2
theorem bdL_law_650 : decode cL_law 650 = .ok (.aload_n 0, 1) ∧ decode cL_law 651 = .ok (.iload_n 3, 1) ∧ decode cL_law 652 = .ok (.iconst 2, 1) ∧ decode cL_law 653 = .ok (.iadd, 1) ∧ decode cL_law 654 = .ok (.iaload, 1) ∧ decode cL_law 655 = .ok (.invokevirtual 80, 3) ∧ decode cL_law 658 = .ok (.pop, 1) ∧ decode cL_law 659 = .ok (.goto 332, 3) ∧ decode cL_law 662 = .ok (.aload_n 1, 1) ∧ decode cL_law 663 = .ok (.aload_n 0, 1) ∧ decode cL_law 664 = .ok (.iload_n 3, 1) ∧ decode cL_law 665 = .ok (.iconst 1, 1) ∧ decode cL_law 666 = .ok (.iadd, 1) ∧ decode cL_law 667 = .ok (.iaload, 1) ∧ decode cL_law 668 = .ok (.invokevirtual 81, 3) ∧ decode cL_law 671 = .ok (.pop, 1) := by decide +kernel
theorem dL_law_650 : decode cL_law 650 = .ok (.aload_n 0, 1) := bdL_law_650.1
theorem dL_law_651 : decode cL_law 651 = .ok (.iload_n 3, 1) := bdL_law_650.2.1
theorem dL_law_652 : decode cL_law 652 = .ok (.iconst 2, 1) := bdL_law_650.2.2.1
theorem dL_law_653 : decode cL_law 653 = .ok (.iadd, 1) := bdL_law_650.2.2.2.1
theorem dL_law_654 : decode cL_law 654 = .ok (.iaload, 1) := bdL_law_650.2.2.2.2.1
theorem dL_law_655 : decode cL_law 655 = .ok (.invokevirtual 80, 3) := bdL_law_650.2.2.2.2.2.1
theorem dL_law_658 : decode cL_law 658 = .ok (.pop, 1) := bdL_law_650.2.2.2.2.2.2.1
theorem dL_law_659 : decode cL_law 659 = .ok (.goto 332, 3) := bdL_law_650.2.2.2.2.2.2.2.1
theorem dL_law_662 : decode cL_law 662 = .ok (.aload_n 1, 1) := bdL_law_650.2.2.2.2.2.2.2.2.1
theorem dL_law_663 : decode cL_law 663 = .ok (.aload_n 0, 1) := bdL_law_650.2.2.2.2.2.2.2.2.2.1
theorem dL_law_664 : decode cL_law 664 = .ok (.iload_n 3, 1) := bdL_law_650.2.2.2.2.2.2.2.2.2.2.1
theorem dL_law_665 : decode cL_law 665 = .ok (.iconst 1, 1) := bdL_law_650.2.2.2.2.2.2.2.2.2.2.2.1
theorem dL_law_666 : decode cL_law 666 = .ok (.iadd, 1) := bdL_law_650.2.2.2.2.2.2.2.2.2.2.2.2.1
theorem dL_law_667 : decode cL_law 667 = .ok (.iaload, 1) := bdL_law_650.2.2.2.2.2.2.2.2.2.2.2.2.2.1
theorem dL_law_668 : decode cL_law 668 = .ok (.invokevirtual 81, 3) := bdL_law_650.2.2.2.2.2.2.2.2.2.2.2.2.2.2.1
theorem dL_law_671 : decode cL_law 671 = .ok (.pop, 1) := bdL_law_650.2.2.2.2.2.2.2.2.2.2.2.2.2.2.2
theorem bdL_law_672 : decode cL_law 672 = .ok (.aload_n 2, 1) ∧ decode cL_law 673 = .ok (.aload_n 0, 1) ∧ decode cL_law 674 = .ok (.iload_n 3, 1) ∧ decode cL_law 675 = .ok (.iconst 1, 1) ∧ decode cL_law 676 = .ok (.iadd, 1) ∧ decode cL_law 677 = .ok (.iaload, 1) ∧ decode cL_law 678 = .ok (.invokevirtual 84, 3) ∧ decode cL_law 681 = .ok (.pop, 1) ∧ decode cL_law 682 = .ok (.goto 309, 3) ∧ decode cL_law 685 = .ok (.aload_n 1, 1) ∧ decode cL_law 686 = .ok (.aload_n 0, 1) ∧ decode cL_law 687 = .ok (.iload_n 3, 1) ∧ decode cL_law 688 = .ok (.iconst 1, 1) ∧ decode cL_law 689 = .ok (.iadd, 1) ∧ decode cL_law 690 = .ok (.iaload, 1) ∧ decode cL_law 691 = .ok (.aload_n 0, 1) := by decide +kernel
theorem dL_law_672 : decode cL_law 672 = .ok (.aload_n 2, 1) := bdL_law_672.1
theorem dL_law_673 : decode cL_law 673 = .ok (.aload_n 0, 1) := bdL_law_672.2.1
theorem dL_law_674 : decode cL_law 674 = .ok (.iload_n 3, 1) := bdL_law_672.2.2.1
theorem dL_law_675 : decode cL_law 675 = .ok (.iconst 1, 1) := bdL_law_672.2.2.2.1
theorem dL_law_676 : decode cL_law 676 = .ok (.iadd, 1) := bdL_law_672.2.2.2.2.1
theorem dL_law_677 : decode cL_law 677 = .ok (.iaload, 1) := bdL_law_672.2.2.2.2.2.1
theorem dL_law_678 : decode cL_law 678 = .ok (.invokevirtual 84, 3) := bdL_law_672.2.2.2.2.2.2.1
theorem dL_law_681 : decode cL_law 681 = .ok (.pop, 1) := bdL_law_672.2.2.2.2.2.2.2.1
theorem dL_law_682 : decode cL_law 682 = .ok (.goto 309, 3) := bdL_law_672.2.2.2.2.2.2.2.2.1
theorem dL_law_685 : decode cL_law 685 = .ok (.aload_n 1, 1) := bdL_law_672.2.2.2.2.2.2.2.2.2.1
theorem dL_law_686 : decode cL_law 686 = .ok (.aload_n 0, 1) := bdL_law_672.2.2.2.2.2.2.2.2.2.2.1
theorem dL_law_687 : decode cL_law 687 = .ok (.iload_n 3, 1) := bdL_law_672.2.2.2.2.2.2.2.2.2.2.2.1
theorem dL_law_688 : decode cL_law 688 = .ok (.iconst 1, 1) := bdL_law_672.2.2.2.2.2.2.2.2.2.2.2.2.1
theorem dL_law_689 : decode cL_law 689 = .ok (.iadd, 1) := bdL_law_672.2.2.2.2.2.2.2.2.2.2.2.2.2.1
theorem dL_law_690 : decode cL_law 690 = .ok (.iaload, 1) := bdL_law_672.2.2.2.2.2.2.2.2.2.2.2.2.2.2.1
theorem dL_law_691 : decode cL_law 691 = .ok (.aload_n 0, 1) := bdL_law_672.2.2.2.2.2.2.2.2.2.2.2.2.2.2.2
theorem bdL_law_692 : decode cL_law 692 = .ok (.iload_n 3, 1) ∧ decode cL_law 693 = .ok (.iconst 2, 1) ∧ decode cL_law 694 = .ok (.iadd, 1) ∧ decode cL_law 695 = .ok (.iaload, 1) ∧ decode cL_law 696 = .ok (.invokevirtual 85, 3) ∧ decode cL_law 699 = .ok (.pop, 1) ∧ decode cL_law 700 = .ok (.aload_n 2, 1) ∧ decode cL_law 701 = .ok (.aload_n 0, 1) ∧ decode cL_law 702 = .ok (.iload_n 3, 1) ∧ decode cL_law 703 = .ok (.iconst 1, 1) ∧ decode cL_law 704 = .ok (.iadd, 1) ∧ decode cL_law 705 = .ok (.iaload, 1) ∧ decode cL_law 706 = .ok (.aload_n 0, 1) ∧ decode cL_law 707 = .ok (.iload_n 3, 1) ∧ decode cL_law 708 = .ok (.iconst 2, 1) ∧ decode cL_law 709 = .ok (.iadd, 1) := by decide +kernel
theorem dL_law_692 : decode cL_law 692 = .ok (.iload_n 3, 1) := bdL_law_692.1
theorem dL_law_693 : decode cL_law 693 = .ok (.iconst 2, 1) := bdL_law_692.2.1
theorem dL_law_694 : decode cL_law 694 = .ok (.iadd, 1) := bdL_law_692.2.2.1
theorem dL_law_695 : decode cL_law 695 = .ok (.iaload, 1) := bdL_law_692.2.2.2.1
theorem dL_law_696 : decode cL_law 696 = .ok (.invokevirtual 85, 3) := bdL_law_692.2.2.2.2.1
theorem dL_law_699 : decode cL_law 699 = .ok (.pop, 1) := bdL_law_692.2.2.2.2.2.1
theorem dL_law_700 : decode cL_law 700 = .ok (.aload_n 2, 1) := bdL_law_692.2.2.2.2.2.2.1
theorem dL_law_701 : decode cL_law 701 = .ok (.aload_n 0, 1) := bdL_law_692.2.2.2.2.2.2.2.1
theorem dL_law_702 : decode cL_law 702 = .ok (.iload_n 3, 1) := bdL_law_692.2.2.2.2.2.2.2.2.1
theorem dL_law_703 : decode cL_law 703 = .ok (.iconst 1, 1) := bdL_law_692.2.2.2.2.2.2.2.2.2.1
theorem dL_law_704 : decode cL_law 704 = .ok (.iadd, 1) := bdL_law_692.2.2.2.2.2.2.2.2.2.2.1
theorem dL_law_705 : decode cL_law 705 = .ok (.iaload, 1) := bdL_law_692.2.2.2.2.2.2.2.2.2.2.2.1
theorem dL_law_706 : decode cL_law 706 = .ok (.aload_n 0, 1) := bdL_law_692.2.2.2.2.2.2.2.2.2.2.2.2.1
theorem dL_law_707 : decode cL_law 707 = .ok (.iload_n 3, 1) := bdL_law_692.2.2.2.2.2.2.2.2.2.2.2.2.2.1
theorem dL_law_708 : decode cL_law 708 = .ok (.iconst 2, 1) := bdL_law_692.2.2.2.2.2.2.2.2.2.2.2.2.2.2.1
theorem dL_law_709 : decode cL_law 709 = .ok (.iadd, 1) := bdL_law_692.2.2.2.2.2.2.2.2.2.2.2.2.2.2.2
theorem bdL_law_710 : decode cL_law 710 = .ok (.iaload, 1) ∧ decode cL_law 711 = .ok (.invokevirtual 88, 3) ∧ decode cL_law 714 = .ok (.pop, 1) ∧ decode cL_law 715 = .ok (.goto 276, 3) ∧ decode cL_law 718 = .ok (.aload_n 1, 1) ∧ decode cL_law 719 = .ok (.aload_n 0, 1) ∧ decode cL_law 720 = .ok (.iload_n 3, 1) ∧ decode cL_law 721 = .ok (.iconst 1, 1) ∧ decode cL_law 722 = .ok (.iadd, 1) ∧ decode cL_law 723 = .ok (.iaload, 1) ∧ decode cL_law 724 = .ok (.invokevirtual 89, 3) ∧ decode cL_law 727 = .ok (.pop, 1) ∧ decode cL_law 728 = .ok (.aload_n 2, 1) ∧ decode cL_law 729 = .ok (.aload_n 0, 1) ∧ decode cL_law 730 = .ok (.iload_n 3, 1) ∧ decode cL_law 731 = .ok (.iconst 1, 1) := by decide +kernel
theorem dL_law_710 : decode cL_law 710 = .ok (.iaload, 1) := bdL_law_710.1
theorem dL_law_711 : decode cL_law 711 = .ok (.invokevirtual 88, 3) := bdL_law_710.2.1
theorem dL_law_714 : decode cL_law 714 = .ok (.pop, 1) := bdL_law_710.2.2.1
theorem dL_law_715 : decode cL_law 715 = .ok (.goto 276, 3) := bdL_law_710.2.2.2.1
theorem dL_law_718 : decode cL_law 718 = .ok (.aload_n 1, 1) := bdL_law_710.2.2.2.2.1
theorem dL_law_719 : decode cL_law 719 = .ok (.aload_n 0, 1) := bdL_law_710.2.2.2.2.2.1
theorem dL_law_720 : decode cL_law 720 = .ok (.iload_n 3, 1) := bdL_law_710.2.2.2.2.2.2.1
theorem dL_law_721 : decode cL_law 721 = .ok (.iconst 1, 1) := bdL_law_710.2.2.2.2.2.2.2.1
theorem dL_law_722 : decode cL_law 722 = .ok (.iadd, 1) := bdL_law_710.2.2.2.2.2.2.2.2.1
theorem dL_law_723 : decode cL_law 723 = .ok (.iaload, 1) := bdL_law_710.2.2.2.2.2.2.2.2.2.1
theorem dL_law_724 : decode cL_law 724 = .ok (.invokevirtual 89, 3) := bdL_law_710.2.2.2.2.2.2.2.2.2.2.1
theorem dL_law_727 : decode cL_law 727 = .ok (.pop, 1) := bdL_law_710.2.2.2.2.2.2.2.2.2.2.2.1
theorem dL_law_728 : decode cL_law 728 = .ok (.aload_n 2, 1) := bdL_law_710.2.2.2.2.2.2.2.2.2.2.2.2.1
theorem dL_law_729 : decode cL_law 729 = .ok (.aload_n 0, 1) := bdL_law_710.2.2.2.2.2.2.2.2.2.2.2.2.2.1
theorem dL_law_730 : decode cL_law 730 = .ok (.iload_n 3, 1) := bdL_law_710.2.2.2.2.2.2.2.2.2.2.2.2.2.2.1
theorem dL_law_731 : decode cL_law 731 = .ok (.iconst 1, 1) := bdL_law_710.2.2.2.2.2.2.2.2.2.2.2.2.2.2.2
theorem bdL_law_732 : decode cL_law 732 = .ok (.iadd, 1) ∧ decode cL_law 733 = .ok (.iaload, 1) ∧ decode cL_law 734 = .ok (.invokevirtual 92, 3) ∧ decode cL_law 737 = .ok (.pop, 1) ∧ decode cL_law 738 = .ok (.goto 253, 3) ∧ decode cL_law 741 = .ok (.aload_n 1, 1) ∧ decode cL_law 742 = .ok (.aload_n 0, 1) ∧ decode cL_law 743 = .ok (.iload_n 3, 1) ∧ decode cL_law 744 = .ok (.iconst 1, 1) ∧ decode cL_law 745 = .ok (.iadd, 1) ∧ decode cL_law 746 = .ok (.iaload, 1) ∧ decode cL_law 747 = .ok (.aload_n 0, 1) ∧ decode cL_law 748 = .ok (.iload_n 3, 1) ∧ decode cL_law 749 = .ok (.iconst 2, 1) ∧ decode cL_law 750 = .ok (.iadd, 1) ∧ decode cL_law 751 = .ok (.iaload, 1) := by decide +kernel
theorem dL_law_732 : decode cL_law 732 = .ok (.iadd, 1) := bdL_law_732.1
theorem dL_law_733 : decode cL_law 733 = .ok (.iaload, 1) := bdL_law_732.2.1
theorem dL_law_734 : decode cL_law 734 = .ok (.invokevirtual 92, 3) := bdL_law_732.2.2.1
theorem dL_law_737 : decode cL_law 737 = .ok (.pop, 1) := bdL_law_732.2.2.2.1
theorem dL_law_738 : decode cL_law 738 = .ok (.goto 253, 3) := bdL_law_732.2.2.2.2.1
theorem dL_law_741 : decode cL_law 741 = .ok (.aload_n 1, 1) := bdL_law_732.2.2.2.2.2.1
theorem dL_law_742 : decode cL_law 742 = .ok (.aload_n 0, 1) := bdL_law_732.2.2.2.2.2.2.1
theorem dL_law_743 : decode cL_law 743 = .ok (.iload_n 3, 1) := bdL_law_732.2.2.2.2.2.2.2.1
theorem dL_law_744 : decode cL_law 744 = .ok (.iconst 1, 1) := bdL_law_732.2.2.2.2.2.2.2.2.1
theorem dL_law_745 : decode cL_law 745 = .ok (.iadd, 1) := bdL_law_732.2.2.2.2.2.2.2.2.2.1
theorem dL_law_746 : decode cL_law 746 = .ok (.iaload, 1) := bdL_law_732.2.2.2.2.2.2.2.2.2.2.1
theorem dL_law_747 : decode cL_law 747 = .ok (.aload_n 0, 1) := bdL_law_732.2.2.2.2.2.2.2.2.2.2.2.1
theorem dL_law_748 : decode cL_law 748 = .ok (.iload_n 3, 1) := bdL_law_732.2.2.2.2.2.2.2.2.2.2.2.2.1
theorem dL_law_749 : decode cL_law 749 = .ok (.iconst 2, 1) := bdL_law_732.2.2.2.2.2.2.2.2.2.2.2.2.2.1
theorem dL_law_750 : decode cL_law 750 = .ok (.iadd, 1) := bdL_law_732.2.2.2.2.2.2.2.2.2.2.2.2.2.2.1
theorem dL_law_751 : decode cL_law 751 = .ok (.iaload, 1) := bdL_law_732.2.2.2.2.2.2.2.2.2.2.2.2.2.2.2
theorem bdL_law_752 : decode cL_law 752 = .ok (.invokevirtual 93, 3) ∧ decode cL_law 755 = .ok (.pop, 1) ∧ decode cL_law 756 = .ok (.aload_n 2, 1) ∧ decode cL_law 757 = .ok (.aload_n 0, 1) ∧ decode cL_law 758 = .ok (.iload_n 3, 1) ∧ decode cL_law 759 = .ok (.iconst 1, 1) ∧ decode cL_law 760 = .ok (.iadd, 1) ∧ decode cL_law 761 = .ok (.iaload, 1) ∧ decode cL_law 762 = .ok (.aload_n 0, 1) ∧ decode cL_law 763 = .ok (.iload_n 3, 1) ∧ decode cL_law 764 = .ok (.iconst 2, 1) ∧ decode cL_law 765 = .ok (.iadd, 1) ∧ decode cL_law 766 = .ok (.iaload, 1) ∧ decode cL_law 767 = .ok (.invokevirtual 96, 3) ∧ decode cL_law 770 = .ok (.pop, 1) ∧ decode cL_law 771 = .ok (.goto 220, 3) := by decide +kernel
theorem dL_law_752 : decode cL_law 752 = .ok (.invokevirtual 93, 3) := bdL_law_752.1
theorem dL_law_755 : decode cL_law 755 = .ok (.pop, 1) := bdL_law_752.2.1
theorem dL_law_756 : decode cL_law 756 = .ok (.aload_n 2, 1) := bdL_law_752.2.2.1
theorem dL_law_757 : decode cL_law 757 = .ok (.aload_n 0, 1) := bdL_law_752.2.2.2.1
theorem dL_law_758 : decode cL_law 758 = .ok (.iload_n 3, 1) := bdL_law_752.2.2.2.2.1
theorem dL_law_759 : decode cL_law 759 = .ok (.iconst 1, 1) := bdL_law_752.2.2.2.2.2.1
theorem dL_law_760 : decode cL_law 760 = .ok (.iadd, 1) := bdL_law_752.2.2.2.2.2.2.1
theorem dL_law_761 : decode cL_law 761 = .ok (.iaload, 1) := bdL_law_752.2.2.2.2.2.2.2.1
theorem dL_law_762 : decode cL_law 762 = .ok (.aload_n 0, 1) := bdL_law_752.2.2.2.2.2.2.2.2.1
theorem dL_law_763 : decode cL_law 763 = .ok (.iload_n 3, 1) := bdL_law_752.2.2.2.2.2.2.2.2.2.1
theorem dL_law_764 : decode cL_law 764 = .ok (.iconst 2, 1) := bdL_law_752.2.2.2.2.2.2.2.2.2.2.1
theorem dL_law_765 : decode cL_law 765 = .ok (.iadd, 1) := bdL_law_752.2.2.2.2.2.2.2.2.2.2.2.1
theorem dL_law_766 : decode cL_law 766 = .ok (.iaload, 1) := bdL_law_752.2.2.2.2.2.2.2.2.2.2.2.2.1
theorem dL_law_767 : decode cL_law 767 = .ok (.invokevirtual 96, 3) := bdL_law_752.2.2.2.2.2.2.2.2.2.2.2.2.2.1
theorem dL_law_770 : decode cL_law 770 = .ok (.pop, 1) := bdL_law_752.2.2.2.2.2.2.2.2.2.2.2.2.2.2.1
theorem dL_law_771 : decode cL_law 771 = .ok (.goto 220, 3) := bdL_law_752.2.2.2.2.2.2.2.2.2.2.2.2.2.2.2
theorem bdL_law_774 : decode cL_law 774 = .ok (.aload_n 1, 1) ∧ decode cL_law 775 = .ok (.aload_n 0, 1) ∧ decode cL_law 776 = .ok (.iload_n 3, 1) ∧ decode cL_law 777 = .ok (.iconst 1, 1) ∧ decode cL_law 778 = .ok (.iadd, 1) ∧ decode cL_law 779 = .ok (.iaload, 1) ∧ decode cL_law 780 = .ok (.aload_n 0, 1) ∧ decode cL_law 781 = .ok (.iload_n 3, 1) ∧ decode cL_law 782 = .ok (.iconst 2, 1) ∧ decode cL_law 783 = .ok (.iadd, 1) ∧ decode cL_law 784 = .ok (.iaload, 1) ∧ decode cL_law 785 = .ok (.invokevirtual 97, 3) ∧ decode cL_law 788 = .ok (.pop, 1) ∧ decode cL_law 789 = .ok (.aload_n 2, 1) ∧ decode cL_law 790 = .ok (.aload_n 0, 1) ∧ decode cL_law 791 = .ok (.iload_n 3, 1) := by decide +kernel
theorem dL_law_774 : decode cL_law 774 = .ok (.aload_n 1, 1) := bdL_law_774.1
theorem dL_law_775 : decode cL_law 775 = .ok (.aload_n 0, 1) := bdL_law_774.2.1
theorem dL_law_776 : decode cL_law 776 = .ok (.iload_n 3, 1) := bdL_law_774.2.2.1
theorem dL_law_777 : decode cL_law 777 = .ok (.iconst 1, 1) := bdL_law_774.2.2.2.1
theorem dL_law_778 : decode cL_law 778 = .ok (.iadd, 1) := bdL_law_774.2.2.2.2.1
theorem dL_law_779 : decode cL_law 779 = .ok (.iaload, 1) := bdL_law_774.2.2.2.2.2.1
theorem dL_law_780 : decode cL_law 780 = .ok (.aload_n 0, 1) := bdL_law_774.2.2.2.2.2.2.1
theorem dL_law_781 : decode cL_law 781 = .ok (.iload_n 3, 1) := bdL_law_774.2.2.2.2.2.2.2.1
theorem dL_law_782 : decode cL_law 782 = .ok (.iconst 2, 1) := bdL_law_774.2.2.2.2.2.2.2.2.1
theorem dL_law_783 : decode cL_law 783 = .ok (.iadd, 1) := bdL_law_774.2.2.2.2.2.2.2.2.2.1
theorem dL_law_784 : decode cL_law 784 = .ok (.iaload, 1) := bdL_law_774.2.2.2.2.2.2.2.2.2.2.1
theorem dL_law_785 : decode cL_law 785 = .ok (.invokevirtual 97, 3) := bdL_law_774.2.2.2.2.2.2.2.2.2.2.2.1
theorem dL_law_788 : decode cL_law 788 = .ok (.pop, 1) := bdL_law_774.2.2.2.2.2.2.2.2.2.2.2.2.1
theorem dL_law_789 : decode cL_law 789 = .ok (.aload_n 2, 1) := bdL_law_774.2.2.2.2.2.2.2.2.2.2.2.2.2.1
theorem dL_law_790 : decode cL_law 790 = .ok (.aload_n 0, 1) := bdL_law_774.2.2.2.2.2.2.2.2.2.2.2.2.2.2.1
theorem dL_law_791 : decode cL_law 791 = .ok (.iload_n 3, 1) := bdL_law_774.2.2.2.2.2.2.2.2.2.2.2.2.2.2.2
theorem bdL_law_792 : decode cL_law 792 = .ok (.iconst 1, 1) ∧ decode cL_law 793 = .ok (.iadd, 1) ∧ decode cL_law 794 = .ok (.iaload, 1) ∧ decode cL_law 795 = .ok (.aload_n 0, 1) ∧ decode cL_law 796 = .ok (.iload_n 3, 1) ∧ decode cL_law 797 = .ok (.iconst 2, 1) ∧ decode cL_law 798 = .ok (.iadd, 1) ∧ decode cL_law 799 = .ok (.iaload, 1) ∧ decode cL_law 800 = .ok (.invokevirtual 100, 3) ∧ decode cL_law 803 = .ok (.pop, 1) ∧ decode cL_law 804 = .ok (.goto 187, 3) ∧ decode cL_law 807 = .ok (.aload_n 1, 1) ∧ decode cL_law 808 = .ok (.aload_n 0, 1) ∧ decode cL_law 809 = .ok (.iload_n 3, 1) ∧ decode cL_law 810 = .ok (.iconst 1, 1) ∧ decode cL_law 811 = .ok (.iadd, 1) := by decide +kernel
theorem dL_law_792 : decode cL_law 792 = .ok (.iconst 1, 1) := bdL_law_792.1
theorem dL_law_793 : decode cL_law 793 = .ok (.iadd, 1) := bdL_law_792.2.1
theorem dL_law_794 : decode cL_law 794 = .ok (.iaload, 1) := bdL_law_792.2.2.1
theorem dL_law_795 : decode cL_law 795 = .ok (.aload_n 0, 1) := bdL_law_792.2.2.2.1
theorem dL_law_796 : decode cL_law 796 = .ok (.iload_n 3, 1) := bdL_law_792.2.2.2.2.1
theorem dL_law_797 : decode cL_law 797 = .ok (.iconst 2, 1) := bdL_law_792.2.2.2.2.2.1
theorem dL_law_798 : decode cL_law 798 = .ok (.iadd, 1) := bdL_law_792.2.2.2.2.2.2.1
theorem dL_law_799 : decode cL_law 799 = .ok (.iaload, 1) := bdL_law_792.2.2.2.2.2.2.2.1
theorem dL_law_800 : decode cL_law 800 = .ok (.invokevirtual 100, 3) := bdL_law_792.2.2.2.2.2.2.2.2.1
theorem dL_law_803 : decode cL_law 803 = .ok (.pop, 1) := bdL_law_792.2.2.2.2.2.2.2.2.2.1
theorem dL_law_804 : decode cL_law 804 = .ok (.goto 187, 3) := bdL_law_792.2.2.2.2.2.2.2.2.2.2.1
theorem dL_law_807 : decode cL_law 807 = .ok (.aload_n 1, 1) := bdL_law_792.2.2.2.2.2.2.2.2.2.2.2.1
theorem dL_law_808 : decode cL_law 808 = .ok (.aload_n 0, 1) := bdL_law_792.2.2.2.2.2.2.2.2.2.2.2.2.1
theorem dL_law_809 : decode cL_law 809 = .ok (.iload_n 3, 1) := bdL_law_792.2.2.2.2.2.2.2.2.2.2.2.2.2.1
theorem dL_law_810 : decode cL_law 810 = .ok (.iconst 1, 1) := bdL_law_792.2.2.2.2.2.2.2.2.2.2.2.2.2.2.1
theorem dL_law_811 : decode cL_law 811 = .ok (.iadd, 1) := bdL_law_792.2.2.2.2.2.2.2.2.2.2.2.2.2.2.2
theorem bdL_law_812 : decode cL_law 812 = .ok (.iaload, 1) ∧ decode cL_law 813 = .ok (.aload_n 0, 1) ∧ decode cL_law 814 = .ok (.iload_n 3, 1) ∧ decode cL_law 815 = .ok (.iconst 2, 1) ∧ decode cL_law 816 = .ok (.iadd, 1) ∧ decode cL_law 817 = .ok (.iaload, 1) ∧ decode cL_law 818 = .ok (.invokevirtual 101, 3) ∧ decode cL_law 821 = .ok (.pop, 1) ∧ decode cL_law 822 = .ok (.aload_n 2, 1) ∧ decode cL_law 823 = .ok (.aload_n 0, 1) ∧ decode cL_law 824 = .ok (.iload_n 3, 1) ∧ decode cL_law 825 = .ok (.iconst 1, 1) ∧ decode cL_law 826 = .ok (.iadd, 1) ∧ decode cL_law 827 = .ok (.iaload, 1) ∧ decode cL_law 828 = .ok (.aload_n 0, 1) ∧ decode cL_law 829 = .ok (.iload_n 3, 1) := by decide +kernel
theorem dL_law_812 : decode cL_law 812 = .ok (.iaload, 1) := bdL_law_812.1
theorem dL_law_813 : decode cL_law 813 = .ok (.aload_n 0, 1) := bdL_law_812.2.1
theorem dL_law_814 : decode cL_law 814 = .ok (.iload_n 3, 1) := bdL_law_812.2.2.1
theorem dL_law_815 : decode cL_law 815 = .ok (.iconst 2, 1) := bdL_law_812.2.2.2.1
theorem dL_law_816 : decode cL_law 816 = .ok (.iadd, 1) := bdL_law_812.2.2.2.2.1
theorem dL_law_817 : decode cL_law 817 = .ok (.iaload, 1) := bdL_law_812.2.2.2.2.2.1
theorem dL_law_818 : decode cL_law 818 = .ok (.invokevirtual 101, 3) := bdL_law_812.2.2.2.2.2.2.1
theorem dL_law_821 : decode cL_law 821 = .ok (.pop, 1) := bdL_law_812.2.2.2.2.2.2.2.1
theorem dL_law_822 : decode cL_law 822 = .ok (.aload_n 2, 1) := bdL_law_812.2.2.2.2.2.2.2.2.1
theorem dL_law_823 : decode cL_law 823 = .ok (.aload_n 0, 1) := bdL_law_812.2.2.2.2.2.2.2.2.2.1
theorem dL_law_824 : decode cL_law 824 = .ok (.iload_n 3, 1) := bdL_law_812.2.2.2.2.2.2.2.2.2.2.1
theorem dL_law_825 : decode cL_law 825 = .ok (.iconst 1, 1) := bdL_law_812.2.2.2.2.2.2.2.2.2.2.2.1
theorem dL_law_826 : decode cL_law 826 = .ok (.iadd, 1) := bdL_law_812.2.2.2.2.2.2.2.2.2.2.2.2.1
theorem dL_law_827 : decode cL_law 827 = .ok (.iaload, 1) := bdL_law_812.2.2.2.2.2.2.2.2.2.2.2.2.2.1
theorem dL_law_828 : decode cL_law 828 = .ok (.aload_n 0, 1) := bdL_law_812.2.2.2.2.2.2.2.2.2.2.2.2.2.2.1
theorem dL_law_829 : decode cL_law 829 = .ok (.iload_n 3, 1) := bdL_law_812.2.2.2.2.2.2.2.2.2.2.2.2.2.2.2
theorem bdL_law_830 : decode cL_law 830 = .ok (.iconst 2, 1) ∧ decode cL_law 831 = .ok (.iadd, 1) ∧ decode cL_law 832 = .ok (.iaload, 1) ∧ decode cL_law 833 = .ok (.invokevirtual 104, 3) ∧ decode cL_law 836 = .ok (.pop, 1) ∧ decode cL_law 837 = .ok (.goto 154, 3) ∧ decode cL_law 840 = .ok (.aload_n 1, 1) ∧ decode cL_law 841 = .ok (.aload_n 0, 1) ∧ decode cL_law 842 = .ok (.iload_n 3, 1) ∧ decode cL_law 843 = .ok (.iconst 1, 1) ∧ decode cL_law 844 = .ok (.iadd, 1) ∧ decode cL_law 845 = .ok (.iaload, 1) ∧ decode cL_law 846 = .ok (.i2l, 1) ∧ decode cL_law 847 = .ok (.bipush 32, 2) ∧ decode cL_law 849 = .ok (.lshl, 1) ∧ decode cL_law 850 = .ok (.aload_n 0, 1) := by decide +kernel
theorem dL_law_830 : decode cL_law 830 = .ok (.iconst 2, 1) := bdL_law_830.1
theorem dL_law_831 : decode cL_law 831 = .ok (.iadd, 1) := bdL_law_830.2.1
theorem dL_law_832 : decode cL_law 832 = .ok (.iaload, 1) := bdL_law_830.2.2.1
theorem dL_law_833 : decode cL_law 833 = .ok (.invokevirtual 104, 3) := bdL_law_830.2.2.2.1
theorem dL_law_836 : decode cL_law 836 = .ok (.pop, 1) := bdL_law_830.2.2.2.2.1
theorem dL_law_837 : decode cL_law 837 = .ok (.goto 154, 3) := bdL_law_830.2.2.2.2.2.1
theorem dL_law_840 : decode cL_law 840 = .ok (.aload_n 1, 1) := bdL_law_830.2.2.2.2.2.2.1
theorem dL_law_841 : decode cL_law 841 = .ok (.aload_n 0, 1) := bdL_law_830.2.2.2.2.2.2.2.1
theorem dL_law_842 : decode cL_law 842 = .ok (.iload_n 3, 1) := bdL_law_830.2.2.2.2.2.2.2.2.1
theorem dL_law_843 : decode cL_law 843 = .ok (.iconst 1, 1) := bdL_law_830.2.2.2.2.2.2.2.2.2.1
theorem dL_law_844 : decode cL_law 844 = .ok (.iadd, 1) := bdL_law_830.2.2.2.2.2.2.2.2.2.2.1
theorem dL_law_845 : decode cL_law 845 = .ok (.iaload, 1) := bdL_law_830.2.2.2.2.2.2.2.2.2.2.2.1
theorem dL_law_846 : decode cL_law 846 = .ok (.i2l, 1) := bdL_law_830.2.2.2.2.2.2.2.2.2.2.2.2.1
theorem dL_law_847 : decode cL_law 847 = .ok (.bipush 32, 2) := bdL_law_830.2.2.2.2.2.2.2.2.2.2.2.2.2.1
theorem dL_law_849 : decode cL_law 849 = .ok (.lshl, 1) := bdL_law_830.2.2.2.2.2.2.2.2.2.2.2.2.2.2.1
theorem dL_law_850 : decode cL_law 850 = .ok (.aload_n 0, 1) := bdL_law_830.2.2.2.2.2.2.2.2.2.2.2.2.2.2.2
theorem bdL_law_851 : decode cL_law 851 = .ok (.iload_n 3, 1) ∧ decode cL_law 852 = .ok (.iconst 2, 1) ∧ decode cL_law 853 = .ok (.iadd, 1) ∧ decode cL_law 854 = .ok (.iaload, 1) ∧ decode cL_law 855 = .ok (.i2l, 1) ∧ decode cL_law 856 = .ok (.ldc2_w 105, 3) ∧ decode cL_law 859 = .ok (.land, 1) ∧ decode cL_law 860 = .ok (.lor, 1) ∧ decode cL_law 861 = .ok (.invokevirtual 107, 3) ∧ decode cL_law 864 = .ok (.pop, 1) ∧ decode cL_law 865 = .ok (.aload_n 2, 1) ∧ decode cL_law 866 = .ok (.aload_n 0, 1) ∧ decode cL_law 867 = .ok (.iload_n 3, 1) ∧ decode cL_law 868 = .ok (.iconst 1, 1) ∧ decode cL_law 869 = .ok (.iadd, 1) ∧ decode cL_law 870 = .ok (.iaload, 1) := by decide +kernel
theorem dL_law_851 : decode cL_law 851 = .ok (.iload_n 3, 1) := bdL_law_851.1
theorem dL_law_852 : decode cL_law 852 = .ok (.iconst 2, 1) := bdL_law_851.2.1
theorem dL_law_853 : decode cL_law 853 = .ok (.iadd, 1) := bdL_law_851.2.2.1
theorem dL_law_854 : decode cL_law 854 = .ok (.iaload, 1) := bdL_law_851.2.2.2.1
theorem dL_law_855 : decode cL_law 855 = .ok (.i2l, 1) := bdL_law_851.2.2.2.2.1
theorem dL_law_856 : decode cL_law 856 = .ok (.ldc2_w 105, 3) := bdL_law_851.2.2.2.2.2.1
theorem dL_law_859 : decode cL_law 859 = .ok (.land, 1) := bdL_law_851.2.2.2.2.2.2.1
theorem dL_law_860 : decode cL_law 860 = .ok (.lor, 1) := bdL_law_851.2.2.2.2.2.2.2.1
theorem dL_law_861 : decode cL_law 861 = .ok (.invokevirtual 107, 3) := bdL_law_851.2.2.2.2.2.2.2.2.1
theorem dL_law_864 : decode cL_law 864 = .ok (.pop, 1) := bdL_law_851.2.2.2.2.2.2.2.2.2.1
theorem dL_law_865 : decode cL_law 865 = .ok (.aload_n 2, 1) := bdL_law_851.2.2.2.2.2.2.2.2.2.2.1
theorem dL_law_866 : decode cL_law 866 = .ok (.aload_n 0, 1) := bdL_law_851.2.2.2.2.2.2.2.2.2.2.2.1
theorem dL_law_867 : decode cL_law 867 = .ok (.iload_n 3, 1) := bdL_law_851.2.2.2.2.2.2.2.2.2.2.2.2.1
theorem dL_law_868 : decode cL_law 868 = .ok (.iconst 1, 1) := bdL_law_851.2.2.2.2.2.2.2.2.2.2.2.2.2.1
theorem dL_law_869 : decode cL_law 869 = .ok (.iadd, 1) := bdL_law_851.2.2.2.2.2.2.2.2.2.2.2.2.2.2.1
theorem dL_law_870 : decode cL_law 870 = .ok (.iaload, 1) := bdL_law_851.2.2.2.2.2.2.2.2.2.2.2.2.2.2.2
theorem bdL_law_871 : decode cL_law 871 = .ok (.i2l, 1) ∧ decode cL_law 872 = .ok (.bipush 32, 2) ∧ decode cL_law 874 = .ok (.lshl, 1) ∧ decode cL_law 875 = .ok (.aload_n 0, 1) ∧ decode cL_law 876 = .ok (.iload_n 3, 1) ∧ decode cL_law 877 = .ok (.iconst 2, 1) ∧ decode cL_law 878 = .ok (.iadd, 1) ∧ decode cL_law 879 = .ok (.iaload, 1) ∧ decode cL_law 880 = .ok (.i2l, 1) ∧ decode cL_law 881 = .ok (.ldc2_w 105, 3) ∧ decode cL_law 884 = .ok (.land, 1) ∧ decode cL_law 885 = .ok (.lor, 1) ∧ decode cL_law 886 = .ok (.invokevirtual 111, 3) ∧ decode cL_law 889 = .ok (.pop, 1) ∧ decode cL_law 890 = .ok (.goto 101, 3) ∧ decode cL_law 893 = .ok (.aload_n 1, 1) := by decide +kernel
theorem dL_law_871 : decode cL_law 871 = .ok (.i2l, 1) := bdL_law_871.1
theorem dL_law_872 : decode cL_law 872 = .ok (.bipush 32, 2) := bdL_law_871.2.1
theorem dL_law_874 : decode cL_law 874 = .ok (.lshl, 1) := bdL_law_871.2.2.1
theorem dL_law_875 : decode cL_law 875 = .ok (.aload_n 0, 1) := bdL_law_871.2.2.2.1
theorem dL_law_876 : decode cL_law 876 = .ok (.iload_n 3, 1) := bdL_law_871.2.2.2.2.1
theorem dL_law_877 : decode cL_law 877 = .ok (.iconst 2, 1) := bdL_law_871.2.2.2.2.2.1
theorem dL_law_878 : decode cL_law 878 = .ok (.iadd, 1) := bdL_law_871.2.2.2.2.2.2.1
theorem dL_law_879 : decode cL_law 879 = .ok (.iaload, 1) := bdL_law_871.2.2.2.2.2.2.2.1
theorem dL_law_880 : decode cL_law 880 = .ok (.i2l, 1) := bdL_law_871.2.2.2.2.2.2.2.2.1
theorem dL_law_881 : decode cL_law 881 = .ok (.ldc2_w 105, 3) := bdL_law_871.2.2.2.2.2.2.2.2.2.1
theorem dL_law_884 : decode cL_law 884 = .ok (.land, 1) := bdL_law_871.2.2.2.2.2.2.2.2.2.2.1
theorem dL_law_885 : decode cL_law 885 = .ok (.lor, 1) := bdL_law_871.2.2.2.2.2.2.2.2.2.2.2.1
theorem dL_law_886 : decode cL_law 886 = .ok (.invokevirtual 111, 3) := bdL_law_871.2.2.2.2.2.2.2.2.2.2.2.2.1
theorem dL_law_889 : decode cL_law 889 = .ok (.pop, 1) := bdL_law_871.2.2.2.2.2.2.2.2.2.2.2.2.2.1
theorem dL_law_890 : decode cL_law 890 = .ok (.goto 101, 3) := bdL_law_871.2.2.2.2.2.2.2.2.2.2.2.2.2.2.1
theorem dL_law_893 : decode cL_law 893 = .ok (.aload_n 1, 1) := bdL_law_871.2.2.2.2.2.2.2.2.2.2.2.2.2.2.2
theorem bdL_law_894 : decode cL_law 894 = .ok (.invokevirtual 112, 3) ∧ decode cL_law 897 = .ok (.pop, 1) ∧ decode cL_law 898 = .ok (.aload_n 2, 1) ∧ decode cL_law 899 = .ok (.invokevirtual 116, 3) ∧ decode cL_law 902 = .ok (.pop, 1) ∧ decode cL_law 903 = .ok (.goto 88, 3) ∧ decode cL_law 906 = .ok (.aload_n 1, 1) ∧ decode cL_law 907 = .ok (.invokevirtual 117, 3) ∧ decode cL_law 910 = .ok (.pop, 1) ∧ decode cL_law 911 = .ok (.aload_n 2, 1) ∧ decode cL_law 912 = .ok (.invokevirtual 120, 3) ∧ decode cL_law 915 = .ok (.pop, 1) ∧ decode cL_law 916 = .ok (.goto 75, 3) ∧ decode cL_law 919 = .ok (.aload_n 1, 1) ∧ decode cL_law 920 = .ok (.invokevirtual 121, 3) ∧ decode cL_law 923 = .ok (.pop, 1) := by decide +kernel
theorem dL_law_894 : decode cL_law 894 = .ok (.invokevirtual 112, 3) := bdL_law_894.1
theorem dL_law_897 : decode cL_law 897 = .ok (.pop, 1) := bdL_law_894.2.1
theorem dL_law_898 : decode cL_law 898 = .ok (.aload_n 2, 1) := bdL_law_894.2.2.1
theorem dL_law_899 : decode cL_law 899 = .ok (.invokevirtual 116, 3) := bdL_law_894.2.2.2.1
theorem dL_law_902 : decode cL_law 902 = .ok (.pop, 1) := bdL_law_894.2.2.2.2.1
theorem dL_law_903 : decode cL_law 903 = .ok (.goto 88, 3) := bdL_law_894.2.2.2.2.2.1
theorem dL_law_906 : decode cL_law 906 = .ok (.aload_n 1, 1) := bdL_law_894.2.2.2.2.2.2.1
theorem dL_law_907 : decode cL_law 907 = .ok (.invokevirtual 117, 3) := bdL_law_894.2.2.2.2.2.2.2.1
theorem dL_law_910 : decode cL_law 910 = .ok (.pop, 1) := bdL_law_894.2.2.2.2.2.2.2.2.1
theorem dL_law_911 : decode cL_law 911 = .ok (.aload_n 2, 1) := bdL_law_894.2.2.2.2.2.2.2.2.2.1
theorem dL_law_912 : decode cL_law 912 = .ok (.invokevirtual 120, 3) := bdL_law_894.2.2.2.2.2.2.2.2.2.2.1
theorem dL_law_915 : decode cL_law 915 = .ok (.pop, 1) := bdL_law_894.2.2.2.2.2.2.2.2.2.2.2.1
theorem dL_law_916 : decode cL_law 916 = .ok (.goto 75, 3) := bdL_law_894.2.2.2.2.2.2.2.2.2.2.2.2.1
theorem dL_law_919 : decode cL_law 919 = .ok (.aload_n 1, 1) := bdL_law_894.2.2.2.2.2.2.2.2.2.2.2.2.2.1
theorem dL_law_920 : decode cL_law 920 = .ok (.invokevirtual 121, 3) := bdL_law_894.2.2.2.2.2.2.2.2.2.2.2.2.2.2.1
theorem dL_law_923 : decode cL_law 923 = .ok (.pop, 1) := bdL_law_894.2.2.2.2.2.2.2.2.2.2.2.2.2.2.2
theorem bdL_law_924 : decode cL_law 924 = .ok (.aload_n 2, 1) ∧ decode cL_law 925 = .ok (.invokevirtual 124, 3) ∧ decode cL_law 928 = .ok (.pop, 1) ∧ decode cL_law 929 = .ok (.goto 62, 3) ∧ decode cL_law 932 = .ok (.aload_n 1, 1) ∧ decode cL_law 933 = .ok (.invokevirtual 125, 3) ∧ decode cL_law 936 = .ok (.pop, 1) ∧ decode cL_law 937 = .ok (.aload_n 2, 1) ∧ decode cL_law 938 = .ok (.invokevirtual 128, 3) ∧ decode cL_law 941 = .ok (.pop, 1) ∧ decode cL_law 942 = .ok (.goto 49, 3) ∧ decode cL_law 945 = .ok (.aload_n 1, 1) ∧ decode cL_law 946 = .ok (.aload_n 0, 1) ∧ decode cL_law 947 = .ok (.iload_n 3, 1) ∧ decode cL_law 948 = .ok (.iconst 1, 1) ∧ decode cL_law 949 = .ok (.iadd, 1) := by decide +kernel
theorem dL_law_924 : decode cL_law 924 = .ok (.aload_n 2, 1) := bdL_law_924.1
theorem dL_law_925 : decode cL_law 925 = .ok (.invokevirtual 124, 3) := bdL_law_924.2.1
theorem dL_law_928 : decode cL_law 928 = .ok (.pop, 1) := bdL_law_924.2.2.1
theorem dL_law_929 : decode cL_law 929 = .ok (.goto 62, 3) := bdL_law_924.2.2.2.1
theorem dL_law_932 : decode cL_law 932 = .ok (.aload_n 1, 1) := bdL_law_924.2.2.2.2.1
theorem dL_law_933 : decode cL_law 933 = .ok (.invokevirtual 125, 3) := bdL_law_924.2.2.2.2.2.1
theorem dL_law_936 : decode cL_law 936 = .ok (.pop, 1) := bdL_law_924.2.2.2.2.2.2.1
theorem dL_law_937 : decode cL_law 937 = .ok (.aload_n 2, 1) := bdL_law_924.2.2.2.2.2.2.2.1
theorem dL_law_938 : decode cL_law 938 = .ok (.invokevirtual 128, 3) := bdL_law_924.2.2.2.2.2.2.2.2.1
theorem dL_law_941 : decode cL_law 941 = .ok (.pop, 1) := bdL_law_924.2.2.2.2.2.2.2.2.2.1
theorem dL_law_942 : decode cL_law 942 = .ok (.goto 49, 3) := bdL_law_924.2.2.2.2.2.2.2.2.2.2.1
theorem dL_law_945 : decode cL_law 945 = .ok (.aload_n 1, 1) := bdL_law_924.2.2.2.2.2.2.2.2.2.2.2.1
theorem dL_law_946 : decode cL_law 946 = .ok (.aload_n 0, 1) := bdL_law_924.2.2.2.2.2.2.2.2.2.2.2.2.1
theorem dL_law_947 : decode cL_law 947 = .ok (.iload_n 3, 1) := bdL_law_924.2.2.2.2.2.2.2.2.2.2.2.2.2.1
theorem dL_law_948 : decode cL_law 948 = .ok (.iconst 1, 1) := bdL_law_924.2.2.2.2.2.2.2.2.2.2.2.2.2.2.1
theorem dL_law_949 : decode cL_law 949 = .ok (.iadd, 1) := bdL_law_924.2.2.2.2.2.2.2.2.2.2.2.2.2.2.2
theorem bdL_law_950 : decode cL_law 950 = .ok (.iaload, 1) ∧ decode cL_law 951 = .ok (.invokevirtual 129, 3) ∧ decode cL_law 954 = .ok (.pop, 1) ∧ decode cL_law 955 = .ok (.aload_n 2, 1) ∧ decode cL_law 956 = .ok (.aload_n 0, 1) ∧ decode cL_law 957 = .ok (.iload_n 3, 1) ∧ decode cL_law 958 = .ok (.iconst 1, 1) ∧ decode cL_law 959 = .ok (.iadd, 1) ∧ decode cL_law 960 = .ok (.iaload, 1) ∧ decode cL_law 961 = .ok (.invokevirtual 132, 3) ∧ decode cL_law 964 = .ok (.pop, 1) ∧ decode cL_law 965 = .ok (.goto 26, 3) ∧ decode cL_law 968 = .ok (.aload_n 1, 1) ∧ decode cL_law 969 = .ok (.aload_n 0, 1) ∧ decode cL_law 970 = .ok (.iload_n 3, 1) ∧ decode cL_law 971 = .ok (.iconst 1, 1) := by decide +kernel
theorem dL_law_950 : decode cL_law 950 = .ok (.iaload, 1) := bdL_law_950.1
theorem dL_law_951 : decode cL_law 951 = .ok (.invokevirtual 129, 3) := bdL_law_950.2.1
theorem dL_law_954 : decode cL_law 954 = .ok (.pop, 1) := bdL_law_950.2.2.1
theorem dL_law_955 : decode cL_law 955 = .ok (.aload_n 2, 1) := bdL_law_950.2.2.2.1
theorem dL_law_956 : decode cL_law 956 = .ok (.aload_n 0, 1) := bdL_law_950.2.2.2.2.1
theorem dL_law_957 : decode cL_law 957 = .ok (.iload_n 3, 1) := bdL_law_950.2.2.2.2.2.1
theorem dL_law_958 : decode cL_law 958 = .ok (.iconst 1, 1) := bdL_law_950.2.2.2.2.2.2.1
theorem dL_law_959 : decode cL_law 959 = .ok (.iadd, 1) := bdL_law_950.2.2.2.2.2.2.2.1
theorem dL_law_960 : decode cL_law 960 = .ok (.iaload, 1) := bdL_law_950.2.2.2.2.2.2.2.2.1
theorem dL_law_961 : decode cL_law 961 = .ok (.invokevirtual 132, 3) := bdL_law_950.2.2.2.2.2.2.2.2.2.1
theorem dL_law_964 : decode cL_law 964 = .ok (.pop, 1) := bdL_law_950.2.2.2.2.2.2.2.2.2.2.1
theorem dL_law_965 : decode cL_law 965 = .ok (.goto 26, 3) := bdL_law_950.2.2.2.2.2.2.2.2.2.2.2.1
theorem dL_law_968 : decode cL_law 968 = .ok (.aload_n 1, 1) := bdL_law_950.2.2.2.2.2.2.2.2.2.2.2.2.1
theorem dL_law_969 : decode cL_law 969 = .ok (.aload_n 0, 1) := bdL_law_950.2.2.2.2.2.2.2.2.2.2.2.2.2.1
theorem dL_law_970 : decode cL_law 970 = .ok (.iload_n 3, 1) := bdL_law_950.2.2.2.2.2.2.2.2.2.2.2.2.2.2.1
theorem dL_law_971 : decode cL_law 971 = .ok (.iconst 1, 1) := bdL_law_950.2.2.2.2.2.2.2.2.2.2.2.2.2.2.2
theorem bdL_law_972 : decode cL_law 972 = .ok (.iadd, 1) ∧ decode cL_law 973 = .ok (.iaload, 1) ∧ decode cL_law 974 = .ok (.invokevirtual 133, 3) ∧ decode cL_law 977 = .ok (.aload_n 2, 1) ∧ decode cL_law 978 = .ok (.aload_n 0, 1) ∧ decode cL_law 979 = .ok (.iload_n 3, 1) ∧ decode cL_law 980 = .ok (.iconst 1, 1) ∧ decode cL_law 981 = .ok (.iadd, 1) ∧ decode cL_law 982 = .ok (.iaload, 1) ∧ decode cL_law 983 = .ok (.invokevirtual 136, 3) ∧ decode cL_law 986 = .ok (.if_icmp .eq 5, 3) ∧ decode cL_law 989 = .ok (.iconst 0, 1) ∧ decode cL_law 990 = .ok (.ireturn, 1) ∧ decode cL_law 991 = .ok (.iinc 3 5, 3) ∧ decode cL_law 994 = .ok (.goto (-976), 3) ∧ decode cL_law 997 = .ok (.iconst 1, 1) := by decide +kernel
theorem dL_law_972 : decode cL_law 972 = .ok (.iadd, 1) := bdL_law_972.1
theorem dL_law_973 : decode cL_law 973 = .ok (.iaload, 1) := bdL_law_972.2.1
theorem dL_law_974 : decode cL_law 974 = .ok (.invokevirtual 133, 3) := bdL_law_972.2.2.1
theorem dL_law_977 : decode cL_law 977 = .ok (.aload_n 2, 1) := bdL_law_972.2.2.2.1
theorem dL_law_978 : decode cL_law 978 = .ok (.aload_n 0, 1) := bdL_law_972.2.2.2.2.1
theorem dL_law_979 : decode cL_law 979 = .ok (.iload_n 3, 1) := bdL_law_972.2.2.2.2.2.1
theorem dL_law_980 : decode cL_law 980 = .ok (.iconst 1, 1) := bdL_law_972.2.2.2.2.2.2.1
theorem dL_law_981 : decode cL_law 981 = .ok (.iadd, 1) := bdL_law_972.2.2.2.2.2.2.2.1
theorem dL_law_982 : decode cL_law 982 = .ok (.iaload, 1) := bdL_law_972.2.2.2.2.2.2.2.2.1
theorem dL_law_983 : decode cL_law 983 = .ok (.invokevirtual 136, 3) := bdL_law_972.2.2.2.2.2.2.2.2.2.1
theorem dL_law_986 : decode cL_law 986 = .ok (.if_icmp .eq 5, 3) := bdL_law_972.2.2.2.2.2.2.2.2.2.2.1
theorem dL_law_989 : decode cL_law 989 = .ok (.iconst 0, 1) := bdL_law_972.2.2.2.2.2.2.2.2.2.2.2.1
theorem dL_law_990 : decode cL_law 990 = .ok (.ireturn, 1) := bdL_law_972.2.2.2.2.2.2.2.2.2.2.2.2.1
theorem dL_law_991 : decode cL_law 991 = .ok (.iinc 3 5, 3) := bdL_law_972.2.2.2.2.2.2.2.2.2.2.2.2.2.1
theorem dL_law_994 : decode cL_law 994 = .ok (.goto (-976), 3) := bdL_law_972.2.2.2.2.2.2.2.2.2.2.2.2.2.2.1
theorem dL_law_997 : decode cL_law 997 = .ok (.iconst 1, 1) := bdL_law_972.2.2.2.2.2.2.2.2.2.2.2.2.2.2.2
theorem dL_law_998 : decode cL_law 998 = .ok (.ireturn, 1) := by decide +kernel
