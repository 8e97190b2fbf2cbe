theorem dGL_0 : decode cL_law 0 = .ok (.new 7, 3) ∧ decode cL_law 3 = .ok (.dup, 1) ∧ decode cL_law 4 = .ok (.invokespecial 9, 3) ∧ decode cL_law 7 = .ok (.astore_n 1, 1) ∧ decode cL_law 8 = .ok (.new 10, 3) ∧ decode cL_law 11 = .ok (.dup, 1) := by decide +kernel
theorem dL_law_0 : decode cL_law 0 = .ok (.new 7, 3) := dGL_0.1
theorem dL_law_3 : decode cL_law 3 = .ok (.dup, 1) := dGL_0.2.1
theorem dL_law_4 : decode cL_law 4 = .ok (.invokespecial 9, 3) := dGL_0.2.2.1
theorem dL_law_7 : decode cL_law 7 = .ok (.astore_n 1, 1) := dGL_0.2.2.2.1
theorem dL_law_8 : decode cL_law 8 = .ok (.new 10, 3) := dGL_0.2.2.2.2.1
theorem dL_law_11 : decode cL_law 11 = .ok (.dup, 1) := dGL_0.2.2.2.2.2
theorem dGL_1 : decode cL_law 12 = .ok (.invokespecial 12, 3) ∧ decode cL_law 15 = .ok (.astore_n 2, 1) ∧ decode cL_law 16 = .ok (.iconst 0, 1) ∧ decode cL_law 17 = .ok (.istore_n 3, 1) ∧ decode cL_law 18 = .ok (.iload_n 3, 1) ∧ decode cL_law 19 = .ok (.aload_n 0, 1) := by decide +kernel
theorem dL_law_12 : decode cL_law 12 = .ok (.invokespecial 12, 3) := dGL_1.1
theorem dL_law_15 : decode cL_law 15 = .ok (.astore_n 2, 1) := dGL_1.2.1
theorem dL_law_16 : decode cL_law 16 = .ok (.iconst 0, 1) := dGL_1.2.2.1
theorem dL_law_17 : decode cL_law 17 = .ok (.istore_n 3, 1) := dGL_1.2.2.2.1
theorem dL_law_18 : decode cL_law 18 = .ok (.iload_n 3, 1) := dGL_1.2.2.2.2.1
theorem dL_law_19 : decode cL_law 19 = .ok (.aload_n 0, 1) := dGL_1.2.2.2.2.2
theorem dGL_2 : decode cL_law 20 = .ok (.arraylength, 1) ∧ decode cL_law 21 = .ok (.bipush 6, 2) ∧ decode cL_law 23 = .ok (.isub, 1) ∧ decode cL_law 24 = .ok (.if_icmp .gt 1198, 3) ∧ decode cL_law 27 = .ok (.aload_n 0, 1) ∧ decode cL_law 28 = .ok (.iload_n 3, 1) := by decide +kernel
theorem dL_law_20 : decode cL_law 20 = .ok (.arraylength, 1) := dGL_2.1
theorem dL_law_21 : decode cL_law 21 = .ok (.bipush 6, 2) := dGL_2.2.1
theorem dL_law_23 : decode cL_law 23 = .ok (.isub, 1) := dGL_2.2.2.1
theorem dL_law_24 : decode cL_law 24 = .ok (.if_icmp .gt 1198, 3) := dGL_2.2.2.2.1
theorem dL_law_27 : decode cL_law 27 = .ok (.aload_n 0, 1) := dGL_2.2.2.2.2.1
theorem dL_law_28 : decode cL_law 28 = .ok (.iload_n 3, 1) := dGL_2.2.2.2.2.2
theorem dGL_3 : decode cL_law 29 = .ok (.iaload, 1) ∧ decode cL_law 30 = .ok (.bipush 31, 2) ∧ decode cL_law 32 = .ok (.iand, 1) ∧ decode cL_law 33 = .ok (.tableswitch 1183 0 29 #[135, 178, 201, 250, 283, 316, 375, 424, 487, 510, 533, 556, 589, 622, 655, 688, 741, 784, 827, 860, 903, 926, 969, 992, 1035, 1088, 1111, 1124, 1137, 1160], 135) ∧ decode cL_law 168 = .ok (.aload_n 1, 1) ∧ decode cL_law 169 = .ok (.aload_n 0, 1) := by decide +kernel
theorem dL_law_29 : decode cL_law 29 = .ok (.iaload, 1) := dGL_3.1
theorem dL_law_30 : decode cL_law 30 = .ok (.bipush 31, 2) := dGL_3.2.1
theorem dL_law_32 : decode cL_law 32 = .ok (.iand, 1) := dGL_3.2.2.1
theorem dL_law_33 : decode cL_law 33 = .ok (.tableswitch 1183 0 29 #[135, 178, 201, 250, 283, 316, 375, 424, 487, 510, 533, 556, 589, 622, 655, 688, 741, 784, 827, 860, 903, 926, 969, 992, 1035, 1088, 1111, 1124, 1137, 1160], 135) := dGL_3.2.2.2.1
theorem dL_law_168 : decode cL_law 168 = .ok (.aload_n 1, 1) := dGL_3.2.2.2.2.1
theorem dL_law_169 : decode cL_law 169 = .ok (.aload_n 0, 1) := dGL_3.2.2.2.2.2
theorem dGL_4 : decode cL_law 170 = .ok (.iload_n 3, 1) ∧ decode cL_law 171 = .ok (.iconst 1, 1) ∧ decode cL_law 172 = .ok (.iadd, 1) ∧ decode cL_law 173 = .ok (.iaload, 1) ∧ decode cL_law 174 = .ok (.aload_n 0, 1) ∧ decode cL_law 175 = .ok (.iload_n 3, 1) := by decide +kernel
theorem dL_law_170 : decode cL_law 170 = .ok (.iload_n 3, 1) := dGL_4.1
theorem dL_law_171 : decode cL_law 171 = .ok (.iconst 1, 1) := dGL_4.2.1
theorem dL_law_172 : decode cL_law 172 = .ok (.iadd, 1) := dGL_4.2.2.1
theorem dL_law_173 : decode cL_law 173 = .ok (.iaload, 1) := dGL_4.2.2.2.1
theorem dL_law_174 : decode cL_law 174 = .ok (.aload_n 0, 1) := dGL_4.2.2.2.2.1
theorem dL_law_175 : decode cL_law 175 = .ok (.iload_n 3, 1) := dGL_4.2.2.2.2.2
theorem dGL_5 : decode cL_law 176 = .ok (.iconst 2, 1) ∧ decode cL_law 177 = .ok (.iadd, 1) ∧ decode cL_law 178 = .ok (.iaload, 1) ∧ decode cL_law 179 = .ok (.aload_n 0, 1) ∧ decode cL_law 180 = .ok (.iload_n 3, 1) ∧ decode cL_law 181 = .ok (.iconst 3, 1) := by decide +kernel
theorem dL_law_176 : decode cL_law 176 = .ok (.iconst 2, 1) := dGL_5.1
theorem dL_law_177 : decode cL_law 177 = .ok (.iadd, 1) := dGL_5.2.1
theorem dL_law_178 : decode cL_law 178 = .ok (.iaload, 1) := dGL_5.2.2.1
theorem dL_law_179 : decode cL_law 179 = .ok (.aload_n 0, 1) := dGL_5.2.2.2.1
theorem dL_law_180 : decode cL_law 180 = .ok (.iload_n 3, 1) := dGL_5.2.2.2.2.1
theorem dL_law_181 : decode cL_law 181 = .ok (.iconst 3, 1) := dGL_5.2.2.2.2.2
theorem dGL_6 : decode cL_law 182 = .ok (.iadd, 1) ∧ decode cL_law 183 = .ok (.iaload, 1) ∧ decode cL_law 184 = .ok (.invokevirtual 13, 3) ∧ decode cL_law 187 = .ok (.pop, 1) ∧ decode cL_law 188 = .ok (.aload_n 2, 1) ∧ decode cL_law 189 = .ok (.aload_n 0, 1) := by decide +kernel
theorem dL_law_182 : decode cL_law 182 = .ok (.iadd, 1) := dGL_6.1
theorem dL_law_183 : decode cL_law 183 = .ok (.iaload, 1) := dGL_6.2.1
theorem dL_law_184 : decode cL_law 184 = .ok (.invokevirtual 13, 3) := dGL_6.2.2.1
theorem dL_law_187 : decode cL_law 187 = .ok (.pop, 1) := dGL_6.2.2.2.1
theorem dL_law_188 : decode cL_law 188 = .ok (.aload_n 2, 1) := dGL_6.2.2.2.2.1
theorem dL_law_189 : decode cL_law 189 = .ok (.aload_n 0, 1) := dGL_6.2.2.2.2.2
theorem dGL_7 : decode cL_law 190 = .ok (.iload_n 3, 1) ∧ decode cL_law 191 = .ok (.iconst 1, 1) ∧ decode cL_law 192 = .ok (.iadd, 1) ∧ decode cL_law 193 = .ok (.iaload, 1) ∧ decode cL_law 194 = .ok (.aload_n 0, 1) ∧ decode cL_law 195 = .ok (.iload_n 3, 1) := by decide +kernel
theorem dL_law_190 : decode cL_law 190 = .ok (.iload_n 3, 1) := dGL_7.1
theorem dL_law_191 : decode cL_law 191 = .ok (.iconst 1, 1) := dGL_7.2.1
theorem dL_law_192 : decode cL_law 192 = .ok (.iadd, 1) := dGL_7.2.2.1
theorem dL_law_193 : decode cL_law 193 = .ok (.iaload, 1) := dGL_7.2.2.2.1
theorem dL_law_194 : decode cL_law 194 = .ok (.aload_n 0, 1) := dGL_7.2.2.2.2.1
theorem dL_law_195 : decode cL_law 195 = .ok (.iload_n 3, 1) := dGL_7.2.2.2.2.2
theorem dGL_8 : decode cL_law 196 = .ok (.iconst 2, 1) ∧ decode cL_law 197 = .ok (.iadd, 1) ∧ decode cL_law 198 = .ok (.iaload, 1) ∧ decode cL_law 199 = .ok (.aload_n 0, 1) ∧ decode cL_law 200 = .ok (.iload_n 3, 1) ∧ decode cL_law 201 = .ok (.iconst 3, 1) := by decide +kernel
theorem dL_law_196 : decode cL_law 196 = .ok (.iconst 2, 1) := dGL_8.1
theorem dL_law_197 : decode cL_law 197 = .ok (.iadd, 1) := dGL_8.2.1
theorem dL_law_198 : decode cL_law 198 = .ok (.iaload, 1) := dGL_8.2.2.1
theorem dL_law_199 : decode cL_law 199 = .ok (.aload_n 0, 1) := dGL_8.2.2.2.1
theorem dL_law_200 : decode cL_law 200 = .ok (.iload_n 3, 1) := dGL_8.2.2.2.2.1
theorem dL_law_201 : decode cL_law 201 = .ok (.iconst 3, 1) := dGL_8.2.2.2.2.2
theorem dGL_9 : decode cL_law 202 = .ok (.iadd, 1) ∧ decode cL_law 203 = .ok (.iaload, 1) ∧ decode cL_law 204 = .ok (.invokevirtual 17, 3) ∧ decode cL_law 207 = .ok (.pop, 1) ∧ decode cL_law 208 = .ok (.goto 1008, 3) ∧ decode cL_law 211 = .ok (.aload_n 1, 1) := by decide +kernel
theorem dL_law_202 : decode cL_law 202 = .ok (.iadd, 1) := dGL_9.1
theorem dL_law_203 : decode cL_law 203 = .ok (.iaload, 1) := dGL_9.2.1
theorem dL_law_204 : decode cL_law 204 = .ok (.invokevirtual 17, 3) := dGL_9.2.2.1
theorem dL_law_207 : decode cL_law 207 = .ok (.pop, 1) := dGL_9.2.2.2.1
theorem dL_law_208 : decode cL_law 208 = .ok (.goto 1008, 3) := dGL_9.2.2.2.2.1
theorem dL_law_211 : decode cL_law 211 = .ok (.aload_n 1, 1) := dGL_9.2.2.2.2.2
theorem dGL_10 : decode cL_law 212 = .ok (.aload_n 0, 1) ∧ decode cL_law 213 = .ok (.iload_n 3, 1) ∧ decode cL_law 214 = .ok (.iconst 1, 1) ∧ decode cL_law 215 = .ok (.iadd, 1) ∧ decode cL_law 216 = .ok (.iaload, 1) ∧ decode cL_law 217 = .ok (.invokevirtual 18, 3) := by decide +kernel
theorem dL_law_212 : decode cL_law 212 = .ok (.aload_n 0, 1) := dGL_10.1
theorem dL_law_213 : decode cL_law 213 = .ok (.iload_n 3, 1) := dGL_10.2.1
theorem dL_law_214 : decode cL_law 214 = .ok (.iconst 1, 1) := dGL_10.2.2.1
theorem dL_law_215 : decode cL_law 215 = .ok (.iadd, 1) := dGL_10.2.2.2.1
theorem dL_law_216 : decode cL_law 216 = .ok (.iaload, 1) := dGL_10.2.2.2.2.1
theorem dL_law_217 : decode cL_law 217 = .ok (.invokevirtual 18, 3) := dGL_10.2.2.2.2.2
theorem dGL_11 : decode cL_law 220 = .ok (.pop, 1) ∧ decode cL_law 221 = .ok (.aload_n 2, 1) ∧ decode cL_law 222 = .ok (.aload_n 0, 1) ∧ decode cL_law 223 = .ok (.iload_n 3, 1) ∧ decode cL_law 224 = .ok (.iconst 1, 1) ∧ decode cL_law 225 = .ok (.iadd, 1) := by decide +kernel
theorem dL_law_220 : decode cL_law 220 = .ok (.pop, 1) := dGL_11.1
theorem dL_law_221 : decode cL_law 221 = .ok (.aload_n 2, 1) := dGL_11.2.1
theorem dL_law_222 : decode cL_law 222 = .ok (.aload_n 0, 1) := dGL_11.2.2.1
theorem dL_law_223 : decode cL_law 223 = .ok (.iload_n 3, 1) := dGL_11.2.2.2.1
theorem dL_law_224 : decode cL_law 224 = .ok (.iconst 1, 1) := dGL_11.2.2.2.2.1
theorem dL_law_225 : decode cL_law 225 = .ok (.iadd, 1) := dGL_11.2.2.2.2.2
theorem dGL_12 : decode cL_law 226 = .ok (.iaload, 1) ∧ decode cL_law 227 = .ok (.invokevirtual 22, 3) ∧ decode cL_law 230 = .ok (.pop, 1) ∧ decode cL_law 231 = .ok (.goto 985, 3) ∧ decode cL_law 234 = .ok (.aload_n 1, 1) ∧ decode cL_law 235 = .ok (.aload_n 0, 1) := by decide +kernel
theorem dL_law_226 : decode cL_law 226 = .ok (.iaload, 1) := dGL_12.1
theorem dL_law_227 : decode cL_law 227 = .ok (.invokevirtual 22, 3) := dGL_12.2.1
theorem dL_law_230 : decode cL_law 230 = .ok (.pop, 1) := dGL_12.2.2.1
theorem dL_law_231 : decode cL_law 231 = .ok (.goto 985, 3) := dGL_12.2.2.2.1
theorem dL_law_234 : decode cL_law 234 = .ok (.aload_n 1, 1) := dGL_12.2.2.2.2.1
theorem dL_law_235 : decode cL_law 235 = .ok (.aload_n 0, 1) := dGL_12.2.2.2.2.2
theorem dGL_13 : decode cL_law 236 = .ok (.iload_n 3, 1) ∧ decode cL_law 237 = .ok (.iconst 1, 1) ∧ decode cL_law 238 = .ok (.iadd, 1) ∧ decode cL_law 239 = .ok (.iaload, 1) ∧ decode cL_law 240 = .ok (.aload_n 0, 1) ∧ decode cL_law 241 = .ok (.iload_n 3, 1) := by decide +kernel
theorem dL_law_236 : decode cL_law 236 = .ok (.iload_n 3, 1) := dGL_13.1
theorem dL_law_237 : decode cL_law 237 = .ok (.iconst 1, 1) := dGL_13.2.1
theorem dL_law_238 : decode cL_law 238 = .ok (.iadd, 1) := dGL_13.2.2.1
theorem dL_law_239 : decode cL_law 239 = .ok (.iaload, 1) := dGL_13.2.2.2.1
theorem dL_law_240 : decode cL_law 240 = .ok (.aload_n 0, 1) := dGL_13.2.2.2.2.1
theorem dL_law_241 : decode cL_law 241 = .ok (.iload_n 3, 1) := dGL_13.2.2.2.2.2
theorem dGL_14 : decode cL_law 242 = .ok (.iconst 2, 1) ∧ decode cL_law 243 = .ok (.iadd, 1) ∧ decode cL_law 244 = .ok (.iaload, 1) ∧ decode cL_law 245 = .ok (.ifCond .eq 7, 3) ∧ decode cL_law 248 = .ok (.iconst 1, 1) ∧ decode cL_law 249 = .ok (.goto 4, 3) := by decide +kernel
theorem dL_law_242 : decode cL_law 242 = .ok (.iconst 2, 1) := dGL_14.1
theorem dL_law_243 : decode cL_law 243 = .ok (.iadd, 1) := dGL_14.2.1
theorem dL_law_244 : decode cL_law 244 = .ok (.iaload, 1) := dGL_14.2.2.1
theorem dL_law_245 : decode cL_law 245 = .ok (.ifCond .eq 7, 3) := dGL_14.2.2.2.1
theorem dL_law_248 : decode cL_law 248 = .ok (.iconst 1, 1) := dGL_14.2.2.2.2.1
theorem dL_law_249 : decode cL_law 249 = .ok (.goto 4, 3) := dGL_14.2.2.2.2.2
theorem dGL_15 : decode cL_law 252 = .ok (.iconst 0, 1) ∧ decode cL_law 253 = .ok (.invokevirtual 23, 3) ∧ decode cL_law 256 = .ok (.pop, 1) ∧ decode cL_law 257 = .ok (.aload_n 2, 1) ∧ decode cL_law 258 = .ok (.aload_n 0, 1) ∧ decode cL_law 259 = .ok (.iload_n 3, 1) := by decide +kernel
theorem dL_law_252 : decode cL_law 252 = .ok (.iconst 0, 1) := dGL_15.1
theorem dL_law_253 : decode cL_law 253 = .ok (.invokevirtual 23, 3) := dGL_15.2.1
theorem dL_law_256 : decode cL_law 256 = .ok (.pop, 1) := dGL_15.2.2.1
theorem dL_law_257 : decode cL_law 257 = .ok (.aload_n 2, 1) := dGL_15.2.2.2.1
theorem dL_law_258 : decode cL_law 258 = .ok (.aload_n 0, 1) := dGL_15.2.2.2.2.1
theorem dL_law_259 : decode cL_law 259 = .ok (.iload_n 3, 1) := dGL_15.2.2.2.2.2
theorem dGL_16 : decode cL_law 260 = .ok (.iconst 1, 1) ∧ decode cL_law 261 = .ok (.iadd, 1) ∧ decode cL_law 262 = .ok (.iaload, 1) ∧ decode cL_law 263 = .ok (.aload_n 0, 1) ∧ decode cL_law 264 = .ok (.iload_n 3, 1) ∧ decode cL_law 265 = .ok (.iconst 2, 1) := by decide +kernel
theorem dL_law_260 : decode cL_law 260 = .ok (.iconst 1, 1) := dGL_16.1
theorem dL_law_261 : decode cL_law 261 = .ok (.iadd, 1) := dGL_16.2.1
theorem dL_law_262 : decode cL_law 262 = .ok (.iaload, 1) := dGL_16.2.2.1
theorem dL_law_263 : decode cL_law 263 = .ok (.aload_n 0, 1) := dGL_16.2.2.2.1
theorem dL_law_264 : decode cL_law 264 = .ok (.iload_n 3, 1) := dGL_16.2.2.2.2.1
theorem dL_law_265 : decode cL_law 265 = .ok (.iconst 2, 1) := dGL_16.2.2.2.2.2
theorem dGL_17 : decode cL_law 266 = .ok (.iadd, 1) ∧ decode cL_law 267 = .ok (.iaload, 1) ∧ decode cL_law 268 = .ok (.ifCond .eq 7, 3) ∧ decode cL_law 271 = .ok (.iconst 1, 1) ∧ decode cL_law 272 = .ok (.goto 4, 3) ∧ decode cL_law 275 = .ok (.iconst 0, 1) := by decide +kernel
theorem dL_law_266 : decode cL_law 266 = .ok (.iadd, 1) := dGL_17.1
theorem dL_law_267 : decode cL_law 267 = .ok (.iaload, 1) := dGL_17.2.1
theorem dL_law_268 : decode cL_law 268 = .ok (.ifCond .eq 7, 3) := dGL_17.2.2.1
theorem dL_law_271 : decode cL_law 271 = .ok (.iconst 1, 1) := dGL_17.2.2.2.1
theorem dL_law_272 : decode cL_law 272 = .ok (.goto 4, 3) := dGL_17.2.2.2.2.1
theorem dL_law_275 : decode cL_law 275 = .ok (.iconst 0, 1) := dGL_17.2.2.2.2.2
theorem dGL_18 : decode cL_law 276 = .ok (.invokevirtual 27, 3) ∧ decode cL_law 279 = .ok (.pop, 1) ∧ decode cL_law 280 = .ok (.goto 936, 3) ∧ decode cL_law 283 = .ok (.aload_n 1, 1) ∧ decode cL_law 284 = .ok (.aload_n 0, 1) ∧ decode cL_law 285 = .ok (.iload_n 3, 1) := by decide +kernel
theorem dL_law_276 : decode cL_law 276 = .ok (.invokevirtual 27, 3) := dGL_18.1
theorem dL_law_279 : decode cL_law 279 = .ok (.pop, 1) := dGL_18.2.1
theorem dL_law_280 : decode cL_law 280 = .ok (.goto 936, 3) := dGL_18.2.2.1
theorem dL_law_283 : decode cL_law 283 = .ok (.aload_n 1, 1) := dGL_18.2.2.2.1
theorem dL_law_284 : decode cL_law 284 = .ok (.aload_n 0, 1) := dGL_18.2.2.2.2.1
theorem dL_law_285 : decode cL_law 285 = .ok (.iload_n 3, 1) := dGL_18.2.2.2.2.2
theorem dGL_19 : decode cL_law 286 = .ok (.iconst 1, 1) ∧ decode cL_law 287 = .ok (.iadd, 1) ∧ decode cL_law 288 = .ok (.iaload, 1) ∧ decode cL_law 289 = .ok (.aload_n 0, 1) ∧ decode cL_law 290 = .ok (.iload_n 3, 1) ∧ decode cL_law 291 = .ok (.iconst 2, 1) := by decide +kernel
theorem dL_law_286 : decode cL_law 286 = .ok (.iconst 1, 1) := dGL_19.1
theorem dL_law_287 : decode cL_law 287 = .ok (.iadd, 1) := dGL_19.2.1
theorem dL_law_288 : decode cL_law 288 = .ok (.iaload, 1) := dGL_19.2.2.1
theorem dL_law_289 : decode cL_law 289 = .ok (.aload_n 0, 1) := dGL_19.2.2.2.1
theorem dL_law_290 : decode cL_law 290 = .ok (.iload_n 3, 1) := dGL_19.2.2.2.2.1
theorem dL_law_291 : decode cL_law 291 = .ok (.iconst 2, 1) := dGL_19.2.2.2.2.2
theorem dGL_20 : decode cL_law 292 = .ok (.iadd, 1) ∧ decode cL_law 293 = .ok (.iaload, 1) ∧ decode cL_law 294 = .ok (.invokevirtual 28, 3) ∧ decode cL_law 297 = .ok (.pop, 1) ∧ decode cL_law 298 = .ok (.aload_n 2, 1) ∧ decode cL_law 299 = .ok (.aload_n 0, 1) := by decide +kernel
theorem dL_law_292 : decode cL_law 292 = .ok (.iadd, 1) := dGL_20.1
theorem dL_law_293 : decode cL_law 293 = .ok (.iaload, 1) := dGL_20.2.1
theorem dL_law_294 : decode cL_law 294 = .ok (.invokevirtual 28, 3) := dGL_20.2.2.1
theorem dL_law_297 : decode cL_law 297 = .ok (.pop, 1) := dGL_20.2.2.2.1
theorem dL_law_298 : decode cL_law 298 = .ok (.aload_n 2, 1) := dGL_20.2.2.2.2.1
theorem dL_law_299 : decode cL_law 299 = .ok (.aload_n 0, 1) := dGL_20.2.2.2.2.2
theorem dGL_21 : decode cL_law 300 = .ok (.iload_n 3, 1) ∧ decode cL_law 301 = .ok (.iconst 1, 1) ∧ decode cL_law 302 = .ok (.iadd, 1) ∧ decode cL_law 303 = .ok (.iaload, 1) ∧ decode cL_law 304 = .ok (.aload_n 0, 1) ∧ decode cL_law 305 = .ok (.iload_n 3, 1) := by decide +kernel
theorem dL_law_300 : decode cL_law 300 = .ok (.iload_n 3, 1) := dGL_21.1
theorem dL_law_301 : decode cL_law 301 = .ok (.iconst 1, 1) := dGL_21.2.1
theorem dL_law_302 : decode cL_law 302 = .ok (.iadd, 1) := dGL_21.2.2.1
theorem dL_law_303 : decode cL_law 303 = .ok (.iaload, 1) := dGL_21.2.2.2.1
theorem dL_law_304 : decode cL_law 304 = .ok (.aload_n 0, 1) := dGL_21.2.2.2.2.1
theorem dL_law_305 : decode cL_law 305 = .ok (.iload_n 3, 1) := dGL_21.2.2.2.2.2
theorem dGL_22 : decode cL_law 306 = .ok (.iconst 2, 1) ∧ decode cL_law 307 = .ok (.iadd, 1) ∧ decode cL_law 308 = .ok (.iaload, 1) ∧ decode cL_law 309 = .ok (.invokevirtual 32, 3) ∧ decode cL_law 312 = .ok (.pop, 1) ∧ decode cL_law 313 = .ok (.goto 903, 3) := by decide +kernel
theorem dL_law_306 : decode cL_law 306 = .ok (.iconst 2, 1) := dGL_22.1
theorem dL_law_307 : decode cL_law 307 = .ok (.iadd, 1) := dGL_22.2.1
theorem dL_law_308 : decode cL_law 308 = .ok (.iaload, 1) := dGL_22.2.2.1
theorem dL_law_309 : decode cL_law 309 = .ok (.invokevirtual 32, 3) := dGL_22.2.2.2.1
theorem dL_law_312 : decode cL_law 312 = .ok (.pop, 1) := dGL_22.2.2.2.2.1
theorem dL_law_313 : decode cL_law 313 = .ok (.goto 903, 3) := dGL_22.2.2.2.2.2
theorem dGL_23 : decode cL_law 316 = .ok (.aload_n 1, 1) ∧ decode cL_law 317 = .ok (.aload_n 0, 1) ∧ decode cL_law 318 = .ok (.iload_n 3, 1) ∧ decode cL_law 319 = .ok (.iconst 1, 1) ∧ decode cL_law 320 = .ok (.iadd, 1) ∧ decode cL_law 321 = .ok (.iaload, 1) := by decide +kernel
theorem dL_law_316 : decode cL_law 316 = .ok (.aload_n 1, 1) := dGL_23.1
theorem dL_law_317 : decode cL_law 317 = .ok (.aload_n 0, 1) := dGL_23.2.1
theorem dL_law_318 : decode cL_law 318 = .ok (.iload_n 3, 1) := dGL_23.2.2.1
theorem dL_law_319 : decode cL_law 319 = .ok (.iconst 1, 1) := dGL_23.2.2.2.1
theorem dL_law_320 : decode cL_law 320 = .ok (.iadd, 1) := dGL_23.2.2.2.2.1
theorem dL_law_321 : decode cL_law 321 = .ok (.iaload, 1) := dGL_23.2.2.2.2.2
theorem dGL_24 : decode cL_law 322 = .ok (.aload_n 0, 1) ∧ decode cL_law 323 = .ok (.iload_n 3, 1) ∧ decode cL_law 324 = .ok (.iconst 2, 1) ∧ decode cL_law 325 = .ok (.iadd, 1) ∧ decode cL_law 326 = .ok (.iaload, 1) ∧ decode cL_law 327 = .ok (.invokevirtual 33, 3) := by decide +kernel
theorem dL_law_322 : decode cL_law 322 = .ok (.aload_n 0, 1) := dGL_24.1
theorem dL_law_323 : decode cL_law 323 = .ok (.iload_n 3, 1) := dGL_24.2.1
theorem dL_law_324 : decode cL_law 324 = .ok (.iconst 2, 1) := dGL_24.2.2.1
theorem dL_law_325 : decode cL_law 325 = .ok (.iadd, 1) := dGL_24.2.2.2.1
theorem dL_law_326 : decode cL_law 326 = .ok (.iaload, 1) := dGL_24.2.2.2.2.1
theorem dL_law_327 : decode cL_law 327 = .ok (.invokevirtual 33, 3) := dGL_24.2.2.2.2.2
theorem dGL_25 : decode cL_law 330 = .ok (.pop, 1) ∧ decode cL_law 331 = .ok (.aload_n 2, 1) ∧ decode cL_law 332 = .ok (.aload_n 0, 1) ∧ decode cL_law 333 = .ok (.iload_n 3, 1) ∧ decode cL_law 334 = .ok (.iconst 1, 1) ∧ decode cL_law 335 = .ok (.iadd, 1) := by decide +kernel
theorem dL_law_330 : decode cL_law 330 = .ok (.pop, 1) := dGL_25.1
theorem dL_law_331 : decode cL_law 331 = .ok (.aload_n 2, 1) := dGL_25.2.1
theorem dL_law_332 : decode cL_law 332 = .ok (.aload_n 0, 1) := dGL_25.2.2.1
theorem dL_law_333 : decode cL_law 333 = .ok (.iload_n 3, 1) := dGL_25.2.2.2.1
theorem dL_law_334 : decode cL_law 334 = .ok (.iconst 1, 1) := dGL_25.2.2.2.2.1
theorem dL_law_335 : decode cL_law 335 = .ok (.iadd, 1) := dGL_25.2.2.2.2.2
theorem dGL_26 : decode cL_law 336 = .ok (.iaload, 1) ∧ decode cL_law 337 = .ok (.aload_n 0, 1) ∧ decode cL_law 338 = .ok (.iload_n 3, 1) ∧ decode cL_law 339 = .ok (.iconst 2, 1) ∧ decode cL_law 340 = .ok (.iadd, 1) ∧ decode cL_law 341 = .ok (.iaload, 1) := by decide +kernel
theorem dL_law_336 : decode cL_law 336 = .ok (.iaload, 1) := dGL_26.1
theorem dL_law_337 : decode cL_law 337 = .ok (.aload_n 0, 1) := dGL_26.2.1
theorem dL_law_338 : decode cL_law 338 = .ok (.iload_n 3, 1) := dGL_26.2.2.1
theorem dL_law_339 : decode cL_law 339 = .ok (.iconst 2, 1) := dGL_26.2.2.2.1
theorem dL_law_340 : decode cL_law 340 = .ok (.iadd, 1) := dGL_26.2.2.2.2.1
theorem dL_law_341 : decode cL_law 341 = .ok (.iaload, 1) := dGL_26.2.2.2.2.2
theorem dGL_27 : decode cL_law 342 = .ok (.invokevirtual 36, 3) ∧ decode cL_law 345 = .ok (.pop, 1) ∧ decode cL_law 346 = .ok (.goto 870, 3) ∧ decode cL_law 349 = .ok (.aload_n 1, 1) ∧ decode cL_law 350 = .ok (.aload_n 0, 1) ∧ decode cL_law 351 = .ok (.iload_n 3, 1) := by decide +kernel
theorem dL_law_342 : decode cL_law 342 = .ok (.invokevirtual 36, 3) := dGL_27.1
theorem dL_law_345 : decode cL_law 345 = .ok (.pop, 1) := dGL_27.2.1
theorem dL_law_346 : decode cL_law 346 = .ok (.goto 870, 3) := dGL_27.2.2.1
theorem dL_law_349 : decode cL_law 349 = .ok (.aload_n 1, 1) := dGL_27.2.2.2.1
theorem dL_law_350 : decode cL_law 350 = .ok (.aload_n 0, 1) := dGL_27.2.2.2.2.1
theorem dL_law_351 : decode cL_law 351 = .ok (.iload_n 3, 1) := dGL_27.2.2.2.2.2
theorem dGL_28 : decode cL_law 352 = .ok (.iconst 1, 1) ∧ decode cL_law 353 = .ok (.iadd, 1) ∧ decode cL_law 354 = .ok (.iaload, 1) ∧ decode cL_law 355 = .ok (.aload_n 0, 1) ∧ decode cL_law 356 = .ok (.iload_n 3, 1) ∧ decode cL_law 357 = .ok (.iconst 2, 1) := by decide +kernel
theorem dL_law_352 : decode cL_law 352 = .ok (.iconst 1, 1) := dGL_28.1
theorem dL_law_353 : decode cL_law 353 = .ok (.iadd, 1) := dGL_28.2.1
theorem dL_law_354 : decode cL_law 354 = .ok (.iaload, 1) := dGL_28.2.2.1
theorem dL_law_355 : decode cL_law 355 = .ok (.aload_n 0, 1) := dGL_28.2.2.2.1
theorem dL_law_356 : decode cL_law 356 = .ok (.iload_n 3, 1) := dGL_28.2.2.2.2.1
theorem dL_law_357 : decode cL_law 357 = .ok (.iconst 2, 1) := dGL_28.2.2.2.2.2
theorem dGL_29 : decode cL_law 358 = .ok (.iadd, 1) ∧ decode cL_law 359 = .ok (.iaload, 1) ∧ decode cL_law 360 = .ok (.aload_n 0, 1) ∧ decode cL_law 361 = .ok (.iload_n 3, 1) ∧ decode cL_law 362 = .ok (.iconst 3, 1) ∧ decode cL_law 363 = .ok (.iadd, 1) := by decide +kernel
theorem dL_law_358 : decode cL_law 358 = .ok (.iadd, 1) := dGL_29.1
theorem dL_law_359 : decode cL_law 359 = .ok (.iaload, 1) := dGL_29.2.1
theorem dL_law_360 : decode cL_law 360 = .ok (.aload_n 0, 1) := dGL_29.2.2.1
theorem dL_law_361 : decode cL_law 361 = .ok (.iload_n 3, 1) := dGL_29.2.2.2.1
theorem dL_law_362 : decode cL_law 362 = .ok (.iconst 3, 1) := dGL_29.2.2.2.2.1
theorem dL_law_363 : decode cL_law 363 = .ok (.iadd, 1) := dGL_29.2.2.2.2.2
theorem dGL_30 : decode cL_law 364 = .ok (.iaload, 1) ∧ decode cL_law 365 = .ok (.ifCond .eq 7, 3) ∧ decode cL_law 368 = .ok (.iconst 1, 1) ∧ decode cL_law 369 = .ok (.goto 4, 3) ∧ decode cL_law 372 = .ok (.iconst 0, 1) ∧ decode cL_law 373 = .ok (.invokevirtual 37, 3) := by decide +kernel
theorem dL_law_364 : decode cL_law 364 = .ok (.iaload, 1) := dGL_30.1
theorem dL_law_365 : decode cL_law 365 = .ok (.ifCond .eq 7, 3) := dGL_30.2.1
theorem dL_law_368 : decode cL_law 368 = .ok (.iconst 1, 1) := dGL_30.2.2.1
theorem dL_law_369 : decode cL_law 369 = .ok (.goto 4, 3) := dGL_30.2.2.2.1
theorem dL_law_372 : decode cL_law 372 = .ok (.iconst 0, 1) := dGL_30.2.2.2.2.1
theorem dL_law_373 : decode cL_law 373 = .ok (.invokevirtual 37, 3) := dGL_30.2.2.2.2.2
theorem dGL_31 : decode cL_law 376 = .ok (.pop, 1) ∧ decode cL_law 377 = .ok (.aload_n 2, 1) ∧ decode cL_law 378 = .ok (.aload_n 0, 1) ∧ decode cL_law 379 = .ok (.iload_n 3, 1) ∧ decode cL_law 380 = .ok (.iconst 1, 1) ∧ decode cL_law 381 = .ok (.iadd, 1) := by decide +kernel
theorem dL_law_376 : decode cL_law 376 = .ok (.pop, 1) := dGL_31.1
theorem dL_law_377 : decode cL_law 377 = .ok (.aload_n 2, 1) := dGL_31.2.1
theorem dL_law_378 : decode cL_law 378 = .ok (.aload_n 0, 1) := dGL_31.2.2.1
theorem dL_law_379 : decode cL_law 379 = .ok (.iload_n 3, 1) := dGL_31.2.2.2.1
theorem dL_law_380 : decode cL_law 380 = .ok (.iconst 1, 1) := dGL_31.2.2.2.2.1
theorem dL_law_381 : decode cL_law 381 = .ok (.iadd, 1) := dGL_31.2.2.2.2.2
theorem dGL_32 : decode cL_law 382 = .ok (.iaload, 1) ∧ decode cL_law 383 = .ok (.aload_n 0, 1) ∧ decode cL_law 384 = .ok (.iload_n 3, 1) ∧ decode cL_law 385 = .ok (.iconst 2, 1) ∧ decode cL_law 386 = .ok (.iadd, 1) ∧ decode cL_law 387 = .ok (.iaload, 1) := by decide +kernel
theorem dL_law_382 : decode cL_law 382 = .ok (.iaload, 1) := dGL_32.1
theorem dL_law_383 : decode cL_law 383 = .ok (.aload_n 0, 1) := dGL_32.2.1
theorem dL_law_384 : decode cL_law 384 = .ok (.iload_n 3, 1) := dGL_32.2.2.1
theorem dL_law_385 : decode cL_law 385 = .ok (.iconst 2, 1) := dGL_32.2.2.2.1
theorem dL_law_386 : decode cL_law 386 = .ok (.iadd, 1) := dGL_32.2.2.2.2.1
theorem dL_law_387 : decode cL_law 387 = .ok (.iaload, 1) := dGL_32.2.2.2.2.2
theorem dGL_33 : decode cL_law 388 = .ok (.aload_n 0, 1) ∧ decode cL_law 389 = .ok (.iload_n 3, 1) ∧ decode cL_law 390 = .ok (.iconst 3, 1) ∧ decode cL_law 391 = .ok (.iadd, 1) ∧ decode cL_law 392 = .ok (.iaload, 1) ∧ decode cL_law 393 = .ok (.ifCond .eq 7, 3) := by decide +kernel
theorem dL_law_388 : decode cL_law 388 = .ok (.aload_n 0, 1) := dGL_33.1
theorem dL_law_389 : decode cL_law 389 = .ok (.iload_n 3, 1) := dGL_33.2.1
theorem dL_law_390 : decode cL_law 390 = .ok (.iconst 3, 1) := dGL_33.2.2.1
theorem dL_law_391 : decode cL_law 391 = .ok (.iadd, 1) := dGL_33.2.2.2.1
theorem dL_law_392 : decode cL_law 392 = .ok (.iaload, 1) := dGL_33.2.2.2.2.1
theorem dL_law_393 : decode cL_law 393 = .ok (.ifCond .eq 7, 3) := dGL_33.2.2.2.2.2
theorem dGL_34 : decode cL_law 396 = .ok (.iconst 1, 1) ∧ decode cL_law 397 = .ok (.goto 4, 3) ∧ decode cL_law 400 = .ok (.iconst 0, 1) ∧ decode cL_law 401 = .ok (.invokevirtual 41, 3) ∧ decode cL_law 404 = .ok (.pop, 1) ∧ decode cL_law 405 = .ok (.goto 811, 3) := by decide +kernel
theorem dL_law_396 : decode cL_law 396 = .ok (.iconst 1, 1) := dGL_34.1
theorem dL_law_397 : decode cL_law 397 = .ok (.goto 4, 3) := dGL_34.2.1
theorem dL_law_400 : decode cL_law 400 = .ok (.iconst 0, 1) := dGL_34.2.2.1
theorem dL_law_401 : decode cL_law 401 = .ok (.invokevirtual 41, 3) := dGL_34.2.2.2.1
theorem dL_law_404 : decode cL_law 404 = .ok (.pop, 1) := dGL_34.2.2.2.2.1
theorem dL_law_405 : decode cL_law 405 = .ok (.goto 811, 3) := dGL_34.2.2.2.2.2
theorem dGL_35 : decode cL_law 408 = .ok (.aload_n 1, 1) ∧ decode cL_law 409 = .ok (.aload_n 0, 1) ∧ decode cL_law 410 = .ok (.iload_n 3, 1) ∧ decode cL_law 411 = .ok (.iconst 1, 1) ∧ decode cL_law 412 = .ok (.iadd, 1) ∧ decode cL_law 413 = .ok (.iaload, 1) := by decide +kernel
theorem dL_law_408 : decode cL_law 408 = .ok (.aload_n 1, 1) := dGL_35.1
theorem dL_law_409 : decode cL_law 409 = .ok (.aload_n 0, 1) := dGL_35.2.1
theorem dL_law_410 : decode cL_law 410 = .ok (.iload_n 3, 1) := dGL_35.2.2.1
theorem dL_law_411 : decode cL_law 411 = .ok (.iconst 1, 1) := dGL_35.2.2.2.1
theorem dL_law_412 : decode cL_law 412 = .ok (.iadd, 1) := dGL_35.2.2.2.2.1
theorem dL_law_413 : decode cL_law 413 = .ok (.iaload, 1) := dGL_35.2.2.2.2.2
theorem dGL_36 : decode cL_law 414 = .ok (.aload_n 0, 1) ∧ decode cL_law 415 = .ok (.iload_n 3, 1) ∧ decode cL_law 416 = .ok (.iconst 2, 1) ∧ decode cL_law 417 = .ok (.iadd, 1) ∧ decode cL_law 418 = .ok (.iaload, 1) ∧ decode cL_law 419 = .ok (.ifCond .eq 7, 3) := by decide +kernel
theorem dL_law_414 : decode cL_law 414 = .ok (.aload_n 0, 1) := dGL_36.1
theorem dL_law_415 : decode cL_law 415 = .ok (.iload_n 3, 1) := dGL_36.2.1
theorem dL_law_416 : decode cL_law 416 = .ok (.iconst 2, 1) := dGL_36.2.2.1
theorem dL_law_417 : decode cL_law 417 = .ok (.iadd, 1) := dGL_36.2.2.2.1
theorem dL_law_418 : decode cL_law 418 = .ok (.iaload, 1) := dGL_36.2.2.2.2.1
theorem dL_law_419 : decode cL_law 419 = .ok (.ifCond .eq 7, 3) := dGL_36.2.2.2.2.2
theorem dGL_37 : decode cL_law 422 = .ok (.iconst 1, 1) ∧ decode cL_law 423 = .ok (.goto 4, 3) ∧ decode cL_law 426 = .ok (.iconst 0, 1) ∧ decode cL_law 427 = .ok (.invokevirtual 42, 3) ∧ decode cL_law 430 = .ok (.aload_n 2, 1) ∧ decode cL_law 431 = .ok (.aload_n 0, 1) := by decide +kernel
theorem dL_law_422 : decode cL_law 422 = .ok (.iconst 1, 1) := dGL_37.1
theorem dL_law_423 : decode cL_law 423 = .ok (.goto 4, 3) := dGL_37.2.1
theorem dL_law_426 : decode cL_law 426 = .ok (.iconst 0, 1) := dGL_37.2.2.1
theorem dL_law_427 : decode cL_law 427 = .ok (.invokevirtual 42, 3) := dGL_37.2.2.2.1
theorem dL_law_430 : decode cL_law 430 = .ok (.aload_n 2, 1) := dGL_37.2.2.2.2.1
theorem dL_law_431 : decode cL_law 431 = .ok (.aload_n 0, 1) := dGL_37.2.2.2.2.2
theorem dGL_38 : decode cL_law 432 = .ok (.iload_n 3, 1) ∧ decode cL_law 433 = .ok (.iconst 1, 1) ∧ decode cL_law 434 = .ok (.iadd, 1) ∧ decode cL_law 435 = .ok (.iaload, 1) ∧ decode cL_law 436 = .ok (.aload_n 0, 1) ∧ decode cL_law 437 = .ok (.iload_n 3, 1) := by decide +kernel
theorem dL_law_432 : decode cL_law 432 = .ok (.iload_n 3, 1) := dGL_38.1
theorem dL_law_433 : decode cL_law 433 = .ok (.iconst 1, 1) := dGL_38.2.1
theorem dL_law_434 : decode cL_law 434 = .ok (.iadd, 1) := dGL_38.2.2.1
theorem dL_law_435 : decode cL_law 435 = .ok (.iaload, 1) := dGL_38.2.2.2.1
theorem dL_law_436 : decode cL_law 436 = .ok (.aload_n 0, 1) := dGL_38.2.2.2.2.1
theorem dL_law_437 : decode cL_law 437 = .ok (.iload_n 3, 1) := dGL_38.2.2.2.2.2
theorem dGL_39 : decode cL_law 438 = .ok (.iconst 2, 1) ∧ decode cL_law 439 = .ok (.iadd, 1) ∧ decode cL_law 440 = .ok (.iaload, 1) ∧ decode cL_law 441 = .ok (.ifCond .eq 7, 3) ∧ decode cL_law 444 = .ok (.iconst 1, 1) ∧ decode cL_law 445 = .ok (.goto 4, 3) := by decide +kernel
theorem dL_law_438 : decode cL_law 438 = .ok (.iconst 2, 1) := dGL_39.1
theorem dL_law_439 : decode cL_law 439 = .ok (.iadd, 1) := dGL_39.2.1
theorem dL_law_440 : decode cL_law 440 = .ok (.iaload, 1) := dGL_39.2.2.1
theorem dL_law_441 : decode cL_law 441 = .ok (.ifCond .eq 7, 3) := dGL_39.2.2.2.1
theorem dL_law_444 : decode cL_law 444 = .ok (.iconst 1, 1) := dGL_39.2.2.2.2.1
theorem dL_law_445 : decode cL_law 445 = .ok (.goto 4, 3) := dGL_39.2.2.2.2.2
theorem dGL_40 : decode cL_law 448 = .ok (.iconst 0, 1) ∧ decode cL_law 449 = .ok (.invokevirtual 46, 3) ∧ decode cL_law 452 = .ok (.if_icmp .eq 764, 3) ∧ decode cL_law 455 = .ok (.iconst 0, 1) ∧ decode cL_law 456 = .ok (.ireturn, 1) ∧ decode cL_law 457 = .ok (.aload_n 1, 1) := by decide +kernel
theorem dL_law_448 : decode cL_law 448 = .ok (.iconst 0, 1) := dGL_40.1
theorem dL_law_449 : decode cL_law 449 = .ok (.invokevirtual 46, 3) := dGL_40.2.1
theorem dL_law_452 : decode cL_law 452 = .ok (.if_icmp .eq 764, 3) := dGL_40.2.2.1
theorem dL_law_455 : decode cL_law 455 = .ok (.iconst 0, 1) := dGL_40.2.2.2.1
theorem dL_law_456 : decode cL_law 456 = .ok (.ireturn, 1) := dGL_40.2.2.2.2.1
theorem dL_law_457 : decode cL_law 457 = .ok (.aload_n 1, 1) := dGL_40.2.2.2.2.2
theorem dGL_41 : decode cL_law 458 = .ok (.aload_n 0, 1) ∧ decode cL_law 459 = .ok (.iload_n 3, 1) ∧ decode cL_law 460 = .ok (.iconst 1, 1) ∧ decode cL_law 461 = .ok (.iadd, 1) ∧ decode cL_law 462 = .ok (.iaload, 1) ∧ decode cL_law 463 = .ok (.aload_n 0, 1) := by decide +kernel
theorem dL_law_458 : decode cL_law 458 = .ok (.aload_n 0, 1) := dGL_41.1
theorem dL_law_459 : decode cL_law 459 = .ok (.iload_n 3, 1) := dGL_41.2.1
theorem dL_law_460 : decode cL_law 460 = .ok (.iconst 1, 1) := dGL_41.2.2.1
theorem dL_law_461 : decode cL_law 461 = .ok (.iadd, 1) := dGL_41.2.2.2.1
theorem dL_law_462 : decode cL_law 462 = .ok (.iaload, 1) := dGL_41.2.2.2.2.1
theorem dL_law_463 : decode cL_law 463 = .ok (.aload_n 0, 1) := dGL_41.2.2.2.2.2
theorem dGL_42 : decode cL_law 464 = .ok (.iload_n 3, 1) ∧ decode cL_law 465 = .ok (.iconst 2, 1) ∧ decode cL_law 466 = .ok (.iadd, 1) ∧ decode cL_law 467 = .ok (.iaload, 1) ∧ decode cL_law 468 = .ok (.aload_n 0, 1) ∧ decode cL_law 469 = .ok (.iload_n 3, 1) := by decide +kernel
theorem dL_law_464 : decode cL_law 464 = .ok (.iload_n 3, 1) := dGL_42.1
theorem dL_law_465 : decode cL_law 465 = .ok (.iconst 2, 1) := dGL_42.2.1
theorem dL_law_466 : decode cL_law 466 = .ok (.iadd, 1) := dGL_42.2.2.1
theorem dL_law_467 : decode cL_law 467 = .ok (.iaload, 1) := dGL_42.2.2.2.1
theorem dL_law_468 : decode cL_law 468 = .ok (.aload_n 0, 1) := dGL_42.2.2.2.2.1
theorem dL_law_469 : decode cL_law 469 = .ok (.iload_n 3, 1) := dGL_42.2.2.2.2.2
theorem dGL_43 : decode cL_law 470 = .ok (.iconst 3, 1) ∧ decode cL_law 471 = .ok (.iadd, 1) ∧ decode cL_law 472 = .ok (.iaload, 1) ∧ decode cL_law 473 = .ok (.aload_n 0, 1) ∧ decode cL_law 474 = .ok (.iload_n 3, 1) ∧ decode cL_law 475 = .ok (.iconst 4, 1) := by decide +kernel
theorem dL_law_470 : decode cL_law 470 = .ok (.iconst 3, 1) := dGL_43.1
theorem dL_law_471 : decode cL_law 471 = .ok (.iadd, 1) := dGL_43.2.1
theorem dL_law_472 : decode cL_law 472 = .ok (.iaload, 1) := dGL_43.2.2.1
theorem dL_law_473 : decode cL_law 473 = .ok (.aload_n 0, 1) := dGL_43.2.2.2.1
theorem dL_law_474 : decode cL_law 474 = .ok (.iload_n 3, 1) := dGL_43.2.2.2.2.1
theorem dL_law_475 : decode cL_law 475 = .ok (.iconst 4, 1) := dGL_43.2.2.2.2.2
theorem dGL_44 : decode cL_law 476 = .ok (.iadd, 1) ∧ decode cL_law 477 = .ok (.iaload, 1) ∧ decode cL_law 478 = .ok (.aload_n 0, 1) ∧ decode cL_law 479 = .ok (.iload_n 3, 1) ∧ decode cL_law 480 = .ok (.iconst 5, 1) ∧ decode cL_law 481 = .ok (.iadd, 1) := by decide +kernel
theorem dL_law_476 : decode cL_law 476 = .ok (.iadd, 1) := dGL_44.1
theorem dL_law_477 : decode cL_law 477 = .ok (.iaload, 1) := dGL_44.2.1
theorem dL_law_478 : decode cL_law 478 = .ok (.aload_n 0, 1) := dGL_44.2.2.1
theorem dL_law_479 : decode cL_law 479 = .ok (.iload_n 3, 1) := dGL_44.2.2.2.1
theorem dL_law_480 : decode cL_law 480 = .ok (.iconst 5, 1) := dGL_44.2.2.2.2.1
theorem dL_law_481 : decode cL_law 481 = .ok (.iadd, 1) := dGL_44.2.2.2.2.2
theorem dGL_45 : decode cL_law 482 = .ok (.iaload, 1) ∧ decode cL_law 483 = .ok (.invokevirtual 47, 3) ∧ decode cL_law 486 = .ok (.pop, 1) ∧ decode cL_law 487 = .ok (.aload_n 2, 1) ∧ decode cL_law 488 = .ok (.aload_n 0, 1) ∧ decode cL_law 489 = .ok (.iload_n 3, 1) := by decide +kernel
theorem dL_law_482 : decode cL_law 482 = .ok (.iaload, 1) := dGL_45.1
theorem dL_law_483 : decode cL_law 483 = .ok (.invokevirtual 47, 3) := dGL_45.2.1
theorem dL_law_486 : decode cL_law 486 = .ok (.pop, 1) := dGL_45.2.2.1
theorem dL_law_487 : decode cL_law 487 = .ok (.aload_n 2, 1) := dGL_45.2.2.2.1
theorem dL_law_488 : decode cL_law 488 = .ok (.aload_n 0, 1) := dGL_45.2.2.2.2.1
theorem dL_law_489 : decode cL_law 489 = .ok (.iload_n 3, 1) := dGL_45.2.2.2.2.2
theorem dGL_46 : decode cL_law 490 = .ok (.iconst 1, 1) ∧ decode cL_law 491 = .ok (.iadd, 1) ∧ decode cL_law 492 = .ok (.iaload, 1) ∧ decode cL_law 493 = .ok (.aload_n 0, 1) ∧ decode cL_law 494 = .ok (.iload_n 3, 1) ∧ decode cL_law 495 = .ok (.iconst 2, 1) := by decide +kernel
theorem dL_law_490 : decode cL_law 490 = .ok (.iconst 1, 1) := dGL_46.1
theorem dL_law_491 : decode cL_law 491 = .ok (.iadd, 1) := dGL_46.2.1
theorem dL_law_492 : decode cL_law 492 = .ok (.iaload, 1) := dGL_46.2.2.1
theorem dL_law_493 : decode cL_law 493 = .ok (.aload_n 0, 1) := dGL_46.2.2.2.1
theorem dL_law_494 : decode cL_law 494 = .ok (.iload_n 3, 1) := dGL_46.2.2.2.2.1
theorem dL_law_495 : decode cL_law 495 = .ok (.iconst 2, 1) := dGL_46.2.2.2.2.2
theorem dGL_47 : decode cL_law 496 = .ok (.iadd, 1) ∧ decode cL_law 497 = .ok (.iaload, 1) ∧ decode cL_law 498 = .ok (.aload_n 0, 1) ∧ decode cL_law 499 = .ok (.iload_n 3, 1) ∧ decode cL_law 500 = .ok (.iconst 3, 1) ∧ decode cL_law 501 = .ok (.iadd, 1) := by decide +kernel
theorem dL_law_496 : decode cL_law 496 = .ok (.iadd, 1) := dGL_47.1
theorem dL_law_497 : decode cL_law 497 = .ok (.iaload, 1) := dGL_47.2.1
theorem dL_law_498 : decode cL_law 498 = .ok (.aload_n 0, 1) := dGL_47.2.2.1
theorem dL_law_499 : decode cL_law 499 = .ok (.iload_n 3, 1) := dGL_47.2.2.2.1
theorem dL_law_500 : decode cL_law 500 = .ok (.iconst 3, 1) := dGL_47.2.2.2.2.1
theorem dL_law_501 : decode cL_law 501 = .ok (.iadd, 1) := dGL_47.2.2.2.2.2
theorem dGL_48 : decode cL_law 502 = .ok (.iaload, 1) ∧ decode cL_law 503 = .ok (.aload_n 0, 1) ∧ decode cL_law 504 = .ok (.iload_n 3, 1) ∧ decode cL_law 505 = .ok (.iconst 4, 1) ∧ decode cL_law 506 = .ok (.iadd, 1) ∧ decode cL_law 507 = .ok (.iaload, 1) := by decide +kernel
theorem dL_law_502 : decode cL_law 502 = .ok (.iaload, 1) := dGL_48.1
theorem dL_law_503 : decode cL_law 503 = .ok (.aload_n 0, 1) := dGL_48.2.1
theorem dL_law_504 : decode cL_law 504 = .ok (.iload_n 3, 1) := dGL_48.2.2.1
theorem dL_law_505 : decode cL_law 505 = .ok (.iconst 4, 1) := dGL_48.2.2.2.1
theorem dL_law_506 : decode cL_law 506 = .ok (.iadd, 1) := dGL_48.2.2.2.2.1
theorem dL_law_507 : decode cL_law 507 = .ok (.iaload, 1) := dGL_48.2.2.2.2.2
theorem dGL_49 : decode cL_law 508 = .ok (.aload_n 0, 1) ∧ decode cL_law 509 = .ok (.iload_n 3, 1) ∧ decode cL_law 510 = .ok (.iconst 5, 1) ∧ decode cL_law 511 = .ok (.iadd, 1) ∧ decode cL_law 512 = .ok (.iaload, 1) ∧ decode cL_law 513 = .ok (.invokevirtual 51, 3) := by decide +kernel
theorem dL_law_508 : decode cL_law 508 = .ok (.aload_n 0, 1) := dGL_49.1
theorem dL_law_509 : decode cL_law 509 = .ok (.iload_n 3, 1) := dGL_49.2.1
theorem dL_law_510 : decode cL_law 510 = .ok (.iconst 5, 1) := dGL_49.2.2.1
theorem dL_law_511 : decode cL_law 511 = .ok (.iadd, 1) := dGL_49.2.2.2.1
theorem dL_law_512 : decode cL_law 512 = .ok (.iaload, 1) := dGL_49.2.2.2.2.1
theorem dL_law_513 : decode cL_law 513 = .ok (.invokevirtual 51, 3) := dGL_49.2.2.2.2.2
theorem dGL_50 : decode cL_law 516 = .ok (.pop, 1) ∧ decode cL_law 517 = .ok (.goto 699, 3) ∧ decode cL_law 520 = .ok (.aload_n 1, 1) ∧ decode cL_law 521 = .ok (.aload_n 0, 1) ∧ decode cL_law 522 = .ok (.iload_n 3, 1) ∧ decode cL_law 523 = .ok (.iconst 1, 1) := by decide +kernel
theorem dL_law_516 : decode cL_law 516 = .ok (.pop, 1) := dGL_50.1
theorem dL_law_517 : decode cL_law 517 = .ok (.goto 699, 3) := dGL_50.2.1
theorem dL_law_520 : decode cL_law 520 = .ok (.aload_n 1, 1) := dGL_50.2.2.1
theorem dL_law_521 : decode cL_law 521 = .ok (.aload_n 0, 1) := dGL_50.2.2.2.1
theorem dL_law_522 : decode cL_law 522 = .ok (.iload_n 3, 1) := dGL_50.2.2.2.2.1
theorem dL_law_523 : decode cL_law 523 = .ok (.iconst 1, 1) := dGL_50.2.2.2.2.2
theorem dGL_51 : decode cL_law 524 = .ok (.iadd, 1) ∧ decode cL_law 525 = .ok (.iaload, 1) ∧ decode cL_law 526 = .ok (.invokevirtual 52, 3) ∧ decode cL_law 529 = .ok (.pop, 1) ∧ decode cL_law 530 = .ok (.aload_n 2, 1) ∧ decode cL_law 531 = .ok (.aload_n 0, 1) := by decide +kernel
theorem dL_law_524 : decode cL_law 524 = .ok (.iadd, 1) := dGL_51.1
theorem dL_law_525 : decode cL_law 525 = .ok (.iaload, 1) := dGL_51.2.1
theorem dL_law_526 : decode cL_law 526 = .ok (.invokevirtual 52, 3) := dGL_51.2.2.1
theorem dL_law_529 : decode cL_law 529 = .ok (.pop, 1) := dGL_51.2.2.2.1
theorem dL_law_530 : decode cL_law 530 = .ok (.aload_n 2, 1) := dGL_51.2.2.2.2.1
theorem dL_law_531 : decode cL_law 531 = .ok (.aload_n 0, 1) := dGL_51.2.2.2.2.2
theorem dGL_52 : decode cL_law 532 = .ok (.iload_n 3, 1) ∧ decode cL_law 533 = .ok (.iconst 1, 1) ∧ decode cL_law 534 = .ok (.iadd, 1) ∧ decode cL_law 535 = .ok (.iaload, 1) ∧ decode cL_law 536 = .ok (.invokevirtual 55, 3) ∧ decode cL_law 539 = .ok (.pop, 1) := by decide +kernel
theorem dL_law_532 : decode cL_law 532 = .ok (.iload_n 3, 1) := dGL_52.1
theorem dL_law_533 : decode cL_law 533 = .ok (.iconst 1, 1) := dGL_52.2.1
theorem dL_law_534 : decode cL_law 534 = .ok (.iadd, 1) := dGL_52.2.2.1
theorem dL_law_535 : decode cL_law 535 = .ok (.iaload, 1) := dGL_52.2.2.2.1
theorem dL_law_536 : decode cL_law 536 = .ok (.invokevirtual 55, 3) := dGL_52.2.2.2.2.1
theorem dL_law_539 : decode cL_law 539 = .ok (.pop, 1) := dGL_52.2.2.2.2.2
theorem dGL_53 : decode cL_law 540 = .ok (.goto 676, 3) ∧ decode cL_law 543 = .ok (.aload_n 1, 1) ∧ decode cL_law 544 = .ok (.aload_n 0, 1) ∧ decode cL_law 545 = .ok (.iload_n 3, 1) ∧ decode cL_law 546 = .ok (.iconst 1, 1) ∧ decode cL_law 547 = .ok (.iadd, 1) := by decide +kernel
theorem dL_law_540 : decode cL_law 540 = .ok (.goto 676, 3) := dGL_53.1
theorem dL_law_543 : decode cL_law 543 = .ok (.aload_n 1, 1) := dGL_53.2.1
theorem dL_law_544 : decode cL_law 544 = .ok (.aload_n 0, 1) := dGL_53.2.2.1
theorem dL_law_545 : decode cL_law 545 = .ok (.iload_n 3, 1) := dGL_53.2.2.2.1
theorem dL_law_546 : decode cL_law 546 = .ok (.iconst 1, 1) := dGL_53.2.2.2.2.1
theorem dL_law_547 : decode cL_law 547 = .ok (.iadd, 1) := dGL_53.2.2.2.2.2
theorem dGL_54 : decode cL_law 548 = .ok (.iaload, 1) ∧ decode cL_law 549 = .ok (.invokevirtual 56, 3) ∧ decode cL_law 552 = .ok (.pop, 1) ∧ decode cL_law 553 = .ok (.aload_n 2, 1) ∧ decode cL_law 554 = .ok (.aload_n 0, 1) ∧ decode cL_law 555 = .ok (.iload_n 3, 1) := by decide +kernel
theorem dL_law_548 : decode cL_law 548 = .ok (.iaload, 1) := dGL_54.1
theorem dL_law_549 : decode cL_law 549 = .ok (.invokevirtual 56, 3) := dGL_54.2.1
theorem dL_law_552 : decode cL_law 552 = .ok (.pop, 1) := dGL_54.2.2.1
theorem dL_law_553 : decode cL_law 553 = .ok (.aload_n 2, 1) := dGL_54.2.2.2.1
theorem dL_law_554 : decode cL_law 554 = .ok (.aload_n 0, 1) := dGL_54.2.2.2.2.1
theorem dL_law_555 : decode cL_law 555 = .ok (.iload_n 3, 1) := dGL_54.2.2.2.2.2
theorem dGL_55 : decode cL_law 556 = .ok (.iconst 1, 1) ∧ decode cL_law 557 = .ok (.iadd, 1) ∧ decode cL_law 558 = .ok (.iaload, 1) ∧ decode cL_law 559 = .ok (.invokevirtual 59, 3) ∧ decode cL_law 562 = .ok (.pop, 1) ∧ decode cL_law 563 = .ok (.goto 653, 3) := by decide +kernel
theorem dL_law_556 : decode cL_law 556 = .ok (.iconst 1, 1) := dGL_55.1
theorem dL_law_557 : decode cL_law 557 = .ok (.iadd, 1) := dGL_55.2.1
theorem dL_law_558 : decode cL_law 558 = .ok (.iaload, 1) := dGL_55.2.2.1
theorem dL_law_559 : decode cL_law 559 = .ok (.invokevirtual 59, 3) := dGL_55.2.2.2.1
theorem dL_law_562 : decode cL_law 562 = .ok (.pop, 1) := dGL_55.2.2.2.2.1
theorem dL_law_563 : decode cL_law 563 = .ok (.goto 653, 3) := dGL_55.2.2.2.2.2
theorem dGL_56 : decode cL_law 566 = .ok (.aload_n 1, 1) ∧ decode cL_law 567 = .ok (.aload_n 0, 1) ∧ decode cL_law 568 = .ok (.iload_n 3, 1) ∧ decode cL_law 569 = .ok (.iconst 1, 1) ∧ decode cL_law 570 = .ok (.iadd, 1) ∧ decode cL_law 571 = .ok (.iaload, 1) := by decide +kernel
theorem dL_law_566 : decode cL_law 566 = .ok (.aload_n 1, 1) := dGL_56.1
theorem dL_law_567 : decode cL_law 567 = .ok (.aload_n 0, 1) := dGL_56.2.1
theorem dL_law_568 : decode cL_law 568 = .ok (.iload_n 3, 1) := dGL_56.2.2.1
theorem dL_law_569 : decode cL_law 569 = .ok (.iconst 1, 1) := dGL_56.2.2.2.1
theorem dL_law_570 : decode cL_law 570 = .ok (.iadd, 1) := dGL_56.2.2.2.2.1
theorem dL_law_571 : decode cL_law 571 = .ok (.iaload, 1) := dGL_56.2.2.2.2.2
theorem dGL_57 : decode cL_law 572 = .ok (.invokevirtual 60, 3) ∧ decode cL_law 575 = .ok (.pop, 1) ∧ decode cL_law 576 = .ok (.aload_n 2, 1) ∧ decode cL_law 577 = .ok (.aload_n 0, 1) ∧ decode cL_law 578 = .ok (.iload_n 3, 1) ∧ decode cL_law 579 = .ok (.iconst 1, 1) := by decide +kernel
theorem dL_law_572 : decode cL_law 572 = .ok (.invokevirtual 60, 3) := dGL_57.1
theorem dL_law_575 : decode cL_law 575 = .ok (.pop, 1) := dGL_57.2.1
theorem dL_law_576 : decode cL_law 576 = .ok (.aload_n 2, 1) := dGL_57.2.2.1
theorem dL_law_577 : decode cL_law 577 = .ok (.aload_n 0, 1) := dGL_57.2.2.2.1
theorem dL_law_578 : decode cL_law 578 = .ok (.iload_n 3, 1) := dGL_57.2.2.2.2.1
theorem dL_law_579 : decode cL_law 579 = .ok (.iconst 1, 1) := dGL_57.2.2.2.2.2
theorem dGL_58 : decode cL_law 580 = .ok (.iadd, 1) ∧ decode cL_law 581 = .ok (.iaload, 1) ∧ decode cL_law 582 = .ok (.invokevirtual 63, 3) ∧ decode cL_law 585 = .ok (.pop, 1) ∧ decode cL_law 586 = .ok (.goto 630, 3) ∧ decode cL_law 589 = .ok (.aload_n 1, 1) := by decide +kernel
theorem dL_law_580 : decode cL_law 580 = .ok (.iadd, 1) := dGL_58.1
theorem dL_law_581 : decode cL_law 581 = .ok (.iaload, 1) := dGL_58.2.1
theorem dL_law_582 : decode cL_law 582 = .ok (.invokevirtual 63, 3) := dGL_58.2.2.1
theorem dL_law_585 : decode cL_law 585 = .ok (.pop, 1) := dGL_58.2.2.2.1
theorem dL_law_586 : decode cL_law 586 = .ok (.goto 630, 3) := dGL_58.2.2.2.2.1
theorem dL_law_589 : decode cL_law 589 = .ok (.aload_n 1, 1) := dGL_58.2.2.2.2.2
theorem dGL_59 : decode cL_law 590 = .ok (.aload_n 0, 1) ∧ decode cL_law 591 = .ok (.iload_n 3, 1) ∧ decode cL_law 592 = .ok (.iconst 1, 1) ∧ decode cL_law 593 = .ok (.iadd, 1) ∧ decode cL_law 594 = .ok (.iaload, 1) ∧ decode cL_law 595 = .ok (.aload_n 0, 1) := by decide +kernel
theorem dL_law_590 : decode cL_law 590 = .ok (.aload_n 0, 1) := dGL_59.1
theorem dL_law_591 : decode cL_law 591 = .ok (.iload_n 3, 1) := dGL_59.2.1
theorem dL_law_592 : decode cL_law 592 = .ok (.iconst 1, 1) := dGL_59.2.2.1
theorem dL_law_593 : decode cL_law 593 = .ok (.iadd, 1) := dGL_59.2.2.2.1
theorem dL_law_594 : decode cL_law 594 = .ok (.iaload, 1) := dGL_59.2.2.2.2.1
theorem dL_law_595 : decode cL_law 595 = .ok (.aload_n 0, 1) := dGL_59.2.2.2.2.2
theorem dGL_60 : decode cL_law 596 = .ok (.iload_n 3, 1) ∧ decode cL_law 597 = .ok (.iconst 2, 1) ∧ decode cL_law 598 = .ok (.iadd, 1) ∧ decode cL_law 599 = .ok (.iaload, 1) ∧ decode cL_law 600 = .ok (.invokevirtual 64, 3) ∧ decode cL_law 603 = .ok (.pop, 1) := by decide +kernel
theorem dL_law_596 : decode cL_law 596 = .ok (.iload_n 3, 1) := dGL_60.1
theorem dL_law_597 : decode cL_law 597 = .ok (.iconst 2, 1) := dGL_60.2.1
theorem dL_law_598 : decode cL_law 598 = .ok (.iadd, 1) := dGL_60.2.2.1
theorem dL_law_599 : decode cL_law 599 = .ok (.iaload, 1) := dGL_60.2.2.2.1
theorem dL_law_600 : decode cL_law 600 = .ok (.invokevirtual 64, 3) := dGL_60.2.2.2.2.1
theorem dL_law_603 : decode cL_law 603 = .ok (.pop, 1) := dGL_60.2.2.2.2.2
theorem dGL_61 : decode cL_law 604 = .ok (.aload_n 2, 1) ∧ decode cL_law 605 = .ok (.aload_n 0, 1) ∧ decode cL_law 606 = .ok (.iload_n 3, 1) ∧ decode cL_law 607 = .ok (.iconst 1, 1) ∧ decode cL_law 608 = .ok (.iadd, 1) ∧ decode cL_law 609 = .ok (.iaload, 1) := by decide +kernel
theorem dL_law_604 : decode cL_law 604 = .ok (.aload_n 2, 1) := dGL_61.1
theorem dL_law_605 : decode cL_law 605 = .ok (.aload_n 0, 1) := dGL_61.2.1
theorem dL_law_606 : decode cL_law 606 = .ok (.iload_n 3, 1) := dGL_61.2.2.1
theorem dL_law_607 : decode cL_law 607 = .ok (.iconst 1, 1) := dGL_61.2.2.2.1
theorem dL_law_608 : decode cL_law 608 = .ok (.iadd, 1) := dGL_61.2.2.2.2.1
theorem dL_law_609 : decode cL_law 609 = .ok (.iaload, 1) := dGL_61.2.2.2.2.2
theorem dGL_62 : decode cL_law 610 = .ok (.aload_n 0, 1) ∧ decode cL_law 611 = .ok (.iload_n 3, 1) ∧ decode cL_law 612 = .ok (.iconst 2, 1) ∧ decode cL_law 613 = .ok (.iadd, 1) ∧ decode cL_law 614 = .ok (.iaload, 1) ∧ decode cL_law 615 = .ok (.invokevirtual 68, 3) := by decide +kernel
theorem dL_law_610 : decode cL_law 610 = .ok (.aload_n 0, 1) := dGL_62.1
theorem dL_law_611 : decode cL_law 611 = .ok (.iload_n 3, 1) := dGL_62.2.1
theorem dL_law_612 : decode cL_law 612 = .ok (.iconst 2, 1) := dGL_62.2.2.1
theorem dL_law_613 : decode cL_law 613 = .ok (.iadd, 1) := dGL_62.2.2.2.1
theorem dL_law_614 : decode cL_law 614 = .ok (.iaload, 1) := dGL_62.2.2.2.2.1
theorem dL_law_615 : decode cL_law 615 = .ok (.invokevirtual 68, 3) := dGL_62.2.2.2.2.2
theorem dGL_63 : decode cL_law 618 = .ok (.pop, 1) ∧ decode cL_law 619 = .ok (.goto 597, 3) ∧ decode cL_law 622 = .ok (.aload_n 1, 1) ∧ decode cL_law 623 = .ok (.aload_n 0, 1) ∧ decode cL_law 624 = .ok (.iload_n 3, 1) ∧ decode cL_law 625 = .ok (.iconst 1, 1) := by decide +kernel
theorem dL_law_618 : decode cL_law 618 = .ok (.pop, 1) := dGL_63.1
theorem dL_law_619 : decode cL_law 619 = .ok (.goto 597, 3) := dGL_63.2.1
theorem dL_law_622 : decode cL_law 622 = .ok (.aload_n 1, 1) := dGL_63.2.2.1
theorem dL_law_623 : decode cL_law 623 = .ok (.aload_n 0, 1) := dGL_63.2.2.2.1
theorem dL_law_624 : decode cL_law 624 = .ok (.iload_n 3, 1) := dGL_63.2.2.2.2.1
theorem dL_law_625 : decode cL_law 625 = .ok (.iconst 1, 1) := dGL_63.2.2.2.2.2
theorem dGL_64 : decode cL_law 626 = .ok (.iadd, 1) ∧ decode cL_law 627 = .ok (.iaload, 1) ∧ decode cL_law 628 = .ok (.aload_n 0, 1) ∧ decode cL_law 629 = .ok (.iload_n 3, 1) ∧ decode cL_law 630 = .ok (.iconst 2, 1) ∧ decode cL_law 631 = .ok (.iadd, 1) := by decide +kernel
theorem dL_law_626 : decode cL_law 626 = .ok (.iadd, 1) := dGL_64.1
theorem dL_law_627 : decode cL_law 627 = .ok (.iaload, 1) := dGL_64.2.1
theorem dL_law_628 : decode cL_law 628 = .ok (.aload_n 0, 1) := dGL_64.2.2.1
theorem dL_law_629 : decode cL_law 629 = .ok (.iload_n 3, 1) := dGL_64.2.2.2.1
theorem dL_law_630 : decode cL_law 630 = .ok (.iconst 2, 1) := dGL_64.2.2.2.2.1
theorem dL_law_631 : decode cL_law 631 = .ok (.iadd, 1) := dGL_64.2.2.2.2.2
theorem dGL_65 : decode cL_law 632 = .ok (.iaload, 1) ∧ decode cL_law 633 = .ok (.invokevirtual 69, 3) ∧ decode cL_law 636 = .ok (.pop, 1) ∧ decode cL_law 637 = .ok (.aload_n 2, 1) ∧ decode cL_law 638 = .ok (.aload_n 0, 1) ∧ decode cL_law 639 = .ok (.iload_n 3, 1) := by decide +kernel
theorem dL_law_632 : decode cL_law 632 = .ok (.iaload, 1) := dGL_65.1
theorem dL_law_633 : decode cL_law 633 = .ok (.invokevirtual 69, 3) := dGL_65.2.1
theorem dL_law_636 : decode cL_law 636 = .ok (.pop, 1) := dGL_65.2.2.1
theorem dL_law_637 : decode cL_law 637 = .ok (.aload_n 2, 1) := dGL_65.2.2.2.1
theorem dL_law_638 : decode cL_law 638 = .ok (.aload_n 0, 1) := dGL_65.2.2.2.2.1
theorem dL_law_639 : decode cL_law 639 = .ok (.iload_n 3, 1) := dGL_65.2.2.2.2.2
theorem dGL_66 : decode cL_law 640 = .ok (.iconst 1, 1) ∧ decode cL_law 641 = .ok (.iadd, 1) ∧ decode cL_law 642 = .ok (.iaload, 1) ∧ decode cL_law 643 = .ok (.aload_n 0, 1) ∧ decode cL_law 644 = .ok (.iload_n 3, 1) ∧ decode cL_law 645 = .ok (.iconst 2, 1) := by decide +kernel
theorem dL_law_640 : decode cL_law 640 = .ok (.iconst 1, 1) := dGL_66.1
theorem dL_law_641 : decode cL_law 641 = .ok (.iadd, 1) := dGL_66.2.1
theorem dL_law_642 : decode cL_law 642 = .ok (.iaload, 1) := dGL_66.2.2.1
theorem dL_law_643 : decode cL_law 643 = .ok (.aload_n 0, 1) := dGL_66.2.2.2.1
theorem dL_law_644 : decode cL_law 644 = .ok (.iload_n 3, 1) := dGL_66.2.2.2.2.1
theorem dL_law_645 : decode cL_law 645 = .ok (.iconst 2, 1) := dGL_66.2.2.2.2.2
theorem dGL_67 : decode cL_law 646 = .ok (.iadd, 1) ∧ decode cL_law 647 = .ok (.iaload, 1) ∧ decode cL_law 648 = .ok (.invokevirtual 72, 3) ∧ decode cL_law 651 = .ok (.pop, 1) ∧ decode cL_law 652 = .ok (.goto 564, 3) ∧ decode cL_law 655 = .ok (.aload_n 1, 1) := by decide +kernel
theorem dL_law_646 : decode cL_law 646 = .ok (.iadd, 1) := dGL_67.1
theorem dL_law_647 : decode cL_law 647 = .ok (.iaload, 1) := dGL_67.2.1
theorem dL_law_648 : decode cL_law 648 = .ok (.invokevirtual 72, 3) := dGL_67.2.2.1
theorem dL_law_651 : decode cL_law 651 = .ok (.pop, 1) := dGL_67.2.2.2.1
theorem dL_law_652 : decode cL_law 652 = .ok (.goto 564, 3) := dGL_67.2.2.2.2.1
theorem dL_law_655 : decode cL_law 655 = .ok (.aload_n 1, 1) := dGL_67.2.2.2.2.2
theorem dGL_68 : decode cL_law 656 = .ok (.aload_n 0, 1) ∧ decode cL_law 657 = .ok (.iload_n 3, 1) ∧ decode cL_law 658 = .ok (.iconst 1, 1) ∧ decode cL_law 659 = .ok (.iadd, 1) ∧ decode cL_law 660 = .ok (.iaload, 1) ∧ decode cL_law 661 = .ok (.aload_n 0, 1) := by decide +kernel
theorem dL_law_656 : decode cL_law 656 = .ok (.aload_n 0, 1) := dGL_68.1
theorem dL_law_657 : decode cL_law 657 = .ok (.iload_n 3, 1) := dGL_68.2.1
theorem dL_law_658 : decode cL_law 658 = .ok (.iconst 1, 1) := dGL_68.2.2.1
theorem dL_law_659 : decode cL_law 659 = .ok (.iadd, 1) := dGL_68.2.2.2.1
theorem dL_law_660 : decode cL_law 660 = .ok (.iaload, 1) := dGL_68.2.2.2.2.1
theorem dL_law_661 : decode cL_law 661 = .ok (.aload_n 0, 1) := dGL_68.2.2.2.2.2
theorem dGL_69 : decode cL_law 662 = .ok (.iload_n 3, 1) ∧ decode cL_law 663 = .ok (.iconst 2, 1) ∧ decode cL_law 664 = .ok (.iadd, 1) ∧ decode cL_law 665 = .ok (.iaload, 1) ∧ decode cL_law 666 = .ok (.invokevirtual 73, 3) ∧ decode cL_law 669 = .ok (.pop, 1) := by decide +kernel
theorem dL_law_662 : decode cL_law 662 = .ok (.iload_n 3, 1) := dGL_69.1
theorem dL_law_663 : decode cL_law 663 = .ok (.iconst 2, 1) := dGL_69.2.1
theorem dL_law_664 : decode cL_law 664 = .ok (.iadd, 1) := dGL_69.2.2.1
theorem dL_law_665 : decode cL_law 665 = .ok (.iaload, 1) := dGL_69.2.2.2.1
theorem dL_law_666 : decode cL_law 666 = .ok (.invokevirtual 73, 3) := dGL_69.2.2.2.2.1
theorem dL_law_669 : decode cL_law 669 = .ok (.pop, 1) := dGL_69.2.2.2.2.2
theorem dGL_70 : decode cL_law 670 = .ok (.aload_n 2, 1) ∧ decode cL_law 671 = .ok (.aload_n 0, 1) ∧ decode cL_law 672 = .ok (.iload_n 3, 1) ∧ decode cL_law 673 = .ok (.iconst 1, 1) ∧ decode cL_law 674 = .ok (.iadd, 1) ∧ decode cL_law 675 = .ok (.iaload, 1) := by decide +kernel
theorem dL_law_670 : decode cL_law 670 = .ok (.aload_n 2, 1) := dGL_70.1
theorem dL_law_671 : decode cL_law 671 = .ok (.aload_n 0, 1) := dGL_70.2.1
theorem dL_law_672 : decode cL_law 672 = .ok (.iload_n 3, 1) := dGL_70.2.2.1
theorem dL_law_673 : decode cL_law 673 = .ok (.iconst 1, 1) := dGL_70.2.2.2.1
theorem dL_law_674 : decode cL_law 674 = .ok (.iadd, 1) := dGL_70.2.2.2.2.1
theorem dL_law_675 : decode cL_law 675 = .ok (.iaload, 1) := dGL_70.2.2.2.2.2
theorem dGL_71 : decode cL_law 676 = .ok (.aload_n 0, 1) ∧ decode cL_law 677 = .ok (.iload_n 3, 1) ∧ decode cL_law 678 = .ok (.iconst 2, 1) ∧ decode cL_law 679 = .ok (.iadd, 1) ∧ decode cL_law 680 = .ok (.iaload, 1) ∧ decode cL_law 681 = .ok (.invokevirtual 76, 3) := by decide +kernel
theorem dL_law_676 : decode cL_law 676 = .ok (.aload_n 0, 1) := dGL_71.1
theorem dL_law_677 : decode cL_law 677 = .ok (.iload_n 3, 1) := dGL_71.2.1
theorem dL_law_678 : decode cL_law 678 = .ok (.iconst 2, 1) := dGL_71.2.2.1
theorem dL_law_679 : decode cL_law 679 = .ok (.iadd, 1) := dGL_71.2.2.2.1
theorem dL_law_680 : decode cL_law 680 = .ok (.iaload, 1) := dGL_71.2.2.2.2.1
theorem dL_law_681 : decode cL_law 681 = .ok (.invokevirtual 76, 3) := dGL_71.2.2.2.2.2
theorem dGL_72 : decode cL_law 684 = .ok (.pop, 1) ∧ decode cL_law 685 = .ok (.goto 531, 3) ∧ decode cL_law 688 = .ok (.aload_n 1, 1) ∧ decode cL_law 689 = .ok (.aload_n 0, 1) ∧ decode cL_law 690 = .ok (.iload_n 3, 1) ∧ decode cL_law 691 = .ok (.iconst 1, 1) := by decide +kernel
theorem dL_law_684 : decode cL_law 684 = .ok (.pop, 1) := dGL_72.1
theorem dL_law_685 : decode cL_law 685 = .ok (.goto 531, 3) := dGL_72.2.1
theorem dL_law_688 : decode cL_law 688 = .ok (.aload_n 1, 1) := dGL_72.2.2.1
theorem dL_law_689 : decode cL_law 689 = .ok (.aload_n 0, 1) := dGL_72.2.2.2.1
theorem dL_law_690 : decode cL_law 690 = .ok (.iload_n 3, 1) := dGL_72.2.2.2.2.1
theorem dL_law_691 : decode cL_law 691 = .ok (.iconst 1, 1) := dGL_72.2.2.2.2.2
theorem dGL_73 : decode cL_law 692 = .ok (.iadd, 1) ∧ decode cL_law 693 = .ok (.iaload, 1) ∧ decode cL_law 694 = .ok (.aload_n 0, 1) ∧ decode cL_law 695 = .ok (.iload_n 3, 1) ∧ decode cL_law 696 = .ok (.iconst 2, 1) ∧ decode cL_law 697 = .ok (.iadd, 1) := by decide +kernel
theorem dL_law_692 : decode cL_law 692 = .ok (.iadd, 1) := dGL_73.1
theorem dL_law_693 : decode cL_law 693 = .ok (.iaload, 1) := dGL_73.2.1
theorem dL_law_694 : decode cL_law 694 = .ok (.aload_n 0, 1) := dGL_73.2.2.1
theorem dL_law_695 : decode cL_law 695 = .ok (.iload_n 3, 1) := dGL_73.2.2.2.1
theorem dL_law_696 : decode cL_law 696 = .ok (.iconst 2, 1) := dGL_73.2.2.2.2.1
theorem dL_law_697 : decode cL_law 697 = .ok (.iadd, 1) := dGL_73.2.2.2.2.2
theorem dGL_74 : decode cL_law 698 = .ok (.iaload, 1) ∧ decode cL_law 699 = .ok (.invokevirtual 77, 3) ∧ decode cL_law 702 = .ok (.pop, 1) ∧ decode cL_law 703 = .ok (.aload_n 2, 1) ∧ decode cL_law 704 = .ok (.aload_n 0, 1) ∧ decode cL_law 705 = .ok (.iload_n 3, 1) := by decide +kernel
theorem dL_law_698 : decode cL_law 698 = .ok (.iaload, 1) := dGL_74.1
theorem dL_law_699 : decode cL_law 699 = .ok (.invokevirtual 77, 3) := dGL_74.2.1
theorem dL_law_702 : decode cL_law 702 = .ok (.pop, 1) := dGL_74.2.2.1
theorem dL_law_703 : decode cL_law 703 = .ok (.aload_n 2, 1) := dGL_74.2.2.2.1
theorem dL_law_704 : decode cL_law 704 = .ok (.aload_n 0, 1) := dGL_74.2.2.2.2.1
theorem dL_law_705 : decode cL_law 705 = .ok (.iload_n 3, 1) := dGL_74.2.2.2.2.2
theorem dGL_75 : decode cL_law 706 = .ok (.iconst 1, 1) ∧ decode cL_law 707 = .ok (.iadd, 1) ∧ decode cL_law 708 = .ok (.iaload, 1) ∧ decode cL_law 709 = .ok (.aload_n 0, 1) ∧ decode cL_law 710 = .ok (.iload_n 3, 1) ∧ decode cL_law 711 = .ok (.iconst 2, 1) := by decide +kernel
theorem dL_law_706 : decode cL_law 706 = .ok (.iconst 1, 1) := dGL_75.1
theorem dL_law_707 : decode cL_law 707 = .ok (.iadd, 1) := dGL_75.2.1
theorem dL_law_708 : decode cL_law 708 = .ok (.iaload, 1) := dGL_75.2.2.1
theorem dL_law_709 : decode cL_law 709 = .ok (.aload_n 0, 1) := dGL_75.2.2.2.1
theorem dL_law_710 : decode cL_law 710 = .ok (.iload_n 3, 1) := dGL_75.2.2.2.2.1
theorem dL_law_711 : decode cL_law 711 = .ok (.iconst 2, 1) := dGL_75.2.2.2.2.2
theorem dGL_76 : decode cL_law 712 = .ok (.iadd, 1) ∧ decode cL_law 713 = .ok (.iaload, 1) ∧ decode cL_law 714 = .ok (.invokevirtual 80, 3) ∧ decode cL_law 717 = .ok (.pop, 1) ∧ decode cL_law 718 = .ok (.goto 498, 3) ∧ decode cL_law 721 = .ok (.aload_n 1, 1) := by decide +kernel
theorem dL_law_712 : decode cL_law 712 = .ok (.iadd, 1) := dGL_76.1
theorem dL_law_713 : decode cL_law 713 = .ok (.iaload, 1) := dGL_76.2.1
theorem dL_law_714 : decode cL_law 714 = .ok (.invokevirtual 80, 3) := dGL_76.2.2.1
theorem dL_law_717 : decode cL_law 717 = .ok (.pop, 1) := dGL_76.2.2.2.1
theorem dL_law_718 : decode cL_law 718 = .ok (.goto 498, 3) := dGL_76.2.2.2.2.1
theorem dL_law_721 : decode cL_law 721 = .ok (.aload_n 1, 1) := dGL_76.2.2.2.2.2
theorem dGL_77 : decode cL_law 722 = .ok (.aload_n 0, 1) ∧ decode cL_law 723 = .ok (.iload_n 3, 1) ∧ decode cL_law 724 = .ok (.iconst 1, 1) ∧ decode cL_law 725 = .ok (.iadd, 1) ∧ decode cL_law 726 = .ok (.iaload, 1) ∧ decode cL_law 727 = .ok (.aload_n 0, 1) := by decide +kernel
theorem dL_law_722 : decode cL_law 722 = .ok (.aload_n 0, 1) := dGL_77.1
theorem dL_law_723 : decode cL_law 723 = .ok (.iload_n 3, 1) := dGL_77.2.1
theorem dL_law_724 : decode cL_law 724 = .ok (.iconst 1, 1) := dGL_77.2.2.1
theorem dL_law_725 : decode cL_law 725 = .ok (.iadd, 1) := dGL_77.2.2.2.1
theorem dL_law_726 : decode cL_law 726 = .ok (.iaload, 1) := dGL_77.2.2.2.2.1
theorem dL_law_727 : decode cL_law 727 = .ok (.aload_n 0, 1) := dGL_77.2.2.2.2.2
theorem dGL_78 : decode cL_law 728 = .ok (.iload_n 3, 1) ∧ decode cL_law 729 = .ok (.iconst 2, 1) ∧ decode cL_law 730 = .ok (.iadd, 1) ∧ decode cL_law 731 = .ok (.iaload, 1) ∧ decode cL_law 732 = .ok (.aload_n 0, 1) ∧ decode cL_law 733 = .ok (.iload_n 3, 1) := by decide +kernel
theorem dL_law_728 : decode cL_law 728 = .ok (.iload_n 3, 1) := dGL_78.1
theorem dL_law_729 : decode cL_law 729 = .ok (.iconst 2, 1) := dGL_78.2.1
theorem dL_law_730 : decode cL_law 730 = .ok (.iadd, 1) := dGL_78.2.2.1
theorem dL_law_731 : decode cL_law 731 = .ok (.iaload, 1) := dGL_78.2.2.2.1
theorem dL_law_732 : decode cL_law 732 = .ok (.aload_n 0, 1) := dGL_78.2.2.2.2.1
theorem dL_law_733 : decode cL_law 733 = .ok (.iload_n 3, 1) := dGL_78.2.2.2.2.2
theorem dGL_79 : decode cL_law 734 = .ok (.iconst 3, 1) ∧ decode cL_law 735 = .ok (.iadd, 1) ∧ decode cL_law 736 = .ok (.iaload, 1) ∧ decode cL_law 737 = .ok (.aload_n 0, 1) ∧ decode cL_law 738 = .ok (.iload_n 3, 1) ∧ decode cL_law 739 = .ok (.iconst 4, 1) := by decide +kernel
theorem dL_law_734 : decode cL_law 734 = .ok (.iconst 3, 1) := dGL_79.1
theorem dL_law_735 : decode cL_law 735 = .ok (.iadd, 1) := dGL_79.2.1
theorem dL_law_736 : decode cL_law 736 = .ok (.iaload, 1) := dGL_79.2.2.1
theorem dL_law_737 : decode cL_law 737 = .ok (.aload_n 0, 1) := dGL_79.2.2.2.1
theorem dL_law_738 : decode cL_law 738 = .ok (.iload_n 3, 1) := dGL_79.2.2.2.2.1
theorem dL_law_739 : decode cL_law 739 = .ok (.iconst 4, 1) := dGL_79.2.2.2.2.2
theorem dGL_80 : decode cL_law 740 = .ok (.iadd, 1) ∧ decode cL_law 741 = .ok (.iaload, 1) ∧ decode cL_law 742 = .ok (.invokevirtual 81, 3) ∧ decode cL_law 745 = .ok (.pop, 1) ∧ decode cL_law 746 = .ok (.aload_n 2, 1) ∧ decode cL_law 747 = .ok (.aload_n 0, 1) := by decide +kernel
theorem dL_law_740 : decode cL_law 740 = .ok (.iadd, 1) := dGL_80.1
theorem dL_law_741 : decode cL_law 741 = .ok (.iaload, 1) := dGL_80.2.1
theorem dL_law_742 : decode cL_law 742 = .ok (.invokevirtual 81, 3) := dGL_80.2.2.1
theorem dL_law_745 : decode cL_law 745 = .ok (.pop, 1) := dGL_80.2.2.2.1
theorem dL_law_746 : decode cL_law 746 = .ok (.aload_n 2, 1) := dGL_80.2.2.2.2.1
theorem dL_law_747 : decode cL_law 747 = .ok (.aload_n 0, 1) := dGL_80.2.2.2.2.2
theorem dGL_81 : decode cL_law 748 = .ok (.iload_n 3, 1) ∧ decode cL_law 749 = .ok (.iconst 1, 1) ∧ decode cL_law 750 = .ok (.iadd, 1) ∧ decode cL_law 751 = .ok (.iaload, 1) ∧ decode cL_law 752 = .ok (.aload_n 0, 1) ∧ decode cL_law 753 = .ok (.iload_n 3, 1) := by decide +kernel
theorem dL_law_748 : decode cL_law 748 = .ok (.iload_n 3, 1) := dGL_81.1
theorem dL_law_749 : decode cL_law 749 = .ok (.iconst 1, 1) := dGL_81.2.1
theorem dL_law_750 : decode cL_law 750 = .ok (.iadd, 1) := dGL_81.2.2.1
theorem dL_law_751 : decode cL_law 751 = .ok (.iaload, 1) := dGL_81.2.2.2.1
theorem dL_law_752 : decode cL_law 752 = .ok (.aload_n 0, 1) := dGL_81.2.2.2.2.1
theorem dL_law_753 : decode cL_law 753 = .ok (.iload_n 3, 1) := dGL_81.2.2.2.2.2
theorem dGL_82 : decode cL_law 754 = .ok (.iconst 2, 1) ∧ decode cL_law 755 = .ok (.iadd, 1) ∧ decode cL_law 756 = .ok (.iaload, 1) ∧ decode cL_law 757 = .ok (.aload_n 0, 1) ∧ decode cL_law 758 = .ok (.iload_n 3, 1) ∧ decode cL_law 759 = .ok (.iconst 3, 1) := by decide +kernel
theorem dL_law_754 : decode cL_law 754 = .ok (.iconst 2, 1) := dGL_82.1
theorem dL_law_755 : decode cL_law 755 = .ok (.iadd, 1) := dGL_82.2.1
theorem dL_law_756 : decode cL_law 756 = .ok (.iaload, 1) := dGL_82.2.2.1
theorem dL_law_757 : decode cL_law 757 = .ok (.aload_n 0, 1) := dGL_82.2.2.2.1
theorem dL_law_758 : decode cL_law 758 = .ok (.iload_n 3, 1) := dGL_82.2.2.2.2.1
theorem dL_law_759 : decode cL_law 759 = .ok (.iconst 3, 1) := dGL_82.2.2.2.2.2
theorem dGL_83 : decode cL_law 760 = .ok (.iadd, 1) ∧ decode cL_law 761 = .ok (.iaload, 1) ∧ decode cL_law 762 = .ok (.aload_n 0, 1) ∧ decode cL_law 763 = .ok (.iload_n 3, 1) ∧ decode cL_law 764 = .ok (.iconst 4, 1) ∧ decode cL_law 765 = .ok (.iadd, 1) := by decide +kernel
theorem dL_law_760 : decode cL_law 760 = .ok (.iadd, 1) := dGL_83.1
theorem dL_law_761 : decode cL_law 761 = .ok (.iaload, 1) := dGL_83.2.1
theorem dL_law_762 : decode cL_law 762 = .ok (.aload_n 0, 1) := dGL_83.2.2.1
theorem dL_law_763 : decode cL_law 763 = .ok (.iload_n 3, 1) := dGL_83.2.2.2.1
theorem dL_law_764 : decode cL_law 764 = .ok (.iconst 4, 1) := dGL_83.2.2.2.2.1
theorem dL_law_765 : decode cL_law 765 = .ok (.iadd, 1) := dGL_83.2.2.2.2.2
theorem dGL_84 : decode cL_law 766 = .ok (.iaload, 1) ∧ decode cL_law 767 = .ok (.invokevirtual 85, 3) ∧ decode cL_law 770 = .ok (.pop, 1) ∧ decode cL_law 771 = .ok (.goto 445, 3) ∧ decode cL_law 774 = .ok (.aload_n 1, 1) ∧ decode cL_law 775 = .ok (.aload_n 0, 1) := by decide +kernel
theorem dL_law_766 : decode cL_law 766 = .ok (.iaload, 1) := dGL_84.1
theorem dL_law_767 : decode cL_law 767 = .ok (.invokevirtual 85, 3) := dGL_84.2.1
theorem dL_law_770 : decode cL_law 770 = .ok (.pop, 1) := dGL_84.2.2.1
theorem dL_law_771 : decode cL_law 771 = .ok (.goto 445, 3) := dGL_84.2.2.2.1
theorem dL_law_774 : decode cL_law 774 = .ok (.aload_n 1, 1) := dGL_84.2.2.2.2.1
theorem dL_law_775 : decode cL_law 775 = .ok (.aload_n 0, 1) := dGL_84.2.2.2.2.2
theorem dGL_85 : decode cL_law 776 = .ok (.iload_n 3, 1) ∧ decode cL_law 777 = .ok (.iconst 1, 1) ∧ decode cL_law 778 = .ok (.iadd, 1) ∧ decode cL_law 779 = .ok (.iaload, 1) ∧ decode cL_law 780 = .ok (.aload_n 0, 1) ∧ decode cL_law 781 = .ok (.iload_n 3, 1) := by decide +kernel
theorem dL_law_776 : decode cL_law 776 = .ok (.iload_n 3, 1) := dGL_85.1
theorem dL_law_777 : decode cL_law 777 = .ok (.iconst 1, 1) := dGL_85.2.1
theorem dL_law_778 : decode cL_law 778 = .ok (.iadd, 1) := dGL_85.2.2.1
theorem dL_law_779 : decode cL_law 779 = .ok (.iaload, 1) := dGL_85.2.2.2.1
theorem dL_law_780 : decode cL_law 780 = .ok (.aload_n 0, 1) := dGL_85.2.2.2.2.1
theorem dL_law_781 : decode cL_law 781 = .ok (.iload_n 3, 1) := dGL_85.2.2.2.2.2
theorem dGL_86 : decode cL_law 782 = .ok (.iconst 2, 1) ∧ decode cL_law 783 = .ok (.iadd, 1) ∧ decode cL_law 784 = .ok (.iaload, 1) ∧ decode cL_law 785 = .ok (.aload_n 0, 1) ∧ decode cL_law 786 = .ok (.iload_n 3, 1) ∧ decode cL_law 787 = .ok (.iconst 3, 1) := by decide +kernel
theorem dL_law_782 : decode cL_law 782 = .ok (.iconst 2, 1) := dGL_86.1
theorem dL_law_783 : decode cL_law 783 = .ok (.iadd, 1) := dGL_86.2.1
theorem dL_law_784 : decode cL_law 784 = .ok (.iaload, 1) := dGL_86.2.2.1
theorem dL_law_785 : decode cL_law 785 = .ok (.aload_n 0, 1) := dGL_86.2.2.2.1
theorem dL_law_786 : decode cL_law 786 = .ok (.iload_n 3, 1) := dGL_86.2.2.2.2.1
theorem dL_law_787 : decode cL_law 787 = .ok (.iconst 3, 1) := dGL_86.2.2.2.2.2
theorem dGL_87 : decode cL_law 788 = .ok (.iadd, 1) ∧ decode cL_law 789 = .ok (.iaload, 1) ∧ decode cL_law 790 = .ok (.invokevirtual 86, 3) ∧ decode cL_law 793 = .ok (.pop, 1) ∧ decode cL_law 794 = .ok (.aload_n 2, 1) ∧ decode cL_law 795 = .ok (.aload_n 0, 1) := by decide +kernel
theorem dL_law_788 : decode cL_law 788 = .ok (.iadd, 1) := dGL_87.1
theorem dL_law_789 : decode cL_law 789 = .ok (.iaload, 1) := dGL_87.2.1
theorem dL_law_790 : decode cL_law 790 = .ok (.invokevirtual 86, 3) := dGL_87.2.2.1
theorem dL_law_793 : decode cL_law 793 = .ok (.pop, 1) := dGL_87.2.2.2.1
theorem dL_law_794 : decode cL_law 794 = .ok (.aload_n 2, 1) := dGL_87.2.2.2.2.1
theorem dL_law_795 : decode cL_law 795 = .ok (.aload_n 0, 1) := dGL_87.2.2.2.2.2
theorem dGL_88 : decode cL_law 796 = .ok (.iload_n 3, 1) ∧ decode cL_law 797 = .ok (.iconst 1, 1) ∧ decode cL_law 798 = .ok (.iadd, 1) ∧ decode cL_law 799 = .ok (.iaload, 1) ∧ decode cL_law 800 = .ok (.aload_n 0, 1) ∧ decode cL_law 801 = .ok (.iload_n 3, 1) := by decide +kernel
theorem dL_law_796 : decode cL_law 796 = .ok (.iload_n 3, 1) := dGL_88.1
theorem dL_law_797 : decode cL_law 797 = .ok (.iconst 1, 1) := dGL_88.2.1
theorem dL_law_798 : decode cL_law 798 = .ok (.iadd, 1) := dGL_88.2.2.1
theorem dL_law_799 : decode cL_law 799 = .ok (.iaload, 1) := dGL_88.2.2.2.1
theorem dL_law_800 : decode cL_law 800 = .ok (.aload_n 0, 1) := dGL_88.2.2.2.2.1
theorem dL_law_801 : decode cL_law 801 = .ok (.iload_n 3, 1) := dGL_88.2.2.2.2.2
theorem dGL_89 : decode cL_law 802 = .ok (.iconst 2, 1) ∧ decode cL_law 803 = .ok (.iadd, 1) ∧ decode cL_law 804 = .ok (.iaload, 1) ∧ decode cL_law 805 = .ok (.aload_n 0, 1) ∧ decode cL_law 806 = .ok (.iload_n 3, 1) ∧ decode cL_law 807 = .ok (.iconst 3, 1) := by decide +kernel
theorem dL_law_802 : decode cL_law 802 = .ok (.iconst 2, 1) := dGL_89.1
theorem dL_law_803 : decode cL_law 803 = .ok (.iadd, 1) := dGL_89.2.1
theorem dL_law_804 : decode cL_law 804 = .ok (.iaload, 1) := dGL_89.2.2.1
theorem dL_law_805 : decode cL_law 805 = .ok (.aload_n 0, 1) := dGL_89.2.2.2.1
theorem dL_law_806 : decode cL_law 806 = .ok (.iload_n 3, 1) := dGL_89.2.2.2.2.1
theorem dL_law_807 : decode cL_law 807 = .ok (.iconst 3, 1) := dGL_89.2.2.2.2.2
theorem dGL_90 : decode cL_law 808 = .ok (.iadd, 1) ∧ decode cL_law 809 = .ok (.iaload, 1) ∧ decode cL_law 810 = .ok (.invokevirtual 89, 3) ∧ decode cL_law 813 = .ok (.pop, 1) ∧ decode cL_law 814 = .ok (.goto 402, 3) ∧ decode cL_law 817 = .ok (.aload_n 1, 1) := by decide +kernel
theorem dL_law_808 : decode cL_law 808 = .ok (.iadd, 1) := dGL_90.1
theorem dL_law_809 : decode cL_law 809 = .ok (.iaload, 1) := dGL_90.2.1
theorem dL_law_810 : decode cL_law 810 = .ok (.invokevirtual 89, 3) := dGL_90.2.2.1
theorem dL_law_813 : decode cL_law 813 = .ok (.pop, 1) := dGL_90.2.2.2.1
theorem dL_law_814 : decode cL_law 814 = .ok (.goto 402, 3) := dGL_90.2.2.2.2.1
theorem dL_law_817 : decode cL_law 817 = .ok (.aload_n 1, 1) := dGL_90.2.2.2.2.2
theorem dGL_91 : decode cL_law 818 = .ok (.aload_n 0, 1) ∧ decode cL_law 819 = .ok (.iload_n 3, 1) ∧ decode cL_law 820 = .ok (.iconst 1, 1) ∧ decode cL_law 821 = .ok (.iadd, 1) ∧ decode cL_law 822 = .ok (.iaload, 1) ∧ decode cL_law 823 = .ok (.aload_n 0, 1) := by decide +kernel
theorem dL_law_818 : decode cL_law 818 = .ok (.aload_n 0, 1) := dGL_91.1
theorem dL_law_819 : decode cL_law 819 = .ok (.iload_n 3, 1) := dGL_91.2.1
theorem dL_law_820 : decode cL_law 820 = .ok (.iconst 1, 1) := dGL_91.2.2.1
theorem dL_law_821 : decode cL_law 821 = .ok (.iadd, 1) := dGL_91.2.2.2.1
theorem dL_law_822 : decode cL_law 822 = .ok (.iaload, 1) := dGL_91.2.2.2.2.1
theorem dL_law_823 : decode cL_law 823 = .ok (.aload_n 0, 1) := dGL_91.2.2.2.2.2
theorem dGL_92 : decode cL_law 824 = .ok (.iload_n 3, 1) ∧ decode cL_law 825 = .ok (.iconst 2, 1) ∧ decode cL_law 826 = .ok (.iadd, 1) ∧ decode cL_law 827 = .ok (.iaload, 1) ∧ decode cL_law 828 = .ok (.aload_n 0, 1) ∧ decode cL_law 829 = .ok (.iload_n 3, 1) := by decide +kernel
theorem dL_law_824 : decode cL_law 824 = .ok (.iload_n 3, 1) := dGL_92.1
theorem dL_law_825 : decode cL_law 825 = .ok (.iconst 2, 1) := dGL_92.2.1
theorem dL_law_826 : decode cL_law 826 = .ok (.iadd, 1) := dGL_92.2.2.1
theorem dL_law_827 : decode cL_law 827 = .ok (.iaload, 1) := dGL_92.2.2.2.1
theorem dL_law_828 : decode cL_law 828 = .ok (.aload_n 0, 1) := dGL_92.2.2.2.2.1
theorem dL_law_829 : decode cL_law 829 = .ok (.iload_n 3, 1) := dGL_92.2.2.2.2.2
theorem dGL_93 : decode cL_law 830 = .ok (.iconst 3, 1) ∧ decode cL_law 831 = .ok (.iadd, 1) ∧ decode cL_law 832 = .ok (.iaload, 1) ∧ decode cL_law 833 = .ok (.invokevirtual 90, 3) ∧ decode cL_law 836 = .ok (.pop, 1) ∧ decode cL_law 837 = .ok (.aload_n 2, 1) := by decide +kernel
theorem dL_law_830 : decode cL_law 830 = .ok (.iconst 3, 1) := dGL_93.1
theorem dL_law_831 : decode cL_law 831 = .ok (.iadd, 1) := dGL_93.2.1
theorem dL_law_832 : decode cL_law 832 = .ok (.iaload, 1) := dGL_93.2.2.1
theorem dL_law_833 : decode cL_law 833 = .ok (.invokevirtual 90, 3) := dGL_93.2.2.2.1
theorem dL_law_836 : decode cL_law 836 = .ok (.pop, 1) := dGL_93.2.2.2.2.1
theorem dL_law_837 : decode cL_law 837 = .ok (.aload_n 2, 1) := dGL_93.2.2.2.2.2
theorem dGL_94 : decode cL_law 838 = .ok (.aload_n 0, 1) ∧ decode cL_law 839 = .ok (.iload_n 3, 1) ∧ decode cL_law 840 = .ok (.iconst 1, 1) ∧ decode cL_law 841 = .ok (.iadd, 1) ∧ decode cL_law 842 = .ok (.iaload, 1) ∧ decode cL_law 843 = .ok (.aload_n 0, 1) := by decide +kernel
theorem dL_law_838 : decode cL_law 838 = .ok (.aload_n 0, 1) := dGL_94.1
theorem dL_law_839 : decode cL_law 839 = .ok (.iload_n 3, 1) := dGL_94.2.1
theorem dL_law_840 : decode cL_law 840 = .ok (.iconst 1, 1) := dGL_94.2.2.1
theorem dL_law_841 : decode cL_law 841 = .ok (.iadd, 1) := dGL_94.2.2.2.1
theorem dL_law_842 : decode cL_law 842 = .ok (.iaload, 1) := dGL_94.2.2.2.2.1
theorem dL_law_843 : decode cL_law 843 = .ok (.aload_n 0, 1) := dGL_94.2.2.2.2.2
theorem dGL_95 : decode cL_law 844 = .ok (.iload_n 3, 1) ∧ decode cL_law 845 = .ok (.iconst 2, 1) ∧ decode cL_law 846 = .ok (.iadd, 1) ∧ decode cL_law 847 = .ok (.iaload, 1) ∧ decode cL_law 848 = .ok (.aload_n 0, 1) ∧ decode cL_law 849 = .ok (.iload_n 3, 1) := by decide +kernel
theorem dL_law_844 : decode cL_law 844 = .ok (.iload_n 3, 1) := dGL_95.1
theorem dL_law_845 : decode cL_law 845 = .ok (.iconst 2, 1) := dGL_95.2.1
theorem dL_law_846 : decode cL_law 846 = .ok (.iadd, 1) := dGL_95.2.2.1
theorem dL_law_847 : decode cL_law 847 = .ok (.iaload, 1) := dGL_95.2.2.2.1
theorem dL_law_848 : decode cL_law 848 = .ok (.aload_n 0, 1) := dGL_95.2.2.2.2.1
theorem dL_law_849 : decode cL_law 849 = .ok (.iload_n 3, 1) := dGL_95.2.2.2.2.2
theorem dGL_96 : decode cL_law 850 = .ok (.iconst 3, 1) ∧ decode cL_law 851 = .ok (.iadd, 1) ∧ decode cL_law 852 = .ok (.iaload, 1) ∧ decode cL_law 853 = .ok (.invokevirtual 93, 3) ∧ decode cL_law 856 = .ok (.pop, 1) ∧ decode cL_law 857 = .ok (.goto 359, 3) := by decide +kernel
theorem dL_law_850 : decode cL_law 850 = .ok (.iconst 3, 1) := dGL_96.1
theorem dL_law_851 : decode cL_law 851 = .ok (.iadd, 1) := dGL_96.2.1
theorem dL_law_852 : decode cL_law 852 = .ok (.iaload, 1) := dGL_96.2.2.1
theorem dL_law_853 : decode cL_law 853 = .ok (.invokevirtual 93, 3) := dGL_96.2.2.2.1
theorem dL_law_856 : decode cL_law 856 = .ok (.pop, 1) := dGL_96.2.2.2.2.1
theorem dL_law_857 : decode cL_law 857 = .ok (.goto 359, 3) := dGL_96.2.2.2.2.2
theorem dGL_97 : decode cL_law 860 = .ok (.aload_n 1, 1) ∧ decode cL_law 861 = .ok (.aload_n 0, 1) ∧ decode cL_law 862 = .ok (.iload_n 3, 1) ∧ decode cL_law 863 = .ok (.iconst 1, 1) ∧ decode cL_law 864 = .ok (.iadd, 1) ∧ decode cL_law 865 = .ok (.iaload, 1) := by decide +kernel
theorem dL_law_860 : decode cL_law 860 = .ok (.aload_n 1, 1) := dGL_97.1
theorem dL_law_861 : decode cL_law 861 = .ok (.aload_n 0, 1) := dGL_97.2.1
theorem dL_law_862 : decode cL_law 862 = .ok (.iload_n 3, 1) := dGL_97.2.2.1
theorem dL_law_863 : decode cL_law 863 = .ok (.iconst 1, 1) := dGL_97.2.2.2.1
theorem dL_law_864 : decode cL_law 864 = .ok (.iadd, 1) := dGL_97.2.2.2.2.1
theorem dL_law_865 : decode cL_law 865 = .ok (.iaload, 1) := dGL_97.2.2.2.2.2
theorem dGL_98 : decode cL_law 866 = .ok (.aload_n 0, 1) ∧ decode cL_law 867 = .ok (.iload_n 3, 1) ∧ decode cL_law 868 = .ok (.iconst 2, 1) ∧ decode cL_law 869 = .ok (.iadd, 1) ∧ decode cL_law 870 = .ok (.iaload, 1) ∧ decode cL_law 871 = .ok (.invokevirtual 94, 3) := by decide +kernel
theorem dL_law_866 : decode cL_law 866 = .ok (.aload_n 0, 1) := dGL_98.1
theorem dL_law_867 : decode cL_law 867 = .ok (.iload_n 3, 1) := dGL_98.2.1
theorem dL_law_868 : decode cL_law 868 = .ok (.iconst 2, 1) := dGL_98.2.2.1
theorem dL_law_869 : decode cL_law 869 = .ok (.iadd, 1) := dGL_98.2.2.2.1
theorem dL_law_870 : decode cL_law 870 = .ok (.iaload, 1) := dGL_98.2.2.2.2.1
theorem dL_law_871 : decode cL_law 871 = .ok (.invokevirtual 94, 3) := dGL_98.2.2.2.2.2
theorem dGL_99 : decode cL_law 874 = .ok (.pop, 1) ∧ decode cL_law 875 = .ok (.aload_n 2, 1) ∧ decode cL_law 876 = .ok (.aload_n 0, 1) ∧ decode cL_law 877 = .ok (.iload_n 3, 1) ∧ decode cL_law 878 = .ok (.iconst 1, 1) ∧ decode cL_law 879 = .ok (.iadd, 1) := by decide +kernel
theorem dL_law_874 : decode cL_law 874 = .ok (.pop, 1) := dGL_99.1
theorem dL_law_875 : decode cL_law 875 = .ok (.aload_n 2, 1) := dGL_99.2.1
theorem dL_law_876 : decode cL_law 876 = .ok (.aload_n 0, 1) := dGL_99.2.2.1
theorem dL_law_877 : decode cL_law 877 = .ok (.iload_n 3, 1) := dGL_99.2.2.2.1
theorem dL_law_878 : decode cL_law 878 = .ok (.iconst 1, 1) := dGL_99.2.2.2.2.1
theorem dL_law_879 : decode cL_law 879 = .ok (.iadd, 1) := dGL_99.2.2.2.2.2
theorem dGL_100 : decode cL_law 880 = .ok (.iaload, 1) ∧ decode cL_law 881 = .ok (.aload_n 0, 1) ∧ decode cL_law 882 = .ok (.iload_n 3, 1) ∧ decode cL_law 883 = .ok (.iconst 2, 1) ∧ decode cL_law 884 = .ok (.iadd, 1) ∧ decode cL_law 885 = .ok (.iaload, 1) := by decide +kernel
theorem dL_law_880 : decode cL_law 880 = .ok (.iaload, 1) := dGL_100.1
theorem dL_law_881 : decode cL_law 881 = .ok (.aload_n 0, 1) := dGL_100.2.1
theorem dL_law_882 : decode cL_law 882 = .ok (.iload_n 3, 1) := dGL_100.2.2.1
theorem dL_law_883 : decode cL_law 883 = .ok (.iconst 2, 1) := dGL_100.2.2.2.1
theorem dL_law_884 : decode cL_law 884 = .ok (.iadd, 1) := dGL_100.2.2.2.2.1
theorem dL_law_885 : decode cL_law 885 = .ok (.iaload, 1) := dGL_100.2.2.2.2.2
theorem dGL_101 : decode cL_law 886 = .ok (.invokevirtual 97, 3) ∧ decode cL_law 889 = .ok (.pop, 1) ∧ decode cL_law 890 = .ok (.goto 326, 3) ∧ decode cL_law 893 = .ok (.aload_n 1, 1) ∧ decode cL_law 894 = .ok (.aload_n 0, 1) ∧ decode cL_law 895 = .ok (.iload_n 3, 1) := by decide +kernel
theorem dL_law_886 : decode cL_law 886 = .ok (.invokevirtual 97, 3) := dGL_101.1
theorem dL_law_889 : decode cL_law 889 = .ok (.pop, 1) := dGL_101.2.1
theorem dL_law_890 : decode cL_law 890 = .ok (.goto 326, 3) := dGL_101.2.2.1
theorem dL_law_893 : decode cL_law 893 = .ok (.aload_n 1, 1) := dGL_101.2.2.2.1
theorem dL_law_894 : decode cL_law 894 = .ok (.aload_n 0, 1) := dGL_101.2.2.2.2.1
theorem dL_law_895 : decode cL_law 895 = .ok (.iload_n 3, 1) := dGL_101.2.2.2.2.2
theorem dGL_102 : decode cL_law 896 = .ok (.iconst 1, 1) ∧ decode cL_law 897 = .ok (.iadd, 1) ∧ decode cL_law 898 = .ok (.iaload, 1) ∧ decode cL_law 899 = .ok (.aload_n 0, 1) ∧ decode cL_law 900 = .ok (.iload_n 3, 1) ∧ decode cL_law 901 = .ok (.iconst 2, 1) := by decide +kernel
theorem dL_law_896 : decode cL_law 896 = .ok (.iconst 1, 1) := dGL_102.1
theorem dL_law_897 : decode cL_law 897 = .ok (.iadd, 1) := dGL_102.2.1
theorem dL_law_898 : decode cL_law 898 = .ok (.iaload, 1) := dGL_102.2.2.1
theorem dL_law_899 : decode cL_law 899 = .ok (.aload_n 0, 1) := dGL_102.2.2.2.1
theorem dL_law_900 : decode cL_law 900 = .ok (.iload_n 3, 1) := dGL_102.2.2.2.2.1
theorem dL_law_901 : decode cL_law 901 = .ok (.iconst 2, 1) := dGL_102.2.2.2.2.2
theorem dGL_103 : decode cL_law 902 = .ok (.iadd, 1) ∧ decode cL_law 903 = .ok (.iaload, 1) ∧ decode cL_law 904 = .ok (.aload_n 0, 1) ∧ decode cL_law 905 = .ok (.iload_n 3, 1) ∧ decode cL_law 906 = .ok (.iconst 3, 1) ∧ decode cL_law 907 = .ok (.iadd, 1) := by decide +kernel
theorem dL_law_902 : decode cL_law 902 = .ok (.iadd, 1) := dGL_103.1
theorem dL_law_903 : decode cL_law 903 = .ok (.iaload, 1) := dGL_103.2.1
theorem dL_law_904 : decode cL_law 904 = .ok (.aload_n 0, 1) := dGL_103.2.2.1
theorem dL_law_905 : decode cL_law 905 = .ok (.iload_n 3, 1) := dGL_103.2.2.2.1
theorem dL_law_906 : decode cL_law 906 = .ok (.iconst 3, 1) := dGL_103.2.2.2.2.1
theorem dL_law_907 : decode cL_law 907 = .ok (.iadd, 1) := dGL_103.2.2.2.2.2
theorem dGL_104 : decode cL_law 908 = .ok (.iaload, 1) ∧ decode cL_law 909 = .ok (.invokevirtual 98, 3) ∧ decode cL_law 912 = .ok (.pop, 1) ∧ decode cL_law 913 = .ok (.aload_n 2, 1) ∧ decode cL_law 914 = .ok (.aload_n 0, 1) ∧ decode cL_law 915 = .ok (.iload_n 3, 1) := by decide +kernel
theorem dL_law_908 : decode cL_law 908 = .ok (.iaload, 1) := dGL_104.1
theorem dL_law_909 : decode cL_law 909 = .ok (.invokevirtual 98, 3) := dGL_104.2.1
theorem dL_law_912 : decode cL_law 912 = .ok (.pop, 1) := dGL_104.2.2.1
theorem dL_law_913 : decode cL_law 913 = .ok (.aload_n 2, 1) := dGL_104.2.2.2.1
theorem dL_law_914 : decode cL_law 914 = .ok (.aload_n 0, 1) := dGL_104.2.2.2.2.1
theorem dL_law_915 : decode cL_law 915 = .ok (.iload_n 3, 1) := dGL_104.2.2.2.2.2
theorem dGL_105 : decode cL_law 916 = .ok (.iconst 1, 1) ∧ decode cL_law 917 = .ok (.iadd, 1) ∧ decode cL_law 918 = .ok (.iaload, 1) ∧ decode cL_law 919 = .ok (.aload_n 0, 1) ∧ decode cL_law 920 = .ok (.iload_n 3, 1) ∧ decode cL_law 921 = .ok (.iconst 2, 1) := by decide +kernel
theorem dL_law_916 : decode cL_law 916 = .ok (.iconst 1, 1) := dGL_105.1
theorem dL_law_917 : decode cL_law 917 = .ok (.iadd, 1) := dGL_105.2.1
theorem dL_law_918 : decode cL_law 918 = .ok (.iaload, 1) := dGL_105.2.2.1
theorem dL_law_919 : decode cL_law 919 = .ok (.aload_n 0, 1) := dGL_105.2.2.2.1
theorem dL_law_920 : decode cL_law 920 = .ok (.iload_n 3, 1) := dGL_105.2.2.2.2.1
theorem dL_law_921 : decode cL_law 921 = .ok (.iconst 2, 1) := dGL_105.2.2.2.2.2
theorem dGL_106 : decode cL_law 922 = .ok (.iadd, 1) ∧ decode cL_law 923 = .ok (.iaload, 1) ∧ decode cL_law 924 = .ok (.aload_n 0, 1) ∧ decode cL_law 925 = .ok (.iload_n 3, 1) ∧ decode cL_law 926 = .ok (.iconst 3, 1) ∧ decode cL_law 927 = .ok (.iadd, 1) := by decide +kernel
theorem dL_law_922 : decode cL_law 922 = .ok (.iadd, 1) := dGL_106.1
theorem dL_law_923 : decode cL_law 923 = .ok (.iaload, 1) := dGL_106.2.1
theorem dL_law_924 : decode cL_law 924 = .ok (.aload_n 0, 1) := dGL_106.2.2.1
theorem dL_law_925 : decode cL_law 925 = .ok (.iload_n 3, 1) := dGL_106.2.2.2.1
theorem dL_law_926 : decode cL_law 926 = .ok (.iconst 3, 1) := dGL_106.2.2.2.2.1
theorem dL_law_927 : decode cL_law 927 = .ok (.iadd, 1) := dGL_106.2.2.2.2.2
theorem dGL_107 : decode cL_law 928 = .ok (.iaload, 1) ∧ decode cL_law 929 = .ok (.invokevirtual 101, 3) ∧ decode cL_law 932 = .ok (.pop, 1) ∧ decode cL_law 933 = .ok (.goto 283, 3) ∧ decode cL_law 936 = .ok (.aload_n 1, 1) ∧ decode cL_law 937 = .ok (.aload_n 0, 1) := by decide +kernel
theorem dL_law_928 : decode cL_law 928 = .ok (.iaload, 1) := dGL_107.1
theorem dL_law_929 : decode cL_law 929 = .ok (.invokevirtual 101, 3) := dGL_107.2.1
theorem dL_law_932 : decode cL_law 932 = .ok (.pop, 1) := dGL_107.2.2.1
theorem dL_law_933 : decode cL_law 933 = .ok (.goto 283, 3) := dGL_107.2.2.2.1
theorem dL_law_936 : decode cL_law 936 = .ok (.aload_n 1, 1) := dGL_107.2.2.2.2.1
theorem dL_law_937 : decode cL_law 937 = .ok (.aload_n 0, 1) := dGL_107.2.2.2.2.2
theorem dGL_108 : decode cL_law 938 = .ok (.iload_n 3, 1) ∧ decode cL_law 939 = .ok (.iconst 1, 1) ∧ decode cL_law 940 = .ok (.iadd, 1) ∧ decode cL_law 941 = .ok (.iaload, 1) ∧ decode cL_law 942 = .ok (.invokevirtual 102, 3) ∧ decode cL_law 945 = .ok (.pop, 1) := by decide +kernel
theorem dL_law_938 : decode cL_law 938 = .ok (.iload_n 3, 1) := dGL_108.1
theorem dL_law_939 : decode cL_law 939 = .ok (.iconst 1, 1) := dGL_108.2.1
theorem dL_law_940 : decode cL_law 940 = .ok (.iadd, 1) := dGL_108.2.2.1
theorem dL_law_941 : decode cL_law 941 = .ok (.iaload, 1) := dGL_108.2.2.2.1
theorem dL_law_942 : decode cL_law 942 = .ok (.invokevirtual 102, 3) := dGL_108.2.2.2.2.1
theorem dL_law_945 : decode cL_law 945 = .ok (.pop, 1) := dGL_108.2.2.2.2.2
theorem dGL_109 : decode cL_law 946 = .ok (.aload_n 2, 1) ∧ decode cL_law 947 = .ok (.aload_n 0, 1) ∧ decode cL_law 948 = .ok (.iload_n 3, 1) ∧ decode cL_law 949 = .ok (.iconst 1, 1) ∧ decode cL_law 950 = .ok (.iadd, 1) ∧ decode cL_law 951 = .ok (.iaload, 1) := by decide +kernel
theorem dL_law_946 : decode cL_law 946 = .ok (.aload_n 2, 1) := dGL_109.1
theorem dL_law_947 : decode cL_law 947 = .ok (.aload_n 0, 1) := dGL_109.2.1
theorem dL_law_948 : decode cL_law 948 = .ok (.iload_n 3, 1) := dGL_109.2.2.1
theorem dL_law_949 : decode cL_law 949 = .ok (.iconst 1, 1) := dGL_109.2.2.2.1
theorem dL_law_950 : decode cL_law 950 = .ok (.iadd, 1) := dGL_109.2.2.2.2.1
theorem dL_law_951 : decode cL_law 951 = .ok (.iaload, 1) := dGL_109.2.2.2.2.2
theorem dGL_110 : decode cL_law 952 = .ok (.invokevirtual 105, 3) ∧ decode cL_law 955 = .ok (.pop, 1) ∧ decode cL_law 956 = .ok (.goto 260, 3) ∧ decode cL_law 959 = .ok (.aload_n 1, 1) ∧ decode cL_law 960 = .ok (.aload_n 0, 1) ∧ decode cL_law 961 = .ok (.iload_n 3, 1) := by decide +kernel
theorem dL_law_952 : decode cL_law 952 = .ok (.invokevirtual 105, 3) := dGL_110.1
theorem dL_law_955 : decode cL_law 955 = .ok (.pop, 1) := dGL_110.2.1
theorem dL_law_956 : decode cL_law 956 = .ok (.goto 260, 3) := dGL_110.2.2.1
theorem dL_law_959 : decode cL_law 959 = .ok (.aload_n 1, 1) := dGL_110.2.2.2.1
theorem dL_law_960 : decode cL_law 960 = .ok (.aload_n 0, 1) := dGL_110.2.2.2.2.1
theorem dL_law_961 : decode cL_law 961 = .ok (.iload_n 3, 1) := dGL_110.2.2.2.2.2
theorem dGL_111 : decode cL_law 962 = .ok (.iconst 1, 1) ∧ decode cL_law 963 = .ok (.iadd, 1) ∧ decode cL_law 964 = .ok (.iaload, 1) ∧ decode cL_law 965 = .ok (.aload_n 0, 1) ∧ decode cL_law 966 = .ok (.iload_n 3, 1) ∧ decode cL_law 967 = .ok (.iconst 2, 1) := by decide +kernel
theorem dL_law_962 : decode cL_law 962 = .ok (.iconst 1, 1) := dGL_111.1
theorem dL_law_963 : decode cL_law 963 = .ok (.iadd, 1) := dGL_111.2.1
theorem dL_law_964 : decode cL_law 964 = .ok (.iaload, 1) := dGL_111.2.2.1
theorem dL_law_965 : decode cL_law 965 = .ok (.aload_n 0, 1) := dGL_111.2.2.2.1
theorem dL_law_966 : decode cL_law 966 = .ok (.iload_n 3, 1) := dGL_111.2.2.2.2.1
theorem dL_law_967 : decode cL_law 967 = .ok (.iconst 2, 1) := dGL_111.2.2.2.2.2
theorem dGL_112 : decode cL_law 968 = .ok (.iadd, 1) ∧ decode cL_law 969 = .ok (.iaload, 1) ∧ decode cL_law 970 = .ok (.aload_n 0, 1) ∧ decode cL_law 971 = .ok (.iload_n 3, 1) ∧ decode cL_law 972 = .ok (.iconst 3, 1) ∧ decode cL_law 973 = .ok (.iadd, 1) := by decide +kernel
theorem dL_law_968 : decode cL_law 968 = .ok (.iadd, 1) := dGL_112.1
theorem dL_law_969 : decode cL_law 969 = .ok (.iaload, 1) := dGL_112.2.1
theorem dL_law_970 : decode cL_law 970 = .ok (.aload_n 0, 1) := dGL_112.2.2.1
theorem dL_law_971 : decode cL_law 971 = .ok (.iload_n 3, 1) := dGL_112.2.2.2.1
theorem dL_law_972 : decode cL_law 972 = .ok (.iconst 3, 1) := dGL_112.2.2.2.2.1
theorem dL_law_973 : decode cL_law 973 = .ok (.iadd, 1) := dGL_112.2.2.2.2.2
theorem dGL_113 : decode cL_law 974 = .ok (.iaload, 1) ∧ decode cL_law 975 = .ok (.invokevirtual 106, 3) ∧ decode cL_law 978 = .ok (.pop, 1) ∧ decode cL_law 979 = .ok (.aload_n 2, 1) ∧ decode cL_law 980 = .ok (.aload_n 0, 1) ∧ decode cL_law 981 = .ok (.iload_n 3, 1) := by decide +kernel
theorem dL_law_974 : decode cL_law 974 = .ok (.iaload, 1) := dGL_113.1
theorem dL_law_975 : decode cL_law 975 = .ok (.invokevirtual 106, 3) := dGL_113.2.1
theorem dL_law_978 : decode cL_law 978 = .ok (.pop, 1) := dGL_113.2.2.1
theorem dL_law_979 : decode cL_law 979 = .ok (.aload_n 2, 1) := dGL_113.2.2.2.1
theorem dL_law_980 : decode cL_law 980 = .ok (.aload_n 0, 1) := dGL_113.2.2.2.2.1
theorem dL_law_981 : decode cL_law 981 = .ok (.iload_n 3, 1) := dGL_113.2.2.2.2.2
theorem dGL_114 : decode cL_law 982 = .ok (.iconst 1, 1) ∧ decode cL_law 983 = .ok (.iadd, 1) ∧ decode cL_law 984 = .ok (.iaload, 1) ∧ decode cL_law 985 = .ok (.aload_n 0, 1) ∧ decode cL_law 986 = .ok (.iload_n 3, 1) ∧ decode cL_law 987 = .ok (.iconst 2, 1) := by decide +kernel
theorem dL_law_982 : decode cL_law 982 = .ok (.iconst 1, 1) := dGL_114.1
theorem dL_law_983 : decode cL_law 983 = .ok (.iadd, 1) := dGL_114.2.1
theorem dL_law_984 : decode cL_law 984 = .ok (.iaload, 1) := dGL_114.2.2.1
theorem dL_law_985 : decode cL_law 985 = .ok (.aload_n 0, 1) := dGL_114.2.2.2.1
theorem dL_law_986 : decode cL_law 986 = .ok (.iload_n 3, 1) := dGL_114.2.2.2.2.1
theorem dL_law_987 : decode cL_law 987 = .ok (.iconst 2, 1) := dGL_114.2.2.2.2.2
theorem dGL_115 : decode cL_law 988 = .ok (.iadd, 1) ∧ decode cL_law 989 = .ok (.iaload, 1) ∧ decode cL_law 990 = .ok (.aload_n 0, 1) ∧ decode cL_law 991 = .ok (.iload_n 3, 1) ∧ decode cL_law 992 = .ok (.iconst 3, 1) ∧ decode cL_law 993 = .ok (.iadd, 1) := by decide +kernel
theorem dL_law_988 : decode cL_law 988 = .ok (.iadd, 1) := dGL_115.1
theorem dL_law_989 : decode cL_law 989 = .ok (.iaload, 1) := dGL_115.2.1
theorem dL_law_990 : decode cL_law 990 = .ok (.aload_n 0, 1) := dGL_115.2.2.1
theorem dL_law_991 : decode cL_law 991 = .ok (.iload_n 3, 1) := dGL_115.2.2.2.1
theorem dL_law_992 : decode cL_law 992 = .ok (.iconst 3, 1) := dGL_115.2.2.2.2.1
theorem dL_law_993 : decode cL_law 993 = .ok (.iadd, 1) := dGL_115.2.2.2.2.2
theorem dGL_116 : decode cL_law 994 = .ok (.iaload, 1) ∧ decode cL_law 995 = .ok (.invokevirtual 109, 3) ∧ decode cL_law 998 = .ok (.pop, 1) ∧ decode cL_law 999 = .ok (.goto 217, 3) ∧ decode cL_law 1002 = .ok (.aload_n 1, 1) ∧ decode cL_law 1003 = .ok (.aload_n 0, 1) := by decide +kernel
theorem dL_law_994 : decode cL_law 994 = .ok (.iaload, 1) := dGL_116.1
theorem dL_law_995 : decode cL_law 995 = .ok (.invokevirtual 109, 3) := dGL_116.2.1
theorem dL_law_998 : decode cL_law 998 = .ok (.pop, 1) := dGL_116.2.2.1
theorem dL_law_999 : decode cL_law 999 = .ok (.goto 217, 3) := dGL_116.2.2.2.1
theorem dL_law_1002 : decode cL_law 1002 = .ok (.aload_n 1, 1) := dGL_116.2.2.2.2.1
theorem dL_law_1003 : decode cL_law 1003 = .ok (.aload_n 0, 1) := dGL_116.2.2.2.2.2
theorem dGL_117 : decode cL_law 1004 = .ok (.iload_n 3, 1) ∧ decode cL_law 1005 = .ok (.iconst 1, 1) ∧ decode cL_law 1006 = .ok (.iadd, 1) ∧ decode cL_law 1007 = .ok (.iaload, 1) ∧ decode cL_law 1008 = .ok (.invokevirtual 110, 3) ∧ decode cL_law 1011 = .ok (.pop, 1) := by decide +kernel
theorem dL_law_1004 : decode cL_law 1004 = .ok (.iload_n 3, 1) := dGL_117.1
theorem dL_law_1005 : decode cL_law 1005 = .ok (.iconst 1, 1) := dGL_117.2.1
theorem dL_law_1006 : decode cL_law 1006 = .ok (.iadd, 1) := dGL_117.2.2.1
theorem dL_law_1007 : decode cL_law 1007 = .ok (.iaload, 1) := dGL_117.2.2.2.1
theorem dL_law_1008 : decode cL_law 1008 = .ok (.invokevirtual 110, 3) := dGL_117.2.2.2.2.1
theorem dL_law_1011 : decode cL_law 1011 = .ok (.pop, 1) := dGL_117.2.2.2.2.2
theorem dGL_118 : decode cL_law 1012 = .ok (.aload_n 2, 1) ∧ decode cL_law 1013 = .ok (.aload_n 0, 1) ∧ decode cL_law 1014 = .ok (.iload_n 3, 1) ∧ decode cL_law 1015 = .ok (.iconst 1, 1) ∧ decode cL_law 1016 = .ok (.iadd, 1) ∧ decode cL_law 1017 = .ok (.iaload, 1) := by decide +kernel
theorem dL_law_1012 : decode cL_law 1012 = .ok (.aload_n 2, 1) := dGL_118.1
theorem dL_law_1013 : decode cL_law 1013 = .ok (.aload_n 0, 1) := dGL_118.2.1
theorem dL_law_1014 : decode cL_law 1014 = .ok (.iload_n 3, 1) := dGL_118.2.2.1
theorem dL_law_1015 : decode cL_law 1015 = .ok (.iconst 1, 1) := dGL_118.2.2.2.1
theorem dL_law_1016 : decode cL_law 1016 = .ok (.iadd, 1) := dGL_118.2.2.2.2.1
theorem dL_law_1017 : decode cL_law 1017 = .ok (.iaload, 1) := dGL_118.2.2.2.2.2
theorem dGL_119 : decode cL_law 1018 = .ok (.invokevirtual 113, 3) ∧ decode cL_law 1021 = .ok (.pop, 1) ∧ decode cL_law 1022 = .ok (.goto 194, 3) ∧ decode cL_law 1025 = .ok (.aload_n 1, 1) ∧ decode cL_law 1026 = .ok (.aload_n 0, 1) ∧ decode cL_law 1027 = .ok (.iload_n 3, 1) := by decide +kernel
theorem dL_law_1018 : decode cL_law 1018 = .ok (.invokevirtual 113, 3) := dGL_119.1
theorem dL_law_1021 : decode cL_law 1021 = .ok (.pop, 1) := dGL_119.2.1
theorem dL_law_1022 : decode cL_law 1022 = .ok (.goto 194, 3) := dGL_119.2.2.1
theorem dL_law_1025 : decode cL_law 1025 = .ok (.aload_n 1, 1) := dGL_119.2.2.2.1
theorem dL_law_1026 : decode cL_law 1026 = .ok (.aload_n 0, 1) := dGL_119.2.2.2.2.1
theorem dL_law_1027 : decode cL_law 1027 = .ok (.iload_n 3, 1) := dGL_119.2.2.2.2.2
theorem dGL_120 : decode cL_law 1028 = .ok (.iconst 1, 1) ∧ decode cL_law 1029 = .ok (.iadd, 1) ∧ decode cL_law 1030 = .ok (.iaload, 1) ∧ decode cL_law 1031 = .ok (.aload_n 0, 1) ∧ decode cL_law 1032 = .ok (.iload_n 3, 1) ∧ decode cL_law 1033 = .ok (.iconst 2, 1) := by decide +kernel
theorem dL_law_1028 : decode cL_law 1028 = .ok (.iconst 1, 1) := dGL_120.1
theorem dL_law_1029 : decode cL_law 1029 = .ok (.iadd, 1) := dGL_120.2.1
theorem dL_law_1030 : decode cL_law 1030 = .ok (.iaload, 1) := dGL_120.2.2.1
theorem dL_law_1031 : decode cL_law 1031 = .ok (.aload_n 0, 1) := dGL_120.2.2.2.1
theorem dL_law_1032 : decode cL_law 1032 = .ok (.iload_n 3, 1) := dGL_120.2.2.2.2.1
theorem dL_law_1033 : decode cL_law 1033 = .ok (.iconst 2, 1) := dGL_120.2.2.2.2.2
theorem dGL_121 : decode cL_law 1034 = .ok (.iadd, 1) ∧ decode cL_law 1035 = .ok (.iaload, 1) ∧ decode cL_law 1036 = .ok (.aload_n 0, 1) ∧ decode cL_law 1037 = .ok (.iload_n 3, 1) ∧ decode cL_law 1038 = .ok (.iconst 3, 1) ∧ decode cL_law 1039 = .ok (.iadd, 1) := by decide +kernel
theorem dL_law_1034 : decode cL_law 1034 = .ok (.iadd, 1) := dGL_121.1
theorem dL_law_1035 : decode cL_law 1035 = .ok (.iaload, 1) := dGL_121.2.1
theorem dL_law_1036 : decode cL_law 1036 = .ok (.aload_n 0, 1) := dGL_121.2.2.1
theorem dL_law_1037 : decode cL_law 1037 = .ok (.iload_n 3, 1) := dGL_121.2.2.2.1
theorem dL_law_1038 : decode cL_law 1038 = .ok (.iconst 3, 1) := dGL_121.2.2.2.2.1
theorem dL_law_1039 : decode cL_law 1039 = .ok (.iadd, 1) := dGL_121.2.2.2.2.2
theorem dGL_122 : decode cL_law 1040 = .ok (.iaload, 1) ∧ decode cL_law 1041 = .ok (.invokevirtual 114, 3) ∧ decode cL_law 1044 = .ok (.pop, 1) ∧ decode cL_law 1045 = .ok (.aload_n 2, 1) ∧ decode cL_law 1046 = .ok (.aload_n 0, 1) ∧ decode cL_law 1047 = .ok (.iload_n 3, 1) := by decide +kernel
theorem dL_law_1040 : decode cL_law 1040 = .ok (.iaload, 1) := dGL_122.1
theorem dL_law_1041 : decode cL_law 1041 = .ok (.invokevirtual 114, 3) := dGL_122.2.1
theorem dL_law_1044 : decode cL_law 1044 = .ok (.pop, 1) := dGL_122.2.2.1
theorem dL_law_1045 : decode cL_law 1045 = .ok (.aload_n 2, 1) := dGL_122.2.2.2.1
theorem dL_law_1046 : decode cL_law 1046 = .ok (.aload_n 0, 1) := dGL_122.2.2.2.2.1
theorem dL_law_1047 : decode cL_law 1047 = .ok (.iload_n 3, 1) := dGL_122.2.2.2.2.2
theorem dGL_123 : decode cL_law 1048 = .ok (.iconst 1, 1) ∧ decode cL_law 1049 = .ok (.iadd, 1) ∧ decode cL_law 1050 = .ok (.iaload, 1) ∧ decode cL_law 1051 = .ok (.aload_n 0, 1) ∧ decode cL_law 1052 = .ok (.iload_n 3, 1) ∧ decode cL_law 1053 = .ok (.iconst 2, 1) := by decide +kernel
theorem dL_law_1048 : decode cL_law 1048 = .ok (.iconst 1, 1) := dGL_123.1
theorem dL_law_1049 : decode cL_law 1049 = .ok (.iadd, 1) := dGL_123.2.1
theorem dL_law_1050 : decode cL_law 1050 = .ok (.iaload, 1) := dGL_123.2.2.1
theorem dL_law_1051 : decode cL_law 1051 = .ok (.aload_n 0, 1) := dGL_123.2.2.2.1
theorem dL_law_1052 : decode cL_law 1052 = .ok (.iload_n 3, 1) := dGL_123.2.2.2.2.1
theorem dL_law_1053 : decode cL_law 1053 = .ok (.iconst 2, 1) := dGL_123.2.2.2.2.2
theorem dGL_124 : decode cL_law 1054 = .ok (.iadd, 1) ∧ decode cL_law 1055 = .ok (.iaload, 1) ∧ decode cL_law 1056 = .ok (.aload_n 0, 1) ∧ decode cL_law 1057 = .ok (.iload_n 3, 1) ∧ decode cL_law 1058 = .ok (.iconst 3, 1) ∧ decode cL_law 1059 = .ok (.iadd, 1) := by decide +kernel
theorem dL_law_1054 : decode cL_law 1054 = .ok (.iadd, 1) := dGL_124.1
theorem dL_law_1055 : decode cL_law 1055 = .ok (.iaload, 1) := dGL_124.2.1
theorem dL_law_1056 : decode cL_law 1056 = .ok (.aload_n 0, 1) := dGL_124.2.2.1
theorem dL_law_1057 : decode cL_law 1057 = .ok (.iload_n 3, 1) := dGL_124.2.2.2.1
theorem dL_law_1058 : decode cL_law 1058 = .ok (.iconst 3, 1) := dGL_124.2.2.2.2.1
theorem dL_law_1059 : decode cL_law 1059 = .ok (.iadd, 1) := dGL_124.2.2.2.2.2
theorem dGL_125 : decode cL_law 1060 = .ok (.iaload, 1) ∧ decode cL_law 1061 = .ok (.invokevirtual 117, 3) ∧ decode cL_law 1064 = .ok (.pop, 1) ∧ decode cL_law 1065 = .ok (.goto 151, 3) ∧ decode cL_law 1068 = .ok (.aload_n 1, 1) ∧ decode cL_law 1069 = .ok (.aload_n 0, 1) := by decide +kernel
theorem dL_law_1060 : decode cL_law 1060 = .ok (.iaload, 1) := dGL_125.1
theorem dL_law_1061 : decode cL_law 1061 = .ok (.invokevirtual 117, 3) := dGL_125.2.1
theorem dL_law_1064 : decode cL_law 1064 = .ok (.pop, 1) := dGL_125.2.2.1
theorem dL_law_1065 : decode cL_law 1065 = .ok (.goto 151, 3) := dGL_125.2.2.2.1
theorem dL_law_1068 : decode cL_law 1068 = .ok (.aload_n 1, 1) := dGL_125.2.2.2.2.1
theorem dL_law_1069 : decode cL_law 1069 = .ok (.aload_n 0, 1) := dGL_125.2.2.2.2.2
theorem dGL_126 : decode cL_law 1070 = .ok (.iload_n 3, 1) ∧ decode cL_law 1071 = .ok (.iconst 1, 1) ∧ decode cL_law 1072 = .ok (.iadd, 1) ∧ decode cL_law 1073 = .ok (.iaload, 1) ∧ decode cL_law 1074 = .ok (.aload_n 0, 1) ∧ decode cL_law 1075 = .ok (.iload_n 3, 1) := by decide +kernel
theorem dL_law_1070 : decode cL_law 1070 = .ok (.iload_n 3, 1) := dGL_126.1
theorem dL_law_1071 : decode cL_law 1071 = .ok (.iconst 1, 1) := dGL_126.2.1
theorem dL_law_1072 : decode cL_law 1072 = .ok (.iadd, 1) := dGL_126.2.2.1
theorem dL_law_1073 : decode cL_law 1073 = .ok (.iaload, 1) := dGL_126.2.2.2.1
theorem dL_law_1074 : decode cL_law 1074 = .ok (.aload_n 0, 1) := dGL_126.2.2.2.2.1
theorem dL_law_1075 : decode cL_law 1075 = .ok (.iload_n 3, 1) := dGL_126.2.2.2.2.2
theorem dGL_127 : decode cL_law 1076 = .ok (.iconst 2, 1) ∧ decode cL_law 1077 = .ok (.iadd, 1) ∧ decode cL_law 1078 = .ok (.iaload, 1) ∧ decode cL_law 1079 = .ok (.aload_n 0, 1) ∧ decode cL_law 1080 = .ok (.iload_n 3, 1) ∧ decode cL_law 1081 = .ok (.iconst 3, 1) := by decide +kernel
theorem dL_law_1076 : decode cL_law 1076 = .ok (.iconst 2, 1) := dGL_127.1
theorem dL_law_1077 : decode cL_law 1077 = .ok (.iadd, 1) := dGL_127.2.1
theorem dL_law_1078 : decode cL_law 1078 = .ok (.iaload, 1) := dGL_127.2.2.1
theorem dL_law_1079 : decode cL_law 1079 = .ok (.aload_n 0, 1) := dGL_127.2.2.2.1
theorem dL_law_1080 : decode cL_law 1080 = .ok (.iload_n 3, 1) := dGL_127.2.2.2.2.1
theorem dL_law_1081 : decode cL_law 1081 = .ok (.iconst 3, 1) := dGL_127.2.2.2.2.2
theorem dGL_128 : decode cL_law 1082 = .ok (.iadd, 1) ∧ decode cL_law 1083 = .ok (.iaload, 1) ∧ decode cL_law 1084 = .ok (.aload_n 0, 1) ∧ decode cL_law 1085 = .ok (.iload_n 3, 1) ∧ decode cL_law 1086 = .ok (.iconst 4, 1) ∧ decode cL_law 1087 = .ok (.iadd, 1) := by decide +kernel
theorem dL_law_1082 : decode cL_law 1082 = .ok (.iadd, 1) := dGL_128.1
theorem dL_law_1083 : decode cL_law 1083 = .ok (.iaload, 1) := dGL_128.2.1
theorem dL_law_1084 : decode cL_law 1084 = .ok (.aload_n 0, 1) := dGL_128.2.2.1
theorem dL_law_1085 : decode cL_law 1085 = .ok (.iload_n 3, 1) := dGL_128.2.2.2.1
theorem dL_law_1086 : decode cL_law 1086 = .ok (.iconst 4, 1) := dGL_128.2.2.2.2.1
theorem dL_law_1087 : decode cL_law 1087 = .ok (.iadd, 1) := dGL_128.2.2.2.2.2
theorem dGL_129 : decode cL_law 1088 = .ok (.iaload, 1) ∧ decode cL_law 1089 = .ok (.invokevirtual 118, 3) ∧ decode cL_law 1092 = .ok (.pop, 1) ∧ decode cL_law 1093 = .ok (.aload_n 2, 1) ∧ decode cL_law 1094 = .ok (.aload_n 0, 1) ∧ decode cL_law 1095 = .ok (.iload_n 3, 1) := by decide +kernel
theorem dL_law_1088 : decode cL_law 1088 = .ok (.iaload, 1) := dGL_129.1
theorem dL_law_1089 : decode cL_law 1089 = .ok (.invokevirtual 118, 3) := dGL_129.2.1
theorem dL_law_1092 : decode cL_law 1092 = .ok (.pop, 1) := dGL_129.2.2.1
theorem dL_law_1093 : decode cL_law 1093 = .ok (.aload_n 2, 1) := dGL_129.2.2.2.1
theorem dL_law_1094 : decode cL_law 1094 = .ok (.aload_n 0, 1) := dGL_129.2.2.2.2.1
theorem dL_law_1095 : decode cL_law 1095 = .ok (.iload_n 3, 1) := dGL_129.2.2.2.2.2
theorem dGL_130 : decode cL_law 1096 = .ok (.iconst 1, 1) ∧ decode cL_law 1097 = .ok (.iadd, 1) ∧ decode cL_law 1098 = .ok (.iaload, 1) ∧ decode cL_law 1099 = .ok (.aload_n 0, 1) ∧ decode cL_law 1100 = .ok (.iload_n 3, 1) ∧ decode cL_law 1101 = .ok (.iconst 2, 1) := by decide +kernel
theorem dL_law_1096 : decode cL_law 1096 = .ok (.iconst 1, 1) := dGL_130.1
theorem dL_law_1097 : decode cL_law 1097 = .ok (.iadd, 1) := dGL_130.2.1
theorem dL_law_1098 : decode cL_law 1098 = .ok (.iaload, 1) := dGL_130.2.2.1
theorem dL_law_1099 : decode cL_law 1099 = .ok (.aload_n 0, 1) := dGL_130.2.2.2.1
theorem dL_law_1100 : decode cL_law 1100 = .ok (.iload_n 3, 1) := dGL_130.2.2.2.2.1
theorem dL_law_1101 : decode cL_law 1101 = .ok (.iconst 2, 1) := dGL_130.2.2.2.2.2
theorem dGL_131 : decode cL_law 1102 = .ok (.iadd, 1) ∧ decode cL_law 1103 = .ok (.iaload, 1) ∧ decode cL_law 1104 = .ok (.aload_n 0, 1) ∧ decode cL_law 1105 = .ok (.iload_n 3, 1) ∧ decode cL_law 1106 = .ok (.iconst 3, 1) ∧ decode cL_law 1107 = .ok (.iadd, 1) := by decide +kernel
theorem dL_law_1102 : decode cL_law 1102 = .ok (.iadd, 1) := dGL_131.1
theorem dL_law_1103 : decode cL_law 1103 = .ok (.iaload, 1) := dGL_131.2.1
theorem dL_law_1104 : decode cL_law 1104 = .ok (.aload_n 0, 1) := dGL_131.2.2.1
theorem dL_law_1105 : decode cL_law 1105 = .ok (.iload_n 3, 1) := dGL_131.2.2.2.1
theorem dL_law_1106 : decode cL_law 1106 = .ok (.iconst 3, 1) := dGL_131.2.2.2.2.1
theorem dL_law_1107 : decode cL_law 1107 = .ok (.iadd, 1) := dGL_131.2.2.2.2.2
theorem dGL_132 : decode cL_law 1108 = .ok (.iaload, 1) ∧ decode cL_law 1109 = .ok (.aload_n 0, 1) ∧ decode cL_law 1110 = .ok (.iload_n 3, 1) ∧ decode cL_law 1111 = .ok (.iconst 4, 1) ∧ decode cL_law 1112 = .ok (.iadd, 1) ∧ decode cL_law 1113 = .ok (.iaload, 1) := by decide +kernel
theorem dL_law_1108 : decode cL_law 1108 = .ok (.iaload, 1) := dGL_132.1
theorem dL_law_1109 : decode cL_law 1109 = .ok (.aload_n 0, 1) := dGL_132.2.1
theorem dL_law_1110 : decode cL_law 1110 = .ok (.iload_n 3, 1) := dGL_132.2.2.1
theorem dL_law_1111 : decode cL_law 1111 = .ok (.iconst 4, 1) := dGL_132.2.2.2.1
theorem dL_law_1112 : decode cL_law 1112 = .ok (.iadd, 1) := dGL_132.2.2.2.2.1
theorem dL_law_1113 : decode cL_law 1113 = .ok (.iaload, 1) := dGL_132.2.2.2.2.2
theorem dGL_133 : decode cL_law 1114 = .ok (.invokevirtual 121, 3) ∧ decode cL_law 1117 = .ok (.pop, 1) ∧ decode cL_law 1118 = .ok (.goto 98, 3) ∧ decode cL_law 1121 = .ok (.aload_n 1, 1) ∧ decode cL_law 1122 = .ok (.aload_n 0, 1) ∧ decode cL_law 1123 = .ok (.iload_n 3, 1) := by decide +kernel
theorem dL_law_1114 : decode cL_law 1114 = .ok (.invokevirtual 121, 3) := dGL_133.1
theorem dL_law_1117 : decode cL_law 1117 = .ok (.pop, 1) := dGL_133.2.1
theorem dL_law_1118 : decode cL_law 1118 = .ok (.goto 98, 3) := dGL_133.2.2.1
theorem dL_law_1121 : decode cL_law 1121 = .ok (.aload_n 1, 1) := dGL_133.2.2.2.1
theorem dL_law_1122 : decode cL_law 1122 = .ok (.aload_n 0, 1) := dGL_133.2.2.2.2.1
theorem dL_law_1123 : decode cL_law 1123 = .ok (.iload_n 3, 1) := dGL_133.2.2.2.2.2
theorem dGL_134 : decode cL_law 1124 = .ok (.iconst 1, 1) ∧ decode cL_law 1125 = .ok (.iadd, 1) ∧ decode cL_law 1126 = .ok (.iaload, 1) ∧ decode cL_law 1127 = .ok (.invokevirtual 122, 3) ∧ decode cL_law 1130 = .ok (.pop, 1) ∧ decode cL_law 1131 = .ok (.aload_n 2, 1) := by decide +kernel
theorem dL_law_1124 : decode cL_law 1124 = .ok (.iconst 1, 1) := dGL_134.1
theorem dL_law_1125 : decode cL_law 1125 = .ok (.iadd, 1) := dGL_134.2.1
theorem dL_law_1126 : decode cL_law 1126 = .ok (.iaload, 1) := dGL_134.2.2.1
theorem dL_law_1127 : decode cL_law 1127 = .ok (.invokevirtual 122, 3) := dGL_134.2.2.2.1
theorem dL_law_1130 : decode cL_law 1130 = .ok (.pop, 1) := dGL_134.2.2.2.2.1
theorem dL_law_1131 : decode cL_law 1131 = .ok (.aload_n 2, 1) := dGL_134.2.2.2.2.2
theorem dGL_135 : decode cL_law 1132 = .ok (.aload_n 0, 1) ∧ decode cL_law 1133 = .ok (.iload_n 3, 1) ∧ decode cL_law 1134 = .ok (.iconst 1, 1) ∧ decode cL_law 1135 = .ok (.iadd, 1) ∧ decode cL_law 1136 = .ok (.iaload, 1) ∧ decode cL_law 1137 = .ok (.invokevirtual 126, 3) := by decide +kernel
theorem dL_law_1132 : decode cL_law 1132 = .ok (.aload_n 0, 1) := dGL_135.1
theorem dL_law_1133 : decode cL_law 1133 = .ok (.iload_n 3, 1) := dGL_135.2.1
theorem dL_law_1134 : decode cL_law 1134 = .ok (.iconst 1, 1) := dGL_135.2.2.1
theorem dL_law_1135 : decode cL_law 1135 = .ok (.iadd, 1) := dGL_135.2.2.2.1
theorem dL_law_1136 : decode cL_law 1136 = .ok (.iaload, 1) := dGL_135.2.2.2.2.1
theorem dL_law_1137 : decode cL_law 1137 = .ok (.invokevirtual 126, 3) := dGL_135.2.2.2.2.2
theorem dGL_136 : decode cL_law 1140 = .ok (.pop, 1) ∧ decode cL_law 1141 = .ok (.goto 75, 3) ∧ decode cL_law 1144 = .ok (.aload_n 1, 1) ∧ decode cL_law 1145 = .ok (.invokevirtual 127, 3) ∧ decode cL_law 1148 = .ok (.pop, 1) ∧ decode cL_law 1149 = .ok (.aload_n 2, 1) := by decide +kernel
theorem dL_law_1140 : decode cL_law 1140 = .ok (.pop, 1) := dGL_136.1
theorem dL_law_1141 : decode cL_law 1141 = .ok (.goto 75, 3) := dGL_136.2.1
theorem dL_law_1144 : decode cL_law 1144 = .ok (.aload_n 1, 1) := dGL_136.2.2.1
theorem dL_law_1145 : decode cL_law 1145 = .ok (.invokevirtual 127, 3) := dGL_136.2.2.2.1
theorem dL_law_1148 : decode cL_law 1148 = .ok (.pop, 1) := dGL_136.2.2.2.2.1
theorem dL_law_1149 : decode cL_law 1149 = .ok (.aload_n 2, 1) := dGL_136.2.2.2.2.2
theorem dGL_137 : decode cL_law 1150 = .ok (.invokevirtual 131, 3) ∧ decode cL_law 1153 = .ok (.pop, 1) ∧ decode cL_law 1154 = .ok (.goto 62, 3) ∧ decode cL_law 1157 = .ok (.aload_n 1, 1) ∧ decode cL_law 1158 = .ok (.invokevirtual 132, 3) ∧ decode cL_law 1161 = .ok (.pop, 1) := by decide +kernel
theorem dL_law_1150 : decode cL_law 1150 = .ok (.invokevirtual 131, 3) := dGL_137.1
theorem dL_law_1153 : decode cL_law 1153 = .ok (.pop, 1) := dGL_137.2.1
theorem dL_law_1154 : decode cL_law 1154 = .ok (.goto 62, 3) := dGL_137.2.2.1
theorem dL_law_1157 : decode cL_law 1157 = .ok (.aload_n 1, 1) := dGL_137.2.2.2.1
theorem dL_law_1158 : decode cL_law 1158 = .ok (.invokevirtual 132, 3) := dGL_137.2.2.2.2.1
theorem dL_law_1161 : decode cL_law 1161 = .ok (.pop, 1) := dGL_137.2.2.2.2.2
theorem dGL_138 : decode cL_law 1162 = .ok (.aload_n 2, 1) ∧ decode cL_law 1163 = .ok (.invokevirtual 136, 3) ∧ decode cL_law 1166 = .ok (.pop, 1) ∧ decode cL_law 1167 = .ok (.goto 49, 3) ∧ decode cL_law 1170 = .ok (.aload_n 1, 1) ∧ decode cL_law 1171 = .ok (.aload_n 0, 1) := by decide +kernel
theorem dL_law_1162 : decode cL_law 1162 = .ok (.aload_n 2, 1) := dGL_138.1
theorem dL_law_1163 : decode cL_law 1163 = .ok (.invokevirtual 136, 3) := dGL_138.2.1
theorem dL_law_1166 : decode cL_law 1166 = .ok (.pop, 1) := dGL_138.2.2.1
theorem dL_law_1167 : decode cL_law 1167 = .ok (.goto 49, 3) := dGL_138.2.2.2.1
theorem dL_law_1170 : decode cL_law 1170 = .ok (.aload_n 1, 1) := dGL_138.2.2.2.2.1
theorem dL_law_1171 : decode cL_law 1171 = .ok (.aload_n 0, 1) := dGL_138.2.2.2.2.2
theorem dGL_139 : decode cL_law 1172 = .ok (.iload_n 3, 1) ∧ decode cL_law 1173 = .ok (.iconst 1, 1) ∧ decode cL_law 1174 = .ok (.iadd, 1) ∧ decode cL_law 1175 = .ok (.iaload, 1) ∧ decode cL_law 1176 = .ok (.invokevirtual 137, 3) ∧ decode cL_law 1179 = .ok (.pop, 1) := by decide +kernel
theorem dL_law_1172 : decode cL_law 1172 = .ok (.iload_n 3, 1) := dGL_139.1
theorem dL_law_1173 : decode cL_law 1173 = .ok (.iconst 1, 1) := dGL_139.2.1
theorem dL_law_1174 : decode cL_law 1174 = .ok (.iadd, 1) := dGL_139.2.2.1
theorem dL_law_1175 : decode cL_law 1175 = .ok (.iaload, 1) := dGL_139.2.2.2.1
theorem dL_law_1176 : decode cL_law 1176 = .ok (.invokevirtual 137, 3) := dGL_139.2.2.2.2.1
theorem dL_law_1179 : decode cL_law 1179 = .ok (.pop, 1) := dGL_139.2.2.2.2.2
theorem dGL_140 : decode cL_law 1180 = .ok (.aload_n 2, 1) ∧ decode cL_law 1181 = .ok (.aload_n 0, 1) ∧ decode cL_law 1182 = .ok (.iload_n 3, 1) ∧ decode cL_law 1183 = .ok (.iconst 1, 1) ∧ decode cL_law 1184 = .ok (.iadd, 1) ∧ decode cL_law 1185 = .ok (.iaload, 1) := by decide +kernel
theorem dL_law_1180 : decode cL_law 1180 = .ok (.aload_n 2, 1) := dGL_140.1
theorem dL_law_1181 : decode cL_law 1181 = .ok (.aload_n 0, 1) := dGL_140.2.1
theorem dL_law_1182 : decode cL_law 1182 = .ok (.iload_n 3, 1) := dGL_140.2.2.1
theorem dL_law_1183 : decode cL_law 1183 = .ok (.iconst 1, 1) := dGL_140.2.2.2.1
theorem dL_law_1184 : decode cL_law 1184 = .ok (.iadd, 1) := dGL_140.2.2.2.2.1
theorem dL_law_1185 : decode cL_law 1185 = .ok (.iaload, 1) := dGL_140.2.2.2.2.2
theorem dGL_141 : decode cL_law 1186 = .ok (.invokevirtual 140, 3) ∧ decode cL_law 1189 = .ok (.pop, 1) ∧ decode cL_law 1190 = .ok (.goto 26, 3) ∧ decode cL_law 1193 = .ok (.aload_n 1, 1) ∧ decode cL_law 1194 = .ok (.aload_n 0, 1) ∧ decode cL_law 1195 = .ok (.iload_n 3, 1) := by decide +kernel
theorem dL_law_1186 : decode cL_law 1186 = .ok (.invokevirtual 140, 3) := dGL_141.1
theorem dL_law_1189 : decode cL_law 1189 = .ok (.pop, 1) := dGL_141.2.1
theorem dL_law_1190 : decode cL_law 1190 = .ok (.goto 26, 3) := dGL_141.2.2.1
theorem dL_law_1193 : decode cL_law 1193 = .ok (.aload_n 1, 1) := dGL_141.2.2.2.1
theorem dL_law_1194 : decode cL_law 1194 = .ok (.aload_n 0, 1) := dGL_141.2.2.2.2.1
theorem dL_law_1195 : decode cL_law 1195 = .ok (.iload_n 3, 1) := dGL_141.2.2.2.2.2
theorem dGL_142 : decode cL_law 1196 = .ok (.iconst 1, 1) ∧ decode cL_law 1197 = .ok (.iadd, 1) ∧ decode cL_law 1198 = .ok (.iaload, 1) ∧ decode cL_law 1199 = .ok (.invokevirtual 141, 3) ∧ decode cL_law 1202 = .ok (.pop, 1) ∧ decode cL_law 1203 = .ok (.aload_n 2, 1) := by decide +kernel
theorem dL_law_1196 : decode cL_law 1196 = .ok (.iconst 1, 1) := dGL_142.1
theorem dL_law_1197 : decode cL_law 1197 = .ok (.iadd, 1) := dGL_142.2.1
theorem dL_law_1198 : decode cL_law 1198 = .ok (.iaload, 1) := dGL_142.2.2.1
theorem dL_law_1199 : decode cL_law 1199 = .ok (.invokevirtual 141, 3) := dGL_142.2.2.2.1
theorem dL_law_1202 : decode cL_law 1202 = .ok (.pop, 1) := dGL_142.2.2.2.2.1
theorem dL_law_1203 : decode cL_law 1203 = .ok (.aload_n 2, 1) := dGL_142.2.2.2.2.2
theorem dGL_143 : decode cL_law 1204 = .ok (.aload_n 0, 1) ∧ decode cL_law 1205 = .ok (.iload_n 3, 1) ∧ decode cL_law 1206 = .ok (.iconst 1, 1) ∧ decode cL_law 1207 = .ok (.iadd, 1) ∧ decode cL_law 1208 = .ok (.iaload, 1) ∧ decode cL_law 1209 = .ok (.invokevirtual 144, 3) := by decide +kernel
theorem dL_law_1204 : decode cL_law 1204 = .ok (.aload_n 0, 1) := dGL_143.1
theorem dL_law_1205 : decode cL_law 1205 = .ok (.iload_n 3, 1) := dGL_143.2.1
theorem dL_law_1206 : decode cL_law 1206 = .ok (.iconst 1, 1) := dGL_143.2.2.1
theorem dL_law_1207 : decode cL_law 1207 = .ok (.iadd, 1) := dGL_143.2.2.2.1
theorem dL_law_1208 : decode cL_law 1208 = .ok (.iaload, 1) := dGL_143.2.2.2.2.1
theorem dL_law_1209 : decode cL_law 1209 = .ok (.invokevirtual 144, 3) := dGL_143.2.2.2.2.2
theorem dGL_144 : decode cL_law 1212 = .ok (.pop, 1) ∧ decode cL_law 1213 = .ok (.goto 3, 3) ∧ decode cL_law 1216 = .ok (.iinc 3 6, 3) ∧ decode cL_law 1219 = .ok (.goto (-1201), 3) ∧ decode cL_law 1222 = .ok (.iconst 1, 1) ∧ decode cL_law 1223 = .ok (.ireturn, 1) := by decide +kernel
theorem dL_law_1212 : decode cL_law 1212 = .ok (.pop, 1) := dGL_144.1
theorem dL_law_1213 : decode cL_law 1213 = .ok (.goto 3, 3) := dGL_144.2.1
theorem dL_law_1216 : decode cL_law 1216 = .ok (.iinc 3 6, 3) := dGL_144.2.2.1
theorem dL_law_1219 : decode cL_law 1219 = .ok (.goto (-1201), 3) := dGL_144.2.2.2.1
theorem dL_law_1222 : decode cL_law 1222 = .ok (.iconst 1, 1) := dGL_144.2.2.2.2.1
theorem dL_law_1223 : decode cL_law 1223 = .ok (.ireturn, 1) := dGL_144.2.2.2.2.2
