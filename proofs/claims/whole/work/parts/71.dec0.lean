theorem dL_law_0 : decode code 0 = .ok (.new 7, 3) := by decide +kernel
theorem dL_law_3 : decode code 3 = .ok (.dup, 1) := by decide +kernel
theorem dL_law_4 : decode code 4 = .ok (.invokespecial 9, 3) := by decide +kernel
theorem dL_law_7 : decode code 7 = .ok (.astore_n 1, 1) := by decide +kernel
theorem dL_law_8 : decode code 8 = .ok (.new 10, 3) := by decide +kernel
theorem dL_law_11 : decode code 11 = .ok (.dup, 1) := by decide +kernel
theorem dL_law_12 : decode code 12 = .ok (.invokespecial 12, 3) := by decide +kernel
theorem dL_law_15 : decode code 15 = .ok (.astore_n 2, 1) := by decide +kernel
theorem dL_law_16 : decode code 16 = .ok (.iconst 0, 1) := by decide +kernel
theorem dL_law_17 : decode code 17 = .ok (.istore_n 3, 1) := by decide +kernel
theorem dL_law_18 : decode code 18 = .ok (.iload_n 3, 1) := by decide +kernel
theorem dL_law_19 : decode code 19 = .ok (.aload_n 0, 1) := by decide +kernel
theorem dL_law_20 : decode code 20 = .ok (.arraylength, 1) := by decide +kernel
theorem dL_law_21 : decode code 21 = .ok (.bipush 6, 2) := by decide +kernel
theorem dL_law_23 : decode code 23 = .ok (.isub, 1) := by decide +kernel
theorem dL_law_24 : decode code 24 = .ok (.if_icmp .gt 1344, 3) := by decide +kernel
theorem dL_law_27 : decode code 27 = .ok (.aload_n 0, 1) := by decide +kernel
theorem dL_law_28 : decode code 28 = .ok (.iload_n 3, 1) := by decide +kernel
theorem dL_law_29 : decode code 29 = .ok (.iaload, 1) := by decide +kernel
theorem dL_law_30 : decode code 30 = .ok (.bipush 63, 2) := by decide +kernel
theorem dL_law_32 : decode code 32 = .ok (.iand, 1) := by decide +kernel
theorem dL_law_33 : decode code 33 = .ok (.tableswitch 1329 0 38 #[171, 224, 257, 290, 323, 386, 439, 482, 505, 538, 581, 604, 667, 680, 693, 726, 749, 772, 785, 808, 841, 874, 897, 920, 953, 986, 1019, 1052, 1085, 1118, 1131, 1154, 1167, 1190, 1223, 1246, 1269, 1292, 1315], 171) := by decide +kernel
theorem dL_law_204 : decode code 204 = .ok (.aload_n 1, 1) := by decide +kernel
theorem dL_law_205 : decode code 205 = .ok (.aload_n 0, 1) := by decide +kernel
theorem dL_law_206 : decode code 206 = .ok (.iload_n 3, 1) := by decide +kernel
theorem dL_law_207 : decode code 207 = .ok (.iconst 1, 1) := by decide +kernel
theorem dL_law_208 : decode code 208 = .ok (.iadd, 1) := by decide +kernel
theorem dL_law_209 : decode code 209 = .ok (.iaload, 1) := by decide +kernel
theorem dL_law_210 : decode code 210 = .ok (.aload_n 0, 1) := by decide +kernel
theorem dL_law_211 : decode code 211 = .ok (.iload_n 3, 1) := by decide +kernel
theorem dL_law_212 : decode code 212 = .ok (.iconst 2, 1) := by decide +kernel
theorem dL_law_213 : decode code 213 = .ok (.iadd, 1) := by decide +kernel
theorem dL_law_214 : decode code 214 = .ok (.iaload, 1) := by decide +kernel
theorem dL_law_215 : decode code 215 = .ok (.aload_n 0, 1) := by decide +kernel
theorem dL_law_216 : decode code 216 = .ok (.iload_n 3, 1) := by decide +kernel
theorem dL_law_217 : decode code 217 = .ok (.iconst 3, 1) := by decide +kernel
theorem dL_law_218 : decode code 218 = .ok (.iadd, 1) := by decide +kernel
theorem dL_law_219 : decode code 219 = .ok (.iaload, 1) := by decide +kernel
theorem dL_law_220 : decode code 220 = .ok (.aload_n 0, 1) := by decide +kernel
theorem dL_law_221 : decode code 221 = .ok (.iload_n 3, 1) := by decide +kernel
theorem dL_law_222 : decode code 222 = .ok (.iconst 4, 1) := by decide +kernel
theorem dL_law_223 : decode code 223 = .ok (.iadd, 1) := by decide +kernel
theorem dL_law_224 : decode code 224 = .ok (.iaload, 1) := by decide +kernel
theorem dL_law_225 : decode code 225 = .ok (.invokevirtual 13, 3) := by decide +kernel
theorem dL_law_228 : decode code 228 = .ok (.aload_n 2, 1) := by decide +kernel
theorem dL_law_229 : decode code 229 = .ok (.aload_n 0, 1) := by decide +kernel
theorem dL_law_230 : decode code 230 = .ok (.iload_n 3, 1) := by decide +kernel
theorem dL_law_231 : decode code 231 = .ok (.iconst 1, 1) := by decide +kernel
theorem dL_law_232 : decode code 232 = .ok (.iadd, 1) := by decide +kernel
theorem dL_law_233 : decode code 233 = .ok (.iaload, 1) := by decide +kernel
theorem dL_law_234 : decode code 234 = .ok (.aload_n 0, 1) := by decide +kernel
theorem dL_law_235 : decode code 235 = .ok (.iload_n 3, 1) := by decide +kernel
theorem dL_law_236 : decode code 236 = .ok (.iconst 2, 1) := by decide +kernel
theorem dL_law_237 : decode code 237 = .ok (.iadd, 1) := by decide +kernel
theorem dL_law_238 : decode code 238 = .ok (.iaload, 1) := by decide +kernel
theorem dL_law_239 : decode code 239 = .ok (.aload_n 0, 1) := by decide +kernel
theorem dL_law_240 : decode code 240 = .ok (.iload_n 3, 1) := by decide +kernel
theorem dL_law_241 : decode code 241 = .ok (.iconst 3, 1) := by decide +kernel
theorem dL_law_242 : decode code 242 = .ok (.iadd, 1) := by decide +kernel
theorem dL_law_243 : decode code 243 = .ok (.iaload, 1) := by decide +kernel
theorem dL_law_244 : decode code 244 = .ok (.aload_n 0, 1) := by decide +kernel
theorem dL_law_245 : decode code 245 = .ok (.iload_n 3, 1) := by decide +kernel
theorem dL_law_246 : decode code 246 = .ok (.iconst 4, 1) := by decide +kernel
theorem dL_law_247 : decode code 247 = .ok (.iadd, 1) := by decide +kernel
theorem dL_law_248 : decode code 248 = .ok (.iaload, 1) := by decide +kernel
theorem dL_law_249 : decode code 249 = .ok (.invokevirtual 17, 3) := by decide +kernel
theorem dL_law_252 : decode code 252 = .ok (.if_icmp .eq 1110, 3) := by decide +kernel
theorem dL_law_255 : decode code 255 = .ok (.iconst 0, 1) := by decide +kernel
theorem dL_law_256 : decode code 256 = .ok (.ireturn, 1) := by decide +kernel
theorem dL_law_257 : decode code 257 = .ok (.aload_n 1, 1) := by decide +kernel
theorem dL_law_258 : decode code 258 = .ok (.aload_n 0, 1) := by decide +kernel
theorem dL_law_259 : decode code 259 = .ok (.iload_n 3, 1) := by decide +kernel
theorem dL_law_260 : decode code 260 = .ok (.iconst 1, 1) := by decide +kernel
theorem dL_law_261 : decode code 261 = .ok (.iadd, 1) := by decide +kernel
theorem dL_law_262 : decode code 262 = .ok (.iaload, 1) := by decide +kernel
theorem dL_law_263 : decode code 263 = .ok (.aload_n 0, 1) := by decide +kernel
theorem dL_law_264 : decode code 264 = .ok (.iload_n 3, 1) := by decide +kernel
theorem dL_law_265 : decode code 265 = .ok (.iconst 2, 1) := by decide +kernel
theorem dL_law_266 : decode code 266 = .ok (.iadd, 1) := by decide +kernel
theorem dL_law_267 : decode code 267 = .ok (.iaload, 1) := by decide +kernel
theorem dL_law_268 : decode code 268 = .ok (.invokevirtual 18, 3) := by decide +kernel
theorem dL_law_271 : decode code 271 = .ok (.aload_n 2, 1) := by decide +kernel
theorem dL_law_272 : decode code 272 = .ok (.aload_n 0, 1) := by decide +kernel
theorem dL_law_273 : decode code 273 = .ok (.iload_n 3, 1) := by decide +kernel
theorem dL_law_274 : decode code 274 = .ok (.iconst 1, 1) := by decide +kernel
theorem dL_law_275 : decode code 275 = .ok (.iadd, 1) := by decide +kernel
theorem dL_law_276 : decode code 276 = .ok (.iaload, 1) := by decide +kernel
theorem dL_law_277 : decode code 277 = .ok (.aload_n 0, 1) := by decide +kernel
theorem dL_law_278 : decode code 278 = .ok (.iload_n 3, 1) := by decide +kernel
theorem dL_law_279 : decode code 279 = .ok (.iconst 2, 1) := by decide +kernel
theorem dL_law_280 : decode code 280 = .ok (.iadd, 1) := by decide +kernel
theorem dL_law_281 : decode code 281 = .ok (.iaload, 1) := by decide +kernel
theorem dL_law_282 : decode code 282 = .ok (.invokevirtual 22, 3) := by decide +kernel
theorem dL_law_285 : decode code 285 = .ok (.if_icmp .eq 1077, 3) := by decide +kernel
theorem dL_law_288 : decode code 288 = .ok (.iconst 0, 1) := by decide +kernel
