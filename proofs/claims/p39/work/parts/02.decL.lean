def tL_law_0 := Bt_0 cL_law
theorem dL_law_0 : decode cL_law 0 = .ok (.new 7, 3) := de_bb tL_law_0 (by decide +kernel)
def tL_law_3 := Bt_3 (q := 3) tL_law_0 rfl
theorem dL_law_3 : decode cL_law 3 = .ok (.dup, 1) := de_59 tL_law_3
def tL_law_4 := Bt_1 (q := 4) tL_law_3 rfl
theorem dL_law_4 : decode cL_law 4 = .ok (.invokespecial 9, 3) := de_b7 tL_law_4 (by decide +kernel)
def tL_law_7 := Bt_3 (q := 7) tL_law_4 rfl
theorem dL_law_7 : decode cL_law 7 = .ok (.astore_n 1, 1) := de_4c tL_law_7
def tL_law_8 := Bt_1 (q := 8) tL_law_7 rfl
theorem dL_law_8 : decode cL_law 8 = .ok (.new 10, 3) := de_bb tL_law_8 (by decide +kernel)
def tL_law_11 := Bt_3 (q := 11) tL_law_8 rfl
theorem dL_law_11 : decode cL_law 11 = .ok (.dup, 1) := de_59 tL_law_11
def tL_law_12 := Bt_1 (q := 12) tL_law_11 rfl
theorem dL_law_12 : decode cL_law 12 = .ok (.invokespecial 12, 3) := de_b7 tL_law_12 (by decide +kernel)
def tL_law_15 := Bt_3 (q := 15) tL_law_12 rfl
theorem dL_law_15 : decode cL_law 15 = .ok (.astore_n 2, 1) := de_4d tL_law_15
def tL_law_16 := Bt_1 (q := 16) tL_law_15 rfl
theorem dL_law_16 : decode cL_law 16 = .ok (.iconst 0, 1) := de_03 tL_law_16
def tL_law_17 := Bt_1 (q := 17) tL_law_16 rfl
theorem dL_law_17 : decode cL_law 17 = .ok (.istore_n 3, 1) := de_3e tL_law_17
def tL_law_18 := Bt_1 (q := 18) tL_law_17 rfl
theorem dL_law_18 : decode cL_law 18 = .ok (.iload_n 3, 1) := de_1d tL_law_18
def tL_law_19 := Bt_1 (q := 19) tL_law_18 rfl
theorem dL_law_19 : decode cL_law 19 = .ok (.aload_n 0, 1) := de_2a tL_law_19
def tL_law_20 := Bt_1 (q := 20) tL_law_19 rfl
theorem dL_law_20 : decode cL_law 20 = .ok (.arraylength, 1) := de_be tL_law_20
def tL_law_21 := Bt_1 (q := 21) tL_law_20 rfl
theorem dL_law_21 : decode cL_law 21 = .ok (.bipush 10, 2) := de_10 tL_law_21 (by decide +kernel)
def tL_law_23 := Bt_2 (q := 23) tL_law_21 rfl
theorem dL_law_23 : decode cL_law 23 = .ok (.isub, 1) := de_64 tL_law_23
def tL_law_24 := Bt_1 (q := 24) tL_law_23 rfl
theorem dL_law_24 : decode cL_law 24 = .ok (.if_icmp .gt 1599, 3) := de_a3 tL_law_24 (by decide +kernel)
def tL_law_27 := Bt_3 (q := 27) tL_law_24 rfl
theorem dL_law_27 : decode cL_law 27 = .ok (.aload_n 0, 1) := de_2a tL_law_27
def tL_law_28 := Bt_1 (q := 28) tL_law_27 rfl
theorem dL_law_28 : decode cL_law 28 = .ok (.iload_n 3, 1) := de_1d tL_law_28
def tL_law_29 := Bt_1 (q := 29) tL_law_28 rfl
theorem dL_law_29 : decode cL_law 29 = .ok (.iaload, 1) := de_2e tL_law_29
def tL_law_30 := Bt_1 (q := 30) tL_law_29 rfl
theorem dL_law_30 : decode cL_law 30 = .ok (.bipush 63, 2) := de_10 tL_law_30 (by decide +kernel)
def tL_law_32 := Bt_2 (q := 32) tL_law_30 rfl
theorem dL_law_32 : decode cL_law 32 = .ok (.iand, 1) := de_7e tL_law_32
def tL_law_33 := Bt_1 (q := 33) tL_law_32 rfl
theorem dL_law_33 : decode cL_law 33 = .ok (.tableswitch 1584 0 38 #[171, 194, 227, 250, 273, 384, 417, 450, 483, 536, 595, 638, 701, 714, 757, 790, 843, 886, 919, 962, 995, 1054, 1087, 1130, 1153, 1176, 1199, 1222, 1255, 1304, 1317, 1350, 1393, 1436, 1469, 1502, 1525, 1538, 1561], 171) := by decide +kernel
def tL_law_204 := Bt_n (q := 204) 171 tL_law_33 rfl rfl
theorem dL_law_204 : decode cL_law 204 = .ok (.aload_n 1, 1) := de_2b tL_law_204
def tL_law_205 := Bt_1 (q := 205) tL_law_204 rfl
theorem dL_law_205 : decode cL_law 205 = .ok (.aload_n 0, 1) := de_2a tL_law_205
def tL_law_206 := Bt_1 (q := 206) tL_law_205 rfl
theorem dL_law_206 : decode cL_law 206 = .ok (.iload_n 3, 1) := de_1d tL_law_206
def tL_law_207 := Bt_1 (q := 207) tL_law_206 rfl
theorem dL_law_207 : decode cL_law 207 = .ok (.iconst 1, 1) := de_04 tL_law_207
def tL_law_208 := Bt_1 (q := 208) tL_law_207 rfl
theorem dL_law_208 : decode cL_law 208 = .ok (.iadd, 1) := de_60 tL_law_208
def tL_law_209 := Bt_1 (q := 209) tL_law_208 rfl
theorem dL_law_209 : decode cL_law 209 = .ok (.iaload, 1) := de_2e tL_law_209
def tL_law_210 := Bt_1 (q := 210) tL_law_209 rfl
theorem dL_law_210 : decode cL_law 210 = .ok (.invokevirtual 13, 3) := de_b6 tL_law_210 (by decide +kernel)
def tL_law_213 := Bt_3 (q := 213) tL_law_210 rfl
theorem dL_law_213 : decode cL_law 213 = .ok (.pop, 1) := de_57 tL_law_213
def tL_law_214 := Bt_1 (q := 214) tL_law_213 rfl
theorem dL_law_214 : decode cL_law 214 = .ok (.aload_n 2, 1) := de_2c tL_law_214
def tL_law_215 := Bt_1 (q := 215) tL_law_214 rfl
theorem dL_law_215 : decode cL_law 215 = .ok (.aload_n 0, 1) := de_2a tL_law_215
def tL_law_216 := Bt_1 (q := 216) tL_law_215 rfl
theorem dL_law_216 : decode cL_law 216 = .ok (.iload_n 3, 1) := de_1d tL_law_216
def tL_law_217 := Bt_1 (q := 217) tL_law_216 rfl
theorem dL_law_217 : decode cL_law 217 = .ok (.iconst 1, 1) := de_04 tL_law_217
def tL_law_218 := Bt_1 (q := 218) tL_law_217 rfl
theorem dL_law_218 : decode cL_law 218 = .ok (.iadd, 1) := de_60 tL_law_218
def tL_law_219 := Bt_1 (q := 219) tL_law_218 rfl
theorem dL_law_219 : decode cL_law 219 = .ok (.iaload, 1) := de_2e tL_law_219
def tL_law_220 := Bt_1 (q := 220) tL_law_219 rfl
theorem dL_law_220 : decode cL_law 220 = .ok (.invokevirtual 17, 3) := de_b6 tL_law_220 (by decide +kernel)
def tL_law_223 := Bt_3 (q := 223) tL_law_220 rfl
theorem dL_law_223 : decode cL_law 223 = .ok (.pop, 1) := de_57 tL_law_223
def tL_law_224 := Bt_1 (q := 224) tL_law_223 rfl
theorem dL_law_224 : decode cL_law 224 = .ok (.goto 1393, 3) := de_a7 tL_law_224 (by decide +kernel)
def tL_law_227 := Bt_3 (q := 227) tL_law_224 rfl
theorem dL_law_227 : decode cL_law 227 = .ok (.aload_n 1, 1) := de_2b tL_law_227
def tL_law_228 := Bt_1 (q := 228) tL_law_227 rfl
theorem dL_law_228 : decode cL_law 228 = .ok (.aload_n 0, 1) := de_2a tL_law_228
def tL_law_229 := Bt_1 (q := 229) tL_law_228 rfl
theorem dL_law_229 : decode cL_law 229 = .ok (.iload_n 3, 1) := de_1d tL_law_229
def tL_law_230 := Bt_1 (q := 230) tL_law_229 rfl
theorem dL_law_230 : decode cL_law 230 = .ok (.iconst 1, 1) := de_04 tL_law_230
def tL_law_231 := Bt_1 (q := 231) tL_law_230 rfl
theorem dL_law_231 : decode cL_law 231 = .ok (.iadd, 1) := de_60 tL_law_231
def tL_law_232 := Bt_1 (q := 232) tL_law_231 rfl
theorem dL_law_232 : decode cL_law 232 = .ok (.iaload, 1) := de_2e tL_law_232
def tL_law_233 := Bt_1 (q := 233) tL_law_232 rfl
theorem dL_law_233 : decode cL_law 233 = .ok (.aload_n 0, 1) := de_2a tL_law_233
def tL_law_234 := Bt_1 (q := 234) tL_law_233 rfl
theorem dL_law_234 : decode cL_law 234 = .ok (.iload_n 3, 1) := de_1d tL_law_234
def tL_law_235 := Bt_1 (q := 235) tL_law_234 rfl
theorem dL_law_235 : decode cL_law 235 = .ok (.iconst 2, 1) := de_05 tL_law_235
def tL_law_236 := Bt_1 (q := 236) tL_law_235 rfl
theorem dL_law_236 : decode cL_law 236 = .ok (.iadd, 1) := de_60 tL_law_236
def tL_law_237 := Bt_1 (q := 237) tL_law_236 rfl
theorem dL_law_237 : decode cL_law 237 = .ok (.iaload, 1) := de_2e tL_law_237
def tL_law_238 := Bt_1 (q := 238) tL_law_237 rfl
theorem dL_law_238 : decode cL_law 238 = .ok (.invokevirtual 18, 3) := de_b6 tL_law_238 (by decide +kernel)
def tL_law_241 := Bt_3 (q := 241) tL_law_238 rfl
theorem dL_law_241 : decode cL_law 241 = .ok (.pop, 1) := de_57 tL_law_241
def tL_law_242 := Bt_1 (q := 242) tL_law_241 rfl
theorem dL_law_242 : decode cL_law 242 = .ok (.aload_n 2, 1) := de_2c tL_law_242
def tL_law_243 := Bt_1 (q := 243) tL_law_242 rfl
theorem dL_law_243 : decode cL_law 243 = .ok (.aload_n 0, 1) := de_2a tL_law_243
def tL_law_244 := Bt_1 (q := 244) tL_law_243 rfl
theorem dL_law_244 : decode cL_law 244 = .ok (.iload_n 3, 1) := de_1d tL_law_244
def tL_law_245 := Bt_1 (q := 245) tL_law_244 rfl
theorem dL_law_245 : decode cL_law 245 = .ok (.iconst 1, 1) := de_04 tL_law_245
def tL_law_246 := Bt_1 (q := 246) tL_law_245 rfl
theorem dL_law_246 : decode cL_law 246 = .ok (.iadd, 1) := de_60 tL_law_246
def tL_law_247 := Bt_1 (q := 247) tL_law_246 rfl
theorem dL_law_247 : decode cL_law 247 = .ok (.iaload, 1) := de_2e tL_law_247
def tL_law_248 := Bt_1 (q := 248) tL_law_247 rfl
theorem dL_law_248 : decode cL_law 248 = .ok (.aload_n 0, 1) := de_2a tL_law_248
def tL_law_249 := Bt_1 (q := 249) tL_law_248 rfl
theorem dL_law_249 : decode cL_law 249 = .ok (.iload_n 3, 1) := de_1d tL_law_249
def tL_law_250 := Bt_1 (q := 250) tL_law_249 rfl
theorem dL_law_250 : decode cL_law 250 = .ok (.iconst 2, 1) := de_05 tL_law_250
def tL_law_251 := Bt_1 (q := 251) tL_law_250 rfl
theorem dL_law_251 : decode cL_law 251 = .ok (.iadd, 1) := de_60 tL_law_251
def tL_law_252 := Bt_1 (q := 252) tL_law_251 rfl
theorem dL_law_252 : decode cL_law 252 = .ok (.iaload, 1) := de_2e tL_law_252
def tL_law_253 := Bt_1 (q := 253) tL_law_252 rfl
theorem dL_law_253 : decode cL_law 253 = .ok (.invokevirtual 22, 3) := de_b6 tL_law_253 (by decide +kernel)
def tL_law_256 := Bt_3 (q := 256) tL_law_253 rfl
theorem dL_law_256 : decode cL_law 256 = .ok (.pop, 1) := de_57 tL_law_256
def tL_law_257 := Bt_1 (q := 257) tL_law_256 rfl
theorem dL_law_257 : decode cL_law 257 = .ok (.goto 1360, 3) := de_a7 tL_law_257 (by decide +kernel)
def tL_law_260 := Bt_3 (q := 260) tL_law_257 rfl
theorem dL_law_260 : decode cL_law 260 = .ok (.aload_n 1, 1) := de_2b tL_law_260
def tL_law_261 := Bt_1 (q := 261) tL_law_260 rfl
theorem dL_law_261 : decode cL_law 261 = .ok (.aload_n 0, 1) := de_2a tL_law_261
def tL_law_262 := Bt_1 (q := 262) tL_law_261 rfl
theorem dL_law_262 : decode cL_law 262 = .ok (.iload_n 3, 1) := de_1d tL_law_262
def tL_law_263 := Bt_1 (q := 263) tL_law_262 rfl
theorem dL_law_263 : decode cL_law 263 = .ok (.iconst 1, 1) := de_04 tL_law_263
def tL_law_264 := Bt_1 (q := 264) tL_law_263 rfl
theorem dL_law_264 : decode cL_law 264 = .ok (.iadd, 1) := de_60 tL_law_264
def tL_law_265 := Bt_1 (q := 265) tL_law_264 rfl
theorem dL_law_265 : decode cL_law 265 = .ok (.iaload, 1) := de_2e tL_law_265
def tL_law_266 := Bt_1 (q := 266) tL_law_265 rfl
theorem dL_law_266 : decode cL_law 266 = .ok (.invokevirtual 23, 3) := de_b6 tL_law_266 (by decide +kernel)
def tL_law_269 := Bt_3 (q := 269) tL_law_266 rfl
theorem dL_law_269 : decode cL_law 269 = .ok (.pop, 1) := de_57 tL_law_269
def tL_law_270 := Bt_1 (q := 270) tL_law_269 rfl
theorem dL_law_270 : decode cL_law 270 = .ok (.aload_n 2, 1) := de_2c tL_law_270
def tL_law_271 := Bt_1 (q := 271) tL_law_270 rfl
theorem dL_law_271 : decode cL_law 271 = .ok (.aload_n 0, 1) := de_2a tL_law_271
def tL_law_272 := Bt_1 (q := 272) tL_law_271 rfl
theorem dL_law_272 : decode cL_law 272 = .ok (.iload_n 3, 1) := de_1d tL_law_272
def tL_law_273 := Bt_1 (q := 273) tL_law_272 rfl
theorem dL_law_273 : decode cL_law 273 = .ok (.iconst 1, 1) := de_04 tL_law_273
def tL_law_274 := Bt_1 (q := 274) tL_law_273 rfl
theorem dL_law_274 : decode cL_law 274 = .ok (.iadd, 1) := de_60 tL_law_274
def tL_law_275 := Bt_1 (q := 275) tL_law_274 rfl
theorem dL_law_275 : decode cL_law 275 = .ok (.iaload, 1) := de_2e tL_law_275
def tL_law_276 := Bt_1 (q := 276) tL_law_275 rfl
theorem dL_law_276 : decode cL_law 276 = .ok (.invokevirtual 26, 3) := de_b6 tL_law_276 (by decide +kernel)
def tL_law_279 := Bt_3 (q := 279) tL_law_276 rfl
theorem dL_law_279 : decode cL_law 279 = .ok (.pop, 1) := de_57 tL_law_279
def tL_law_280 := Bt_1 (q := 280) tL_law_279 rfl
theorem dL_law_280 : decode cL_law 280 = .ok (.goto 1337, 3) := de_a7 tL_law_280 (by decide +kernel)
def tL_law_283 := Bt_3 (q := 283) tL_law_280 rfl
theorem dL_law_283 : decode cL_law 283 = .ok (.aload_n 1, 1) := de_2b tL_law_283
def tL_law_284 := Bt_1 (q := 284) tL_law_283 rfl
theorem dL_law_284 : decode cL_law 284 = .ok (.aload_n 0, 1) := de_2a tL_law_284
def tL_law_285 := Bt_1 (q := 285) tL_law_284 rfl
theorem dL_law_285 : decode cL_law 285 = .ok (.iload_n 3, 1) := de_1d tL_law_285
def tL_law_286 := Bt_1 (q := 286) tL_law_285 rfl
theorem dL_law_286 : decode cL_law 286 = .ok (.iconst 1, 1) := de_04 tL_law_286
def tL_law_287 := Bt_1 (q := 287) tL_law_286 rfl
theorem dL_law_287 : decode cL_law 287 = .ok (.iadd, 1) := de_60 tL_law_287
def tL_law_288 := Bt_1 (q := 288) tL_law_287 rfl
theorem dL_law_288 : decode cL_law 288 = .ok (.iaload, 1) := de_2e tL_law_288
def tL_law_289 := Bt_1 (q := 289) tL_law_288 rfl
theorem dL_law_289 : decode cL_law 289 = .ok (.invokevirtual 27, 3) := de_b6 tL_law_289 (by decide +kernel)
def tL_law_292 := Bt_3 (q := 292) tL_law_289 rfl
theorem dL_law_292 : decode cL_law 292 = .ok (.pop, 1) := de_57 tL_law_292
def tL_law_293 := Bt_1 (q := 293) tL_law_292 rfl
theorem dL_law_293 : decode cL_law 293 = .ok (.aload_n 2, 1) := de_2c tL_law_293
def tL_law_294 := Bt_1 (q := 294) tL_law_293 rfl
theorem dL_law_294 : decode cL_law 294 = .ok (.aload_n 0, 1) := de_2a tL_law_294
def tL_law_295 := Bt_1 (q := 295) tL_law_294 rfl
theorem dL_law_295 : decode cL_law 295 = .ok (.iload_n 3, 1) := de_1d tL_law_295
def tL_law_296 := Bt_1 (q := 296) tL_law_295 rfl
theorem dL_law_296 : decode cL_law 296 = .ok (.iconst 1, 1) := de_04 tL_law_296
def tL_law_297 := Bt_1 (q := 297) tL_law_296 rfl
theorem dL_law_297 : decode cL_law 297 = .ok (.iadd, 1) := de_60 tL_law_297
def tL_law_298 := Bt_1 (q := 298) tL_law_297 rfl
theorem dL_law_298 : decode cL_law 298 = .ok (.iaload, 1) := de_2e tL_law_298
def tL_law_299 := Bt_1 (q := 299) tL_law_298 rfl
theorem dL_law_299 : decode cL_law 299 = .ok (.invokevirtual 30, 3) := de_b6 tL_law_299 (by decide +kernel)
def tL_law_302 := Bt_3 (q := 302) tL_law_299 rfl
theorem dL_law_302 : decode cL_law 302 = .ok (.pop, 1) := de_57 tL_law_302
def tL_law_303 := Bt_1 (q := 303) tL_law_302 rfl
theorem dL_law_303 : decode cL_law 303 = .ok (.goto 1314, 3) := de_a7 tL_law_303 (by decide +kernel)
def tL_law_306 := Bt_3 (q := 306) tL_law_303 rfl
theorem dL_law_306 : decode cL_law 306 = .ok (.aload_n 1, 1) := de_2b tL_law_306
def tL_law_307 := Bt_1 (q := 307) tL_law_306 rfl
theorem dL_law_307 : decode cL_law 307 = .ok (.aload_n 0, 1) := de_2a tL_law_307
def tL_law_308 := Bt_1 (q := 308) tL_law_307 rfl
theorem dL_law_308 : decode cL_law 308 = .ok (.iload_n 3, 1) := de_1d tL_law_308
def tL_law_309 := Bt_1 (q := 309) tL_law_308 rfl
theorem dL_law_309 : decode cL_law 309 = .ok (.iconst 1, 1) := de_04 tL_law_309
def tL_law_310 := Bt_1 (q := 310) tL_law_309 rfl
theorem dL_law_310 : decode cL_law 310 = .ok (.iadd, 1) := de_60 tL_law_310
def tL_law_311 := Bt_1 (q := 311) tL_law_310 rfl
theorem dL_law_311 : decode cL_law 311 = .ok (.iaload, 1) := de_2e tL_law_311
def tL_law_312 := Bt_1 (q := 312) tL_law_311 rfl
theorem dL_law_312 : decode cL_law 312 = .ok (.aload_n 0, 1) := de_2a tL_law_312
def tL_law_313 := Bt_1 (q := 313) tL_law_312 rfl
theorem dL_law_313 : decode cL_law 313 = .ok (.iload_n 3, 1) := de_1d tL_law_313
def tL_law_314 := Bt_1 (q := 314) tL_law_313 rfl
theorem dL_law_314 : decode cL_law 314 = .ok (.iconst 2, 1) := de_05 tL_law_314
def tL_law_315 := Bt_1 (q := 315) tL_law_314 rfl
theorem dL_law_315 : decode cL_law 315 = .ok (.iadd, 1) := de_60 tL_law_315
def tL_law_316 := Bt_1 (q := 316) tL_law_315 rfl
theorem dL_law_316 : decode cL_law 316 = .ok (.iaload, 1) := de_2e tL_law_316
def tL_law_317 := Bt_1 (q := 317) tL_law_316 rfl
theorem dL_law_317 : decode cL_law 317 = .ok (.aload_n 0, 1) := de_2a tL_law_317
def tL_law_318 := Bt_1 (q := 318) tL_law_317 rfl
theorem dL_law_318 : decode cL_law 318 = .ok (.iload_n 3, 1) := de_1d tL_law_318
def tL_law_319 := Bt_1 (q := 319) tL_law_318 rfl
theorem dL_law_319 : decode cL_law 319 = .ok (.iconst 3, 1) := de_06 tL_law_319
def tL_law_320 := Bt_1 (q := 320) tL_law_319 rfl
theorem dL_law_320 : decode cL_law 320 = .ok (.iadd, 1) := de_60 tL_law_320
def tL_law_321 := Bt_1 (q := 321) tL_law_320 rfl
theorem dL_law_321 : decode cL_law 321 = .ok (.iaload, 1) := de_2e tL_law_321
def tL_law_322 := Bt_1 (q := 322) tL_law_321 rfl
theorem dL_law_322 : decode cL_law 322 = .ok (.aload_n 0, 1) := de_2a tL_law_322
def tL_law_323 := Bt_1 (q := 323) tL_law_322 rfl
theorem dL_law_323 : decode cL_law 323 = .ok (.iload_n 3, 1) := de_1d tL_law_323
def tL_law_324 := Bt_1 (q := 324) tL_law_323 rfl
theorem dL_law_324 : decode cL_law 324 = .ok (.iconst 4, 1) := de_07 tL_law_324
def tL_law_325 := Bt_1 (q := 325) tL_law_324 rfl
theorem dL_law_325 : decode cL_law 325 = .ok (.iadd, 1) := de_60 tL_law_325
def tL_law_326 := Bt_1 (q := 326) tL_law_325 rfl
theorem dL_law_326 : decode cL_law 326 = .ok (.iaload, 1) := de_2e tL_law_326
def tL_law_327 := Bt_1 (q := 327) tL_law_326 rfl
theorem dL_law_327 : decode cL_law 327 = .ok (.aload_n 0, 1) := de_2a tL_law_327
def tL_law_328 := Bt_1 (q := 328) tL_law_327 rfl
theorem dL_law_328 : decode cL_law 328 = .ok (.iload_n 3, 1) := de_1d tL_law_328
def tL_law_329 := Bt_1 (q := 329) tL_law_328 rfl
theorem dL_law_329 : decode cL_law 329 = .ok (.iconst 5, 1) := de_08 tL_law_329
def tL_law_330 := Bt_1 (q := 330) tL_law_329 rfl
theorem dL_law_330 : decode cL_law 330 = .ok (.iadd, 1) := de_60 tL_law_330
def tL_law_331 := Bt_1 (q := 331) tL_law_330 rfl
theorem dL_law_331 : decode cL_law 331 = .ok (.iaload, 1) := de_2e tL_law_331
def tL_law_332 := Bt_1 (q := 332) tL_law_331 rfl
theorem dL_law_332 : decode cL_law 332 = .ok (.aload_n 0, 1) := de_2a tL_law_332
def tL_law_333 := Bt_1 (q := 333) tL_law_332 rfl
theorem dL_law_333 : decode cL_law 333 = .ok (.iload_n 3, 1) := de_1d tL_law_333
def tL_law_334 := Bt_1 (q := 334) tL_law_333 rfl
theorem dL_law_334 : decode cL_law 334 = .ok (.bipush 6, 2) := de_10 tL_law_334 (by decide +kernel)
def tL_law_336 := Bt_2 (q := 336) tL_law_334 rfl
theorem dL_law_336 : decode cL_law 336 = .ok (.iadd, 1) := de_60 tL_law_336
def tL_law_337 := Bt_1 (q := 337) tL_law_336 rfl
theorem dL_law_337 : decode cL_law 337 = .ok (.iaload, 1) := de_2e tL_law_337
def tL_law_338 := Bt_1 (q := 338) tL_law_337 rfl
theorem dL_law_338 : decode cL_law 338 = .ok (.aload_n 0, 1) := de_2a tL_law_338
def tL_law_339 := Bt_1 (q := 339) tL_law_338 rfl
theorem dL_law_339 : decode cL_law 339 = .ok (.iload_n 3, 1) := de_1d tL_law_339
def tL_law_340 := Bt_1 (q := 340) tL_law_339 rfl
theorem dL_law_340 : decode cL_law 340 = .ok (.bipush 7, 2) := de_10 tL_law_340 (by decide +kernel)
def tL_law_342 := Bt_2 (q := 342) tL_law_340 rfl
theorem dL_law_342 : decode cL_law 342 = .ok (.iadd, 1) := de_60 tL_law_342
def tL_law_343 := Bt_1 (q := 343) tL_law_342 rfl
theorem dL_law_343 : decode cL_law 343 = .ok (.iaload, 1) := de_2e tL_law_343
def tL_law_344 := Bt_1 (q := 344) tL_law_343 rfl
theorem dL_law_344 : decode cL_law 344 = .ok (.aload_n 0, 1) := de_2a tL_law_344
def tL_law_345 := Bt_1 (q := 345) tL_law_344 rfl
theorem dL_law_345 : decode cL_law 345 = .ok (.iload_n 3, 1) := de_1d tL_law_345
def tL_law_346 := Bt_1 (q := 346) tL_law_345 rfl
theorem dL_law_346 : decode cL_law 346 = .ok (.bipush 8, 2) := de_10 tL_law_346 (by decide +kernel)
def tL_law_348 := Bt_2 (q := 348) tL_law_346 rfl
theorem dL_law_348 : decode cL_law 348 = .ok (.iadd, 1) := de_60 tL_law_348
def tL_law_349 := Bt_1 (q := 349) tL_law_348 rfl
theorem dL_law_349 : decode cL_law 349 = .ok (.iaload, 1) := de_2e tL_law_349
def tL_law_350 := Bt_1 (q := 350) tL_law_349 rfl
theorem dL_law_350 : decode cL_law 350 = .ok (.aload_n 0, 1) := de_2a tL_law_350
def tL_law_351 := Bt_1 (q := 351) tL_law_350 rfl
theorem dL_law_351 : decode cL_law 351 = .ok (.iload_n 3, 1) := de_1d tL_law_351
def tL_law_352 := Bt_1 (q := 352) tL_law_351 rfl
theorem dL_law_352 : decode cL_law 352 = .ok (.bipush 9, 2) := de_10 tL_law_352 (by decide +kernel)
def tL_law_354 := Bt_2 (q := 354) tL_law_352 rfl
theorem dL_law_354 : decode cL_law 354 = .ok (.iadd, 1) := de_60 tL_law_354
def tL_law_355 := Bt_1 (q := 355) tL_law_354 rfl
theorem dL_law_355 : decode cL_law 355 = .ok (.iaload, 1) := de_2e tL_law_355
def tL_law_356 := Bt_1 (q := 356) tL_law_355 rfl
theorem dL_law_356 : decode cL_law 356 = .ok (.invokevirtual 31, 3) := de_b6 tL_law_356 (by decide +kernel)
def tL_law_359 := Bt_3 (q := 359) tL_law_356 rfl
theorem dL_law_359 : decode cL_law 359 = .ok (.pop, 1) := de_57 tL_law_359
def tL_law_360 := Bt_1 (q := 360) tL_law_359 rfl
theorem dL_law_360 : decode cL_law 360 = .ok (.aload_n 2, 1) := de_2c tL_law_360
def tL_law_361 := Bt_1 (q := 361) tL_law_360 rfl
theorem dL_law_361 : decode cL_law 361 = .ok (.aload_n 0, 1) := de_2a tL_law_361
def tL_law_362 := Bt_1 (q := 362) tL_law_361 rfl
theorem dL_law_362 : decode cL_law 362 = .ok (.iload_n 3, 1) := de_1d tL_law_362
def tL_law_363 := Bt_1 (q := 363) tL_law_362 rfl
theorem dL_law_363 : decode cL_law 363 = .ok (.iconst 1, 1) := de_04 tL_law_363
def tL_law_364 := Bt_1 (q := 364) tL_law_363 rfl
theorem dL_law_364 : decode cL_law 364 = .ok (.iadd, 1) := de_60 tL_law_364
def tL_law_365 := Bt_1 (q := 365) tL_law_364 rfl
theorem dL_law_365 : decode cL_law 365 = .ok (.iaload, 1) := de_2e tL_law_365
def tL_law_366 := Bt_1 (q := 366) tL_law_365 rfl
theorem dL_law_366 : decode cL_law 366 = .ok (.aload_n 0, 1) := de_2a tL_law_366
def tL_law_367 := Bt_1 (q := 367) tL_law_366 rfl
theorem dL_law_367 : decode cL_law 367 = .ok (.iload_n 3, 1) := de_1d tL_law_367
def tL_law_368 := Bt_1 (q := 368) tL_law_367 rfl
theorem dL_law_368 : decode cL_law 368 = .ok (.iconst 2, 1) := de_05 tL_law_368
def tL_law_369 := Bt_1 (q := 369) tL_law_368 rfl
theorem dL_law_369 : decode cL_law 369 = .ok (.iadd, 1) := de_60 tL_law_369
def tL_law_370 := Bt_1 (q := 370) tL_law_369 rfl
theorem dL_law_370 : decode cL_law 370 = .ok (.iaload, 1) := de_2e tL_law_370
def tL_law_371 := Bt_1 (q := 371) tL_law_370 rfl
theorem dL_law_371 : decode cL_law 371 = .ok (.aload_n 0, 1) := de_2a tL_law_371
def tL_law_372 := Bt_1 (q := 372) tL_law_371 rfl
theorem dL_law_372 : decode cL_law 372 = .ok (.iload_n 3, 1) := de_1d tL_law_372
def tL_law_373 := Bt_1 (q := 373) tL_law_372 rfl
theorem dL_law_373 : decode cL_law 373 = .ok (.iconst 3, 1) := de_06 tL_law_373
def tL_law_374 := Bt_1 (q := 374) tL_law_373 rfl
theorem dL_law_374 : decode cL_law 374 = .ok (.iadd, 1) := de_60 tL_law_374
def tL_law_375 := Bt_1 (q := 375) tL_law_374 rfl
theorem dL_law_375 : decode cL_law 375 = .ok (.iaload, 1) := de_2e tL_law_375
def tL_law_376 := Bt_1 (q := 376) tL_law_375 rfl
theorem dL_law_376 : decode cL_law 376 = .ok (.aload_n 0, 1) := de_2a tL_law_376
def tL_law_377 := Bt_1 (q := 377) tL_law_376 rfl
theorem dL_law_377 : decode cL_law 377 = .ok (.iload_n 3, 1) := de_1d tL_law_377
def tL_law_378 := Bt_1 (q := 378) tL_law_377 rfl
theorem dL_law_378 : decode cL_law 378 = .ok (.iconst 4, 1) := de_07 tL_law_378
def tL_law_379 := Bt_1 (q := 379) tL_law_378 rfl
theorem dL_law_379 : decode cL_law 379 = .ok (.iadd, 1) := de_60 tL_law_379
def tL_law_380 := Bt_1 (q := 380) tL_law_379 rfl
theorem dL_law_380 : decode cL_law 380 = .ok (.iaload, 1) := de_2e tL_law_380
def tL_law_381 := Bt_1 (q := 381) tL_law_380 rfl
theorem dL_law_381 : decode cL_law 381 = .ok (.aload_n 0, 1) := de_2a tL_law_381
def tL_law_382 := Bt_1 (q := 382) tL_law_381 rfl
theorem dL_law_382 : decode cL_law 382 = .ok (.iload_n 3, 1) := de_1d tL_law_382
def tL_law_383 := Bt_1 (q := 383) tL_law_382 rfl
theorem dL_law_383 : decode cL_law 383 = .ok (.iconst 5, 1) := de_08 tL_law_383
def tL_law_384 := Bt_1 (q := 384) tL_law_383 rfl
theorem dL_law_384 : decode cL_law 384 = .ok (.iadd, 1) := de_60 tL_law_384
def tL_law_385 := Bt_1 (q := 385) tL_law_384 rfl
theorem dL_law_385 : decode cL_law 385 = .ok (.iaload, 1) := de_2e tL_law_385
def tL_law_386 := Bt_1 (q := 386) tL_law_385 rfl
theorem dL_law_386 : decode cL_law 386 = .ok (.aload_n 0, 1) := de_2a tL_law_386
def tL_law_387 := Bt_1 (q := 387) tL_law_386 rfl
theorem dL_law_387 : decode cL_law 387 = .ok (.iload_n 3, 1) := de_1d tL_law_387
def tL_law_388 := Bt_1 (q := 388) tL_law_387 rfl
theorem dL_law_388 : decode cL_law 388 = .ok (.bipush 6, 2) := de_10 tL_law_388 (by decide +kernel)
def tL_law_390 := Bt_2 (q := 390) tL_law_388 rfl
theorem dL_law_390 : decode cL_law 390 = .ok (.iadd, 1) := de_60 tL_law_390
def tL_law_391 := Bt_1 (q := 391) tL_law_390 rfl
theorem dL_law_391 : decode cL_law 391 = .ok (.iaload, 1) := de_2e tL_law_391
def tL_law_392 := Bt_1 (q := 392) tL_law_391 rfl
theorem dL_law_392 : decode cL_law 392 = .ok (.aload_n 0, 1) := de_2a tL_law_392
def tL_law_393 := Bt_1 (q := 393) tL_law_392 rfl
theorem dL_law_393 : decode cL_law 393 = .ok (.iload_n 3, 1) := de_1d tL_law_393
def tL_law_394 := Bt_1 (q := 394) tL_law_393 rfl
theorem dL_law_394 : decode cL_law 394 = .ok (.bipush 7, 2) := de_10 tL_law_394 (by decide +kernel)
def tL_law_396 := Bt_2 (q := 396) tL_law_394 rfl
theorem dL_law_396 : decode cL_law 396 = .ok (.iadd, 1) := de_60 tL_law_396
def tL_law_397 := Bt_1 (q := 397) tL_law_396 rfl
theorem dL_law_397 : decode cL_law 397 = .ok (.iaload, 1) := de_2e tL_law_397
def tL_law_398 := Bt_1 (q := 398) tL_law_397 rfl
theorem dL_law_398 : decode cL_law 398 = .ok (.aload_n 0, 1) := de_2a tL_law_398
def tL_law_399 := Bt_1 (q := 399) tL_law_398 rfl
theorem dL_law_399 : decode cL_law 399 = .ok (.iload_n 3, 1) := de_1d tL_law_399
def tL_law_400 := Bt_1 (q := 400) tL_law_399 rfl
theorem dL_law_400 : decode cL_law 400 = .ok (.bipush 8, 2) := de_10 tL_law_400 (by decide +kernel)
def tL_law_402 := Bt_2 (q := 402) tL_law_400 rfl
theorem dL_law_402 : decode cL_law 402 = .ok (.iadd, 1) := de_60 tL_law_402
def tL_law_403 := Bt_1 (q := 403) tL_law_402 rfl
theorem dL_law_403 : decode cL_law 403 = .ok (.iaload, 1) := de_2e tL_law_403
def tL_law_404 := Bt_1 (q := 404) tL_law_403 rfl
theorem dL_law_404 : decode cL_law 404 = .ok (.aload_n 0, 1) := de_2a tL_law_404
def tL_law_405 := Bt_1 (q := 405) tL_law_404 rfl
theorem dL_law_405 : decode cL_law 405 = .ok (.iload_n 3, 1) := de_1d tL_law_405
def tL_law_406 := Bt_1 (q := 406) tL_law_405 rfl
theorem dL_law_406 : decode cL_law 406 = .ok (.bipush 9, 2) := de_10 tL_law_406 (by decide +kernel)
def tL_law_408 := Bt_2 (q := 408) tL_law_406 rfl
theorem dL_law_408 : decode cL_law 408 = .ok (.iadd, 1) := de_60 tL_law_408
def tL_law_409 := Bt_1 (q := 409) tL_law_408 rfl
theorem dL_law_409 : decode cL_law 409 = .ok (.iaload, 1) := de_2e tL_law_409
def tL_law_410 := Bt_1 (q := 410) tL_law_409 rfl
theorem dL_law_410 : decode cL_law 410 = .ok (.invokevirtual 35, 3) := de_b6 tL_law_410 (by decide +kernel)
def tL_law_413 := Bt_3 (q := 413) tL_law_410 rfl
theorem dL_law_413 : decode cL_law 413 = .ok (.pop, 1) := de_57 tL_law_413
def tL_law_414 := Bt_1 (q := 414) tL_law_413 rfl
theorem dL_law_414 : decode cL_law 414 = .ok (.goto 1203, 3) := de_a7 tL_law_414 (by decide +kernel)
def tL_law_417 := Bt_3 (q := 417) tL_law_414 rfl
theorem dL_law_417 : decode cL_law 417 = .ok (.aload_n 1, 1) := de_2b tL_law_417
def tL_law_418 := Bt_1 (q := 418) tL_law_417 rfl
theorem dL_law_418 : decode cL_law 418 = .ok (.aload_n 0, 1) := de_2a tL_law_418
def tL_law_419 := Bt_1 (q := 419) tL_law_418 rfl
theorem dL_law_419 : decode cL_law 419 = .ok (.iload_n 3, 1) := de_1d tL_law_419
def tL_law_420 := Bt_1 (q := 420) tL_law_419 rfl
theorem dL_law_420 : decode cL_law 420 = .ok (.iconst 1, 1) := de_04 tL_law_420
def tL_law_421 := Bt_1 (q := 421) tL_law_420 rfl
theorem dL_law_421 : decode cL_law 421 = .ok (.iadd, 1) := de_60 tL_law_421
def tL_law_422 := Bt_1 (q := 422) tL_law_421 rfl
theorem dL_law_422 : decode cL_law 422 = .ok (.iaload, 1) := de_2e tL_law_422
def tL_law_423 := Bt_1 (q := 423) tL_law_422 rfl
theorem dL_law_423 : decode cL_law 423 = .ok (.aload_n 0, 1) := de_2a tL_law_423
def tL_law_424 := Bt_1 (q := 424) tL_law_423 rfl
theorem dL_law_424 : decode cL_law 424 = .ok (.iload_n 3, 1) := de_1d tL_law_424
def tL_law_425 := Bt_1 (q := 425) tL_law_424 rfl
theorem dL_law_425 : decode cL_law 425 = .ok (.iconst 2, 1) := de_05 tL_law_425
def tL_law_426 := Bt_1 (q := 426) tL_law_425 rfl
theorem dL_law_426 : decode cL_law 426 = .ok (.iadd, 1) := de_60 tL_law_426
def tL_law_427 := Bt_1 (q := 427) tL_law_426 rfl
theorem dL_law_427 : decode cL_law 427 = .ok (.iaload, 1) := de_2e tL_law_427
def tL_law_428 := Bt_1 (q := 428) tL_law_427 rfl
theorem dL_law_428 : decode cL_law 428 = .ok (.invokevirtual 36, 3) := de_b6 tL_law_428 (by decide +kernel)
def tL_law_431 := Bt_3 (q := 431) tL_law_428 rfl
theorem dL_law_431 : decode cL_law 431 = .ok (.pop, 1) := de_57 tL_law_431
def tL_law_432 := Bt_1 (q := 432) tL_law_431 rfl
theorem dL_law_432 : decode cL_law 432 = .ok (.aload_n 2, 1) := de_2c tL_law_432
def tL_law_433 := Bt_1 (q := 433) tL_law_432 rfl
theorem dL_law_433 : decode cL_law 433 = .ok (.aload_n 0, 1) := de_2a tL_law_433
def tL_law_434 := Bt_1 (q := 434) tL_law_433 rfl
theorem dL_law_434 : decode cL_law 434 = .ok (.iload_n 3, 1) := de_1d tL_law_434
def tL_law_435 := Bt_1 (q := 435) tL_law_434 rfl
theorem dL_law_435 : decode cL_law 435 = .ok (.iconst 1, 1) := de_04 tL_law_435
def tL_law_436 := Bt_1 (q := 436) tL_law_435 rfl
theorem dL_law_436 : decode cL_law 436 = .ok (.iadd, 1) := de_60 tL_law_436
def tL_law_437 := Bt_1 (q := 437) tL_law_436 rfl
theorem dL_law_437 : decode cL_law 437 = .ok (.iaload, 1) := de_2e tL_law_437
def tL_law_438 := Bt_1 (q := 438) tL_law_437 rfl
theorem dL_law_438 : decode cL_law 438 = .ok (.aload_n 0, 1) := de_2a tL_law_438
def tL_law_439 := Bt_1 (q := 439) tL_law_438 rfl
theorem dL_law_439 : decode cL_law 439 = .ok (.iload_n 3, 1) := de_1d tL_law_439
def tL_law_440 := Bt_1 (q := 440) tL_law_439 rfl
theorem dL_law_440 : decode cL_law 440 = .ok (.iconst 2, 1) := de_05 tL_law_440
def tL_law_441 := Bt_1 (q := 441) tL_law_440 rfl
theorem dL_law_441 : decode cL_law 441 = .ok (.iadd, 1) := de_60 tL_law_441
def tL_law_442 := Bt_1 (q := 442) tL_law_441 rfl
theorem dL_law_442 : decode cL_law 442 = .ok (.iaload, 1) := de_2e tL_law_442
def tL_law_443 := Bt_1 (q := 443) tL_law_442 rfl
theorem dL_law_443 : decode cL_law 443 = .ok (.invokevirtual 39, 3) := de_b6 tL_law_443 (by decide +kernel)
def tL_law_446 := Bt_3 (q := 446) tL_law_443 rfl
theorem dL_law_446 : decode cL_law 446 = .ok (.pop, 1) := de_57 tL_law_446
def tL_law_447 := Bt_1 (q := 447) tL_law_446 rfl
theorem dL_law_447 : decode cL_law 447 = .ok (.goto 1170, 3) := de_a7 tL_law_447 (by decide +kernel)
def tL_law_450 := Bt_3 (q := 450) tL_law_447 rfl
theorem dL_law_450 : decode cL_law 450 = .ok (.aload_n 1, 1) := de_2b tL_law_450
def tL_law_451 := Bt_1 (q := 451) tL_law_450 rfl
theorem dL_law_451 : decode cL_law 451 = .ok (.aload_n 0, 1) := de_2a tL_law_451
def tL_law_452 := Bt_1 (q := 452) tL_law_451 rfl
theorem dL_law_452 : decode cL_law 452 = .ok (.iload_n 3, 1) := de_1d tL_law_452
def tL_law_453 := Bt_1 (q := 453) tL_law_452 rfl
theorem dL_law_453 : decode cL_law 453 = .ok (.iconst 1, 1) := de_04 tL_law_453
def tL_law_454 := Bt_1 (q := 454) tL_law_453 rfl
theorem dL_law_454 : decode cL_law 454 = .ok (.iadd, 1) := de_60 tL_law_454
def tL_law_455 := Bt_1 (q := 455) tL_law_454 rfl
theorem dL_law_455 : decode cL_law 455 = .ok (.iaload, 1) := de_2e tL_law_455
def tL_law_456 := Bt_1 (q := 456) tL_law_455 rfl
theorem dL_law_456 : decode cL_law 456 = .ok (.aload_n 0, 1) := de_2a tL_law_456
def tL_law_457 := Bt_1 (q := 457) tL_law_456 rfl
theorem dL_law_457 : decode cL_law 457 = .ok (.iload_n 3, 1) := de_1d tL_law_457
def tL_law_458 := Bt_1 (q := 458) tL_law_457 rfl
theorem dL_law_458 : decode cL_law 458 = .ok (.iconst 2, 1) := de_05 tL_law_458
def tL_law_459 := Bt_1 (q := 459) tL_law_458 rfl
theorem dL_law_459 : decode cL_law 459 = .ok (.iadd, 1) := de_60 tL_law_459
def tL_law_460 := Bt_1 (q := 460) tL_law_459 rfl
theorem dL_law_460 : decode cL_law 460 = .ok (.iaload, 1) := de_2e tL_law_460
def tL_law_461 := Bt_1 (q := 461) tL_law_460 rfl
theorem dL_law_461 : decode cL_law 461 = .ok (.invokevirtual 40, 3) := de_b6 tL_law_461 (by decide +kernel)
def tL_law_464 := Bt_3 (q := 464) tL_law_461 rfl
theorem dL_law_464 : decode cL_law 464 = .ok (.pop, 1) := de_57 tL_law_464
def tL_law_465 := Bt_1 (q := 465) tL_law_464 rfl
theorem dL_law_465 : decode cL_law 465 = .ok (.aload_n 2, 1) := de_2c tL_law_465
def tL_law_466 := Bt_1 (q := 466) tL_law_465 rfl
theorem dL_law_466 : decode cL_law 466 = .ok (.aload_n 0, 1) := de_2a tL_law_466
def tL_law_467 := Bt_1 (q := 467) tL_law_466 rfl
theorem dL_law_467 : decode cL_law 467 = .ok (.iload_n 3, 1) := de_1d tL_law_467
def tL_law_468 := Bt_1 (q := 468) tL_law_467 rfl
theorem dL_law_468 : decode cL_law 468 = .ok (.iconst 1, 1) := de_04 tL_law_468
def tL_law_469 := Bt_1 (q := 469) tL_law_468 rfl
theorem dL_law_469 : decode cL_law 469 = .ok (.iadd, 1) := de_60 tL_law_469
def tL_law_470 := Bt_1 (q := 470) tL_law_469 rfl
theorem dL_law_470 : decode cL_law 470 = .ok (.iaload, 1) := de_2e tL_law_470
def tL_law_471 := Bt_1 (q := 471) tL_law_470 rfl
theorem dL_law_471 : decode cL_law 471 = .ok (.aload_n 0, 1) := de_2a tL_law_471
def tL_law_472 := Bt_1 (q := 472) tL_law_471 rfl
theorem dL_law_472 : decode cL_law 472 = .ok (.iload_n 3, 1) := de_1d tL_law_472
def tL_law_473 := Bt_1 (q := 473) tL_law_472 rfl
theorem dL_law_473 : decode cL_law 473 = .ok (.iconst 2, 1) := de_05 tL_law_473
def tL_law_474 := Bt_1 (q := 474) tL_law_473 rfl
theorem dL_law_474 : decode cL_law 474 = .ok (.iadd, 1) := de_60 tL_law_474
def tL_law_475 := Bt_1 (q := 475) tL_law_474 rfl
theorem dL_law_475 : decode cL_law 475 = .ok (.iaload, 1) := de_2e tL_law_475
def tL_law_476 := Bt_1 (q := 476) tL_law_475 rfl
theorem dL_law_476 : decode cL_law 476 = .ok (.invokevirtual 43, 3) := de_b6 tL_law_476 (by decide +kernel)
def tL_law_479 := Bt_3 (q := 479) tL_law_476 rfl
theorem dL_law_479 : decode cL_law 479 = .ok (.pop, 1) := de_57 tL_law_479
def tL_law_480 := Bt_1 (q := 480) tL_law_479 rfl
theorem dL_law_480 : decode cL_law 480 = .ok (.goto 1137, 3) := de_a7 tL_law_480 (by decide +kernel)
def tL_law_483 := Bt_3 (q := 483) tL_law_480 rfl
theorem dL_law_483 : decode cL_law 483 = .ok (.aload_n 1, 1) := de_2b tL_law_483
def tL_law_484 := Bt_1 (q := 484) tL_law_483 rfl
theorem dL_law_484 : decode cL_law 484 = .ok (.aload_n 0, 1) := de_2a tL_law_484
def tL_law_485 := Bt_1 (q := 485) tL_law_484 rfl
theorem dL_law_485 : decode cL_law 485 = .ok (.iload_n 3, 1) := de_1d tL_law_485
def tL_law_486 := Bt_1 (q := 486) tL_law_485 rfl
theorem dL_law_486 : decode cL_law 486 = .ok (.iconst 1, 1) := de_04 tL_law_486
def tL_law_487 := Bt_1 (q := 487) tL_law_486 rfl
theorem dL_law_487 : decode cL_law 487 = .ok (.iadd, 1) := de_60 tL_law_487
def tL_law_488 := Bt_1 (q := 488) tL_law_487 rfl
theorem dL_law_488 : decode cL_law 488 = .ok (.iaload, 1) := de_2e tL_law_488
def tL_law_489 := Bt_1 (q := 489) tL_law_488 rfl
theorem dL_law_489 : decode cL_law 489 = .ok (.aload_n 0, 1) := de_2a tL_law_489
def tL_law_490 := Bt_1 (q := 490) tL_law_489 rfl
theorem dL_law_490 : decode cL_law 490 = .ok (.iload_n 3, 1) := de_1d tL_law_490
def tL_law_491 := Bt_1 (q := 491) tL_law_490 rfl
theorem dL_law_491 : decode cL_law 491 = .ok (.iconst 2, 1) := de_05 tL_law_491
def tL_law_492 := Bt_1 (q := 492) tL_law_491 rfl
theorem dL_law_492 : decode cL_law 492 = .ok (.iadd, 1) := de_60 tL_law_492
def tL_law_493 := Bt_1 (q := 493) tL_law_492 rfl
theorem dL_law_493 : decode cL_law 493 = .ok (.iaload, 1) := de_2e tL_law_493
def tL_law_494 := Bt_1 (q := 494) tL_law_493 rfl
theorem dL_law_494 : decode cL_law 494 = .ok (.invokevirtual 44, 3) := de_b6 tL_law_494 (by decide +kernel)
def tL_law_497 := Bt_3 (q := 497) tL_law_494 rfl
theorem dL_law_497 : decode cL_law 497 = .ok (.pop, 1) := de_57 tL_law_497
def tL_law_498 := Bt_1 (q := 498) tL_law_497 rfl
theorem dL_law_498 : decode cL_law 498 = .ok (.aload_n 2, 1) := de_2c tL_law_498
def tL_law_499 := Bt_1 (q := 499) tL_law_498 rfl
theorem dL_law_499 : decode cL_law 499 = .ok (.aload_n 0, 1) := de_2a tL_law_499
def tL_law_500 := Bt_1 (q := 500) tL_law_499 rfl
theorem dL_law_500 : decode cL_law 500 = .ok (.iload_n 3, 1) := de_1d tL_law_500
def tL_law_501 := Bt_1 (q := 501) tL_law_500 rfl
theorem dL_law_501 : decode cL_law 501 = .ok (.iconst 1, 1) := de_04 tL_law_501
def tL_law_502 := Bt_1 (q := 502) tL_law_501 rfl
theorem dL_law_502 : decode cL_law 502 = .ok (.iadd, 1) := de_60 tL_law_502
def tL_law_503 := Bt_1 (q := 503) tL_law_502 rfl
theorem dL_law_503 : decode cL_law 503 = .ok (.iaload, 1) := de_2e tL_law_503
def tL_law_504 := Bt_1 (q := 504) tL_law_503 rfl
theorem dL_law_504 : decode cL_law 504 = .ok (.aload_n 0, 1) := de_2a tL_law_504
def tL_law_505 := Bt_1 (q := 505) tL_law_504 rfl
theorem dL_law_505 : decode cL_law 505 = .ok (.iload_n 3, 1) := de_1d tL_law_505
def tL_law_506 := Bt_1 (q := 506) tL_law_505 rfl
theorem dL_law_506 : decode cL_law 506 = .ok (.iconst 2, 1) := de_05 tL_law_506
def tL_law_507 := Bt_1 (q := 507) tL_law_506 rfl
theorem dL_law_507 : decode cL_law 507 = .ok (.iadd, 1) := de_60 tL_law_507
def tL_law_508 := Bt_1 (q := 508) tL_law_507 rfl
theorem dL_law_508 : decode cL_law 508 = .ok (.iaload, 1) := de_2e tL_law_508
def tL_law_509 := Bt_1 (q := 509) tL_law_508 rfl
theorem dL_law_509 : decode cL_law 509 = .ok (.invokevirtual 47, 3) := de_b6 tL_law_509 (by decide +kernel)
def tL_law_512 := Bt_3 (q := 512) tL_law_509 rfl
theorem dL_law_512 : decode cL_law 512 = .ok (.pop, 1) := de_57 tL_law_512
def tL_law_513 := Bt_1 (q := 513) tL_law_512 rfl
theorem dL_law_513 : decode cL_law 513 = .ok (.goto 1104, 3) := de_a7 tL_law_513 (by decide +kernel)
def tL_law_516 := Bt_3 (q := 516) tL_law_513 rfl
theorem dL_law_516 : decode cL_law 516 = .ok (.aload_n 1, 1) := de_2b tL_law_516
def tL_law_517 := Bt_1 (q := 517) tL_law_516 rfl
theorem dL_law_517 : decode cL_law 517 = .ok (.aload_n 0, 1) := de_2a tL_law_517
def tL_law_518 := Bt_1 (q := 518) tL_law_517 rfl
theorem dL_law_518 : decode cL_law 518 = .ok (.iload_n 3, 1) := de_1d tL_law_518
def tL_law_519 := Bt_1 (q := 519) tL_law_518 rfl
theorem dL_law_519 : decode cL_law 519 = .ok (.iconst 1, 1) := de_04 tL_law_519
def tL_law_520 := Bt_1 (q := 520) tL_law_519 rfl
theorem dL_law_520 : decode cL_law 520 = .ok (.iadd, 1) := de_60 tL_law_520
def tL_law_521 := Bt_1 (q := 521) tL_law_520 rfl
theorem dL_law_521 : decode cL_law 521 = .ok (.iaload, 1) := de_2e tL_law_521
def tL_law_522 := Bt_1 (q := 522) tL_law_521 rfl
theorem dL_law_522 : decode cL_law 522 = .ok (.aload_n 0, 1) := de_2a tL_law_522
def tL_law_523 := Bt_1 (q := 523) tL_law_522 rfl
theorem dL_law_523 : decode cL_law 523 = .ok (.iload_n 3, 1) := de_1d tL_law_523
def tL_law_524 := Bt_1 (q := 524) tL_law_523 rfl
theorem dL_law_524 : decode cL_law 524 = .ok (.iconst 2, 1) := de_05 tL_law_524
def tL_law_525 := Bt_1 (q := 525) tL_law_524 rfl
theorem dL_law_525 : decode cL_law 525 = .ok (.iadd, 1) := de_60 tL_law_525
def tL_law_526 := Bt_1 (q := 526) tL_law_525 rfl
theorem dL_law_526 : decode cL_law 526 = .ok (.iaload, 1) := de_2e tL_law_526
def tL_law_527 := Bt_1 (q := 527) tL_law_526 rfl
theorem dL_law_527 : decode cL_law 527 = .ok (.aload_n 0, 1) := de_2a tL_law_527
def tL_law_528 := Bt_1 (q := 528) tL_law_527 rfl
theorem dL_law_528 : decode cL_law 528 = .ok (.iload_n 3, 1) := de_1d tL_law_528
def tL_law_529 := Bt_1 (q := 529) tL_law_528 rfl
theorem dL_law_529 : decode cL_law 529 = .ok (.iconst 3, 1) := de_06 tL_law_529
def tL_law_530 := Bt_1 (q := 530) tL_law_529 rfl
theorem dL_law_530 : decode cL_law 530 = .ok (.iadd, 1) := de_60 tL_law_530
def tL_law_531 := Bt_1 (q := 531) tL_law_530 rfl
theorem dL_law_531 : decode cL_law 531 = .ok (.iaload, 1) := de_2e tL_law_531
def tL_law_532 := Bt_1 (q := 532) tL_law_531 rfl
theorem dL_law_532 : decode cL_law 532 = .ok (.aload_n 0, 1) := de_2a tL_law_532
def tL_law_533 := Bt_1 (q := 533) tL_law_532 rfl
theorem dL_law_533 : decode cL_law 533 = .ok (.iload_n 3, 1) := de_1d tL_law_533
def tL_law_534 := Bt_1 (q := 534) tL_law_533 rfl
theorem dL_law_534 : decode cL_law 534 = .ok (.iconst 4, 1) := de_07 tL_law_534
def tL_law_535 := Bt_1 (q := 535) tL_law_534 rfl
theorem dL_law_535 : decode cL_law 535 = .ok (.iadd, 1) := de_60 tL_law_535
def tL_law_536 := Bt_1 (q := 536) tL_law_535 rfl
theorem dL_law_536 : decode cL_law 536 = .ok (.iaload, 1) := de_2e tL_law_536
def tL_law_537 := Bt_1 (q := 537) tL_law_536 rfl
theorem dL_law_537 : decode cL_law 537 = .ok (.invokevirtual 48, 3) := de_b6 tL_law_537 (by decide +kernel)
def tL_law_540 := Bt_3 (q := 540) tL_law_537 rfl
theorem dL_law_540 : decode cL_law 540 = .ok (.pop, 1) := de_57 tL_law_540
def tL_law_541 := Bt_1 (q := 541) tL_law_540 rfl
theorem dL_law_541 : decode cL_law 541 = .ok (.aload_n 2, 1) := de_2c tL_law_541
def tL_law_542 := Bt_1 (q := 542) tL_law_541 rfl
theorem dL_law_542 : decode cL_law 542 = .ok (.aload_n 0, 1) := de_2a tL_law_542
def tL_law_543 := Bt_1 (q := 543) tL_law_542 rfl
theorem dL_law_543 : decode cL_law 543 = .ok (.iload_n 3, 1) := de_1d tL_law_543
def tL_law_544 := Bt_1 (q := 544) tL_law_543 rfl
theorem dL_law_544 : decode cL_law 544 = .ok (.iconst 1, 1) := de_04 tL_law_544
def tL_law_545 := Bt_1 (q := 545) tL_law_544 rfl
theorem dL_law_545 : decode cL_law 545 = .ok (.iadd, 1) := de_60 tL_law_545
def tL_law_546 := Bt_1 (q := 546) tL_law_545 rfl
theorem dL_law_546 : decode cL_law 546 = .ok (.iaload, 1) := de_2e tL_law_546
def tL_law_547 := Bt_1 (q := 547) tL_law_546 rfl
theorem dL_law_547 : decode cL_law 547 = .ok (.aload_n 0, 1) := de_2a tL_law_547
def tL_law_548 := Bt_1 (q := 548) tL_law_547 rfl
theorem dL_law_548 : decode cL_law 548 = .ok (.iload_n 3, 1) := de_1d tL_law_548
def tL_law_549 := Bt_1 (q := 549) tL_law_548 rfl
theorem dL_law_549 : decode cL_law 549 = .ok (.iconst 2, 1) := de_05 tL_law_549
def tL_law_550 := Bt_1 (q := 550) tL_law_549 rfl
theorem dL_law_550 : decode cL_law 550 = .ok (.iadd, 1) := de_60 tL_law_550
def tL_law_551 := Bt_1 (q := 551) tL_law_550 rfl
theorem dL_law_551 : decode cL_law 551 = .ok (.iaload, 1) := de_2e tL_law_551
def tL_law_552 := Bt_1 (q := 552) tL_law_551 rfl
theorem dL_law_552 : decode cL_law 552 = .ok (.aload_n 0, 1) := de_2a tL_law_552
def tL_law_553 := Bt_1 (q := 553) tL_law_552 rfl
theorem dL_law_553 : decode cL_law 553 = .ok (.iload_n 3, 1) := de_1d tL_law_553
def tL_law_554 := Bt_1 (q := 554) tL_law_553 rfl
theorem dL_law_554 : decode cL_law 554 = .ok (.iconst 3, 1) := de_06 tL_law_554
def tL_law_555 := Bt_1 (q := 555) tL_law_554 rfl
theorem dL_law_555 : decode cL_law 555 = .ok (.iadd, 1) := de_60 tL_law_555
def tL_law_556 := Bt_1 (q := 556) tL_law_555 rfl
theorem dL_law_556 : decode cL_law 556 = .ok (.iaload, 1) := de_2e tL_law_556
def tL_law_557 := Bt_1 (q := 557) tL_law_556 rfl
theorem dL_law_557 : decode cL_law 557 = .ok (.aload_n 0, 1) := de_2a tL_law_557
def tL_law_558 := Bt_1 (q := 558) tL_law_557 rfl
theorem dL_law_558 : decode cL_law 558 = .ok (.iload_n 3, 1) := de_1d tL_law_558
def tL_law_559 := Bt_1 (q := 559) tL_law_558 rfl
theorem dL_law_559 : decode cL_law 559 = .ok (.iconst 4, 1) := de_07 tL_law_559
def tL_law_560 := Bt_1 (q := 560) tL_law_559 rfl
theorem dL_law_560 : decode cL_law 560 = .ok (.iadd, 1) := de_60 tL_law_560
def tL_law_561 := Bt_1 (q := 561) tL_law_560 rfl
theorem dL_law_561 : decode cL_law 561 = .ok (.iaload, 1) := de_2e tL_law_561
def tL_law_562 := Bt_1 (q := 562) tL_law_561 rfl
theorem dL_law_562 : decode cL_law 562 = .ok (.invokevirtual 52, 3) := de_b6 tL_law_562 (by decide +kernel)
def tL_law_565 := Bt_3 (q := 565) tL_law_562 rfl
theorem dL_law_565 : decode cL_law 565 = .ok (.pop, 1) := de_57 tL_law_565
def tL_law_566 := Bt_1 (q := 566) tL_law_565 rfl
theorem dL_law_566 : decode cL_law 566 = .ok (.goto 1051, 3) := de_a7 tL_law_566 (by decide +kernel)
def tL_law_569 := Bt_3 (q := 569) tL_law_566 rfl
theorem dL_law_569 : decode cL_law 569 = .ok (.aload_n 1, 1) := de_2b tL_law_569
def tL_law_570 := Bt_1 (q := 570) tL_law_569 rfl
theorem dL_law_570 : decode cL_law 570 = .ok (.aload_n 0, 1) := de_2a tL_law_570
def tL_law_571 := Bt_1 (q := 571) tL_law_570 rfl
theorem dL_law_571 : decode cL_law 571 = .ok (.iload_n 3, 1) := de_1d tL_law_571
def tL_law_572 := Bt_1 (q := 572) tL_law_571 rfl
theorem dL_law_572 : decode cL_law 572 = .ok (.iconst 1, 1) := de_04 tL_law_572
def tL_law_573 := Bt_1 (q := 573) tL_law_572 rfl
theorem dL_law_573 : decode cL_law 573 = .ok (.iadd, 1) := de_60 tL_law_573
def tL_law_574 := Bt_1 (q := 574) tL_law_573 rfl
theorem dL_law_574 : decode cL_law 574 = .ok (.iaload, 1) := de_2e tL_law_574
def tL_law_575 := Bt_1 (q := 575) tL_law_574 rfl
theorem dL_law_575 : decode cL_law 575 = .ok (.aload_n 0, 1) := de_2a tL_law_575
def tL_law_576 := Bt_1 (q := 576) tL_law_575 rfl
theorem dL_law_576 : decode cL_law 576 = .ok (.iload_n 3, 1) := de_1d tL_law_576
def tL_law_577 := Bt_1 (q := 577) tL_law_576 rfl
theorem dL_law_577 : decode cL_law 577 = .ok (.iconst 2, 1) := de_05 tL_law_577
def tL_law_578 := Bt_1 (q := 578) tL_law_577 rfl
theorem dL_law_578 : decode cL_law 578 = .ok (.iadd, 1) := de_60 tL_law_578
def tL_law_579 := Bt_1 (q := 579) tL_law_578 rfl
theorem dL_law_579 : decode cL_law 579 = .ok (.iaload, 1) := de_2e tL_law_579
def tL_law_580 := Bt_1 (q := 580) tL_law_579 rfl
theorem dL_law_580 : decode cL_law 580 = .ok (.aload_n 0, 1) := de_2a tL_law_580
def tL_law_581 := Bt_1 (q := 581) tL_law_580 rfl
theorem dL_law_581 : decode cL_law 581 = .ok (.iload_n 3, 1) := de_1d tL_law_581
def tL_law_582 := Bt_1 (q := 582) tL_law_581 rfl
theorem dL_law_582 : decode cL_law 582 = .ok (.iconst 3, 1) := de_06 tL_law_582
def tL_law_583 := Bt_1 (q := 583) tL_law_582 rfl
theorem dL_law_583 : decode cL_law 583 = .ok (.iadd, 1) := de_60 tL_law_583
def tL_law_584 := Bt_1 (q := 584) tL_law_583 rfl
theorem dL_law_584 : decode cL_law 584 = .ok (.iaload, 1) := de_2e tL_law_584
def tL_law_585 := Bt_1 (q := 585) tL_law_584 rfl
theorem dL_law_585 : decode cL_law 585 = .ok (.ifCond .eq 7, 3) := de_99 tL_law_585 (by decide +kernel)
def tL_law_588 := Bt_3 (q := 588) tL_law_585 rfl
theorem dL_law_588 : decode cL_law 588 = .ok (.iconst 1, 1) := de_04 tL_law_588
def tL_law_589 := Bt_1 (q := 589) tL_law_588 rfl
theorem dL_law_589 : decode cL_law 589 = .ok (.goto 4, 3) := de_a7 tL_law_589 (by decide +kernel)
def tL_law_592 := Bt_3 (q := 592) tL_law_589 rfl
theorem dL_law_592 : decode cL_law 592 = .ok (.iconst 0, 1) := de_03 tL_law_592
def tL_law_593 := Bt_1 (q := 593) tL_law_592 rfl
theorem dL_law_593 : decode cL_law 593 = .ok (.invokevirtual 53, 3) := de_b6 tL_law_593 (by decide +kernel)
def tL_law_596 := Bt_3 (q := 596) tL_law_593 rfl
theorem dL_law_596 : decode cL_law 596 = .ok (.pop, 1) := de_57 tL_law_596
def tL_law_597 := Bt_1 (q := 597) tL_law_596 rfl
theorem dL_law_597 : decode cL_law 597 = .ok (.aload_n 2, 1) := de_2c tL_law_597
def tL_law_598 := Bt_1 (q := 598) tL_law_597 rfl
theorem dL_law_598 : decode cL_law 598 = .ok (.aload_n 0, 1) := de_2a tL_law_598
def tL_law_599 := Bt_1 (q := 599) tL_law_598 rfl
theorem dL_law_599 : decode cL_law 599 = .ok (.iload_n 3, 1) := de_1d tL_law_599
def tL_law_600 := Bt_1 (q := 600) tL_law_599 rfl
theorem dL_law_600 : decode cL_law 600 = .ok (.iconst 1, 1) := de_04 tL_law_600
def tL_law_601 := Bt_1 (q := 601) tL_law_600 rfl
theorem dL_law_601 : decode cL_law 601 = .ok (.iadd, 1) := de_60 tL_law_601
def tL_law_602 := Bt_1 (q := 602) tL_law_601 rfl
theorem dL_law_602 : decode cL_law 602 = .ok (.iaload, 1) := de_2e tL_law_602
def tL_law_603 := Bt_1 (q := 603) tL_law_602 rfl
theorem dL_law_603 : decode cL_law 603 = .ok (.aload_n 0, 1) := de_2a tL_law_603
def tL_law_604 := Bt_1 (q := 604) tL_law_603 rfl
theorem dL_law_604 : decode cL_law 604 = .ok (.iload_n 3, 1) := de_1d tL_law_604
def tL_law_605 := Bt_1 (q := 605) tL_law_604 rfl
theorem dL_law_605 : decode cL_law 605 = .ok (.iconst 2, 1) := de_05 tL_law_605
def tL_law_606 := Bt_1 (q := 606) tL_law_605 rfl
theorem dL_law_606 : decode cL_law 606 = .ok (.iadd, 1) := de_60 tL_law_606
def tL_law_607 := Bt_1 (q := 607) tL_law_606 rfl
theorem dL_law_607 : decode cL_law 607 = .ok (.iaload, 1) := de_2e tL_law_607
def tL_law_608 := Bt_1 (q := 608) tL_law_607 rfl
theorem dL_law_608 : decode cL_law 608 = .ok (.aload_n 0, 1) := de_2a tL_law_608
def tL_law_609 := Bt_1 (q := 609) tL_law_608 rfl
theorem dL_law_609 : decode cL_law 609 = .ok (.iload_n 3, 1) := de_1d tL_law_609
def tL_law_610 := Bt_1 (q := 610) tL_law_609 rfl
theorem dL_law_610 : decode cL_law 610 = .ok (.iconst 3, 1) := de_06 tL_law_610
def tL_law_611 := Bt_1 (q := 611) tL_law_610 rfl
theorem dL_law_611 : decode cL_law 611 = .ok (.iadd, 1) := de_60 tL_law_611
def tL_law_612 := Bt_1 (q := 612) tL_law_611 rfl
theorem dL_law_612 : decode cL_law 612 = .ok (.iaload, 1) := de_2e tL_law_612
def tL_law_613 := Bt_1 (q := 613) tL_law_612 rfl
theorem dL_law_613 : decode cL_law 613 = .ok (.ifCond .eq 7, 3) := de_99 tL_law_613 (by decide +kernel)
def tL_law_616 := Bt_3 (q := 616) tL_law_613 rfl
theorem dL_law_616 : decode cL_law 616 = .ok (.iconst 1, 1) := de_04 tL_law_616
def tL_law_617 := Bt_1 (q := 617) tL_law_616 rfl
theorem dL_law_617 : decode cL_law 617 = .ok (.goto 4, 3) := de_a7 tL_law_617 (by decide +kernel)
def tL_law_620 := Bt_3 (q := 620) tL_law_617 rfl
theorem dL_law_620 : decode cL_law 620 = .ok (.iconst 0, 1) := de_03 tL_law_620
def tL_law_621 := Bt_1 (q := 621) tL_law_620 rfl
theorem dL_law_621 : decode cL_law 621 = .ok (.invokevirtual 57, 3) := de_b6 tL_law_621 (by decide +kernel)
def tL_law_624 := Bt_3 (q := 624) tL_law_621 rfl
theorem dL_law_624 : decode cL_law 624 = .ok (.pop, 1) := de_57 tL_law_624
def tL_law_625 := Bt_1 (q := 625) tL_law_624 rfl
theorem dL_law_625 : decode cL_law 625 = .ok (.goto 992, 3) := de_a7 tL_law_625 (by decide +kernel)
def tL_law_628 := Bt_3 (q := 628) tL_law_625 rfl
theorem dL_law_628 : decode cL_law 628 = .ok (.aload_n 1, 1) := de_2b tL_law_628
def tL_law_629 := Bt_1 (q := 629) tL_law_628 rfl
theorem dL_law_629 : decode cL_law 629 = .ok (.aload_n 0, 1) := de_2a tL_law_629
def tL_law_630 := Bt_1 (q := 630) tL_law_629 rfl
theorem dL_law_630 : decode cL_law 630 = .ok (.iload_n 3, 1) := de_1d tL_law_630
def tL_law_631 := Bt_1 (q := 631) tL_law_630 rfl
theorem dL_law_631 : decode cL_law 631 = .ok (.iconst 1, 1) := de_04 tL_law_631
def tL_law_632 := Bt_1 (q := 632) tL_law_631 rfl
theorem dL_law_632 : decode cL_law 632 = .ok (.iadd, 1) := de_60 tL_law_632
def tL_law_633 := Bt_1 (q := 633) tL_law_632 rfl
theorem dL_law_633 : decode cL_law 633 = .ok (.iaload, 1) := de_2e tL_law_633
def tL_law_634 := Bt_1 (q := 634) tL_law_633 rfl
theorem dL_law_634 : decode cL_law 634 = .ok (.aload_n 0, 1) := de_2a tL_law_634
def tL_law_635 := Bt_1 (q := 635) tL_law_634 rfl
theorem dL_law_635 : decode cL_law 635 = .ok (.iload_n 3, 1) := de_1d tL_law_635
def tL_law_636 := Bt_1 (q := 636) tL_law_635 rfl
theorem dL_law_636 : decode cL_law 636 = .ok (.iconst 2, 1) := de_05 tL_law_636
def tL_law_637 := Bt_1 (q := 637) tL_law_636 rfl
theorem dL_law_637 : decode cL_law 637 = .ok (.iadd, 1) := de_60 tL_law_637
def tL_law_638 := Bt_1 (q := 638) tL_law_637 rfl
theorem dL_law_638 : decode cL_law 638 = .ok (.iaload, 1) := de_2e tL_law_638
def tL_law_639 := Bt_1 (q := 639) tL_law_638 rfl
theorem dL_law_639 : decode cL_law 639 = .ok (.aload_n 0, 1) := de_2a tL_law_639
def tL_law_640 := Bt_1 (q := 640) tL_law_639 rfl
theorem dL_law_640 : decode cL_law 640 = .ok (.iload_n 3, 1) := de_1d tL_law_640
def tL_law_641 := Bt_1 (q := 641) tL_law_640 rfl
theorem dL_law_641 : decode cL_law 641 = .ok (.iconst 3, 1) := de_06 tL_law_641
def tL_law_642 := Bt_1 (q := 642) tL_law_641 rfl
theorem dL_law_642 : decode cL_law 642 = .ok (.iadd, 1) := de_60 tL_law_642
def tL_law_643 := Bt_1 (q := 643) tL_law_642 rfl
theorem dL_law_643 : decode cL_law 643 = .ok (.iaload, 1) := de_2e tL_law_643
def tL_law_644 := Bt_1 (q := 644) tL_law_643 rfl
theorem dL_law_644 : decode cL_law 644 = .ok (.invokevirtual 58, 3) := de_b6 tL_law_644 (by decide +kernel)
def tL_law_647 := Bt_3 (q := 647) tL_law_644 rfl
theorem dL_law_647 : decode cL_law 647 = .ok (.pop, 1) := de_57 tL_law_647
def tL_law_648 := Bt_1 (q := 648) tL_law_647 rfl
theorem dL_law_648 : decode cL_law 648 = .ok (.aload_n 2, 1) := de_2c tL_law_648
def tL_law_649 := Bt_1 (q := 649) tL_law_648 rfl
theorem dL_law_649 : decode cL_law 649 = .ok (.aload_n 0, 1) := de_2a tL_law_649
def tL_law_650 := Bt_1 (q := 650) tL_law_649 rfl
theorem dL_law_650 : decode cL_law 650 = .ok (.iload_n 3, 1) := de_1d tL_law_650
def tL_law_651 := Bt_1 (q := 651) tL_law_650 rfl
theorem dL_law_651 : decode cL_law 651 = .ok (.iconst 1, 1) := de_04 tL_law_651
def tL_law_652 := Bt_1 (q := 652) tL_law_651 rfl
theorem dL_law_652 : decode cL_law 652 = .ok (.iadd, 1) := de_60 tL_law_652
def tL_law_653 := Bt_1 (q := 653) tL_law_652 rfl
theorem dL_law_653 : decode cL_law 653 = .ok (.iaload, 1) := de_2e tL_law_653
def tL_law_654 := Bt_1 (q := 654) tL_law_653 rfl
theorem dL_law_654 : decode cL_law 654 = .ok (.aload_n 0, 1) := de_2a tL_law_654
def tL_law_655 := Bt_1 (q := 655) tL_law_654 rfl
theorem dL_law_655 : decode cL_law 655 = .ok (.iload_n 3, 1) := de_1d tL_law_655
def tL_law_656 := Bt_1 (q := 656) tL_law_655 rfl
theorem dL_law_656 : decode cL_law 656 = .ok (.iconst 2, 1) := de_05 tL_law_656
def tL_law_657 := Bt_1 (q := 657) tL_law_656 rfl
theorem dL_law_657 : decode cL_law 657 = .ok (.iadd, 1) := de_60 tL_law_657
def tL_law_658 := Bt_1 (q := 658) tL_law_657 rfl
theorem dL_law_658 : decode cL_law 658 = .ok (.iaload, 1) := de_2e tL_law_658
def tL_law_659 := Bt_1 (q := 659) tL_law_658 rfl
theorem dL_law_659 : decode cL_law 659 = .ok (.aload_n 0, 1) := de_2a tL_law_659
def tL_law_660 := Bt_1 (q := 660) tL_law_659 rfl
theorem dL_law_660 : decode cL_law 660 = .ok (.iload_n 3, 1) := de_1d tL_law_660
def tL_law_661 := Bt_1 (q := 661) tL_law_660 rfl
theorem dL_law_661 : decode cL_law 661 = .ok (.iconst 3, 1) := de_06 tL_law_661
def tL_law_662 := Bt_1 (q := 662) tL_law_661 rfl
theorem dL_law_662 : decode cL_law 662 = .ok (.iadd, 1) := de_60 tL_law_662
def tL_law_663 := Bt_1 (q := 663) tL_law_662 rfl
theorem dL_law_663 : decode cL_law 663 = .ok (.iaload, 1) := de_2e tL_law_663
def tL_law_664 := Bt_1 (q := 664) tL_law_663 rfl
theorem dL_law_664 : decode cL_law 664 = .ok (.invokevirtual 62, 3) := de_b6 tL_law_664 (by decide +kernel)
def tL_law_667 := Bt_3 (q := 667) tL_law_664 rfl
theorem dL_law_667 : decode cL_law 667 = .ok (.pop, 1) := de_57 tL_law_667
def tL_law_668 := Bt_1 (q := 668) tL_law_667 rfl
theorem dL_law_668 : decode cL_law 668 = .ok (.goto 949, 3) := de_a7 tL_law_668 (by decide +kernel)
def tL_law_671 := Bt_3 (q := 671) tL_law_668 rfl
theorem dL_law_671 : decode cL_law 671 = .ok (.aload_n 1, 1) := de_2b tL_law_671
def tL_law_672 := Bt_1 (q := 672) tL_law_671 rfl
theorem dL_law_672 : decode cL_law 672 = .ok (.aload_n 0, 1) := de_2a tL_law_672
def tL_law_673 := Bt_1 (q := 673) tL_law_672 rfl
theorem dL_law_673 : decode cL_law 673 = .ok (.iload_n 3, 1) := de_1d tL_law_673
def tL_law_674 := Bt_1 (q := 674) tL_law_673 rfl
theorem dL_law_674 : decode cL_law 674 = .ok (.iconst 1, 1) := de_04 tL_law_674
def tL_law_675 := Bt_1 (q := 675) tL_law_674 rfl
theorem dL_law_675 : decode cL_law 675 = .ok (.iadd, 1) := de_60 tL_law_675
def tL_law_676 := Bt_1 (q := 676) tL_law_675 rfl
theorem dL_law_676 : decode cL_law 676 = .ok (.iaload, 1) := de_2e tL_law_676
def tL_law_677 := Bt_1 (q := 677) tL_law_676 rfl
theorem dL_law_677 : decode cL_law 677 = .ok (.aload_n 0, 1) := de_2a tL_law_677
def tL_law_678 := Bt_1 (q := 678) tL_law_677 rfl
theorem dL_law_678 : decode cL_law 678 = .ok (.iload_n 3, 1) := de_1d tL_law_678
def tL_law_679 := Bt_1 (q := 679) tL_law_678 rfl
theorem dL_law_679 : decode cL_law 679 = .ok (.iconst 2, 1) := de_05 tL_law_679
def tL_law_680 := Bt_1 (q := 680) tL_law_679 rfl
theorem dL_law_680 : decode cL_law 680 = .ok (.iadd, 1) := de_60 tL_law_680
def tL_law_681 := Bt_1 (q := 681) tL_law_680 rfl
theorem dL_law_681 : decode cL_law 681 = .ok (.iaload, 1) := de_2e tL_law_681
def tL_law_682 := Bt_1 (q := 682) tL_law_681 rfl
theorem dL_law_682 : decode cL_law 682 = .ok (.i2l, 1) := de_85 tL_law_682
def tL_law_683 := Bt_1 (q := 683) tL_law_682 rfl
theorem dL_law_683 : decode cL_law 683 = .ok (.bipush 32, 2) := de_10 tL_law_683 (by decide +kernel)
def tL_law_685 := Bt_2 (q := 685) tL_law_683 rfl
theorem dL_law_685 : decode cL_law 685 = .ok (.lshl, 1) := de_79 tL_law_685
def tL_law_686 := Bt_1 (q := 686) tL_law_685 rfl
theorem dL_law_686 : decode cL_law 686 = .ok (.aload_n 0, 1) := de_2a tL_law_686
def tL_law_687 := Bt_1 (q := 687) tL_law_686 rfl
theorem dL_law_687 : decode cL_law 687 = .ok (.iload_n 3, 1) := de_1d tL_law_687
def tL_law_688 := Bt_1 (q := 688) tL_law_687 rfl
theorem dL_law_688 : decode cL_law 688 = .ok (.iconst 3, 1) := de_06 tL_law_688
def tL_law_689 := Bt_1 (q := 689) tL_law_688 rfl
theorem dL_law_689 : decode cL_law 689 = .ok (.iadd, 1) := de_60 tL_law_689
def tL_law_690 := Bt_1 (q := 690) tL_law_689 rfl
theorem dL_law_690 : decode cL_law 690 = .ok (.iaload, 1) := de_2e tL_law_690
def tL_law_691 := Bt_1 (q := 691) tL_law_690 rfl
theorem dL_law_691 : decode cL_law 691 = .ok (.i2l, 1) := de_85 tL_law_691
def tL_law_692 := Bt_1 (q := 692) tL_law_691 rfl
theorem dL_law_692 : decode cL_law 692 = .ok (.ldc2_w 63, 3) := de_14 tL_law_692 (by decide +kernel)
def tL_law_695 := Bt_3 (q := 695) tL_law_692 rfl
theorem dL_law_695 : decode cL_law 695 = .ok (.land, 1) := de_7f tL_law_695
def tL_law_696 := Bt_1 (q := 696) tL_law_695 rfl
theorem dL_law_696 : decode cL_law 696 = .ok (.lor, 1) := de_81 tL_law_696
def tL_law_697 := Bt_1 (q := 697) tL_law_696 rfl
theorem dL_law_697 : decode cL_law 697 = .ok (.invokevirtual 65, 3) := de_b6 tL_law_697 (by decide +kernel)
def tL_law_700 := Bt_3 (q := 700) tL_law_697 rfl
theorem dL_law_700 : decode cL_law 700 = .ok (.pop, 1) := de_57 tL_law_700
def tL_law_701 := Bt_1 (q := 701) tL_law_700 rfl
theorem dL_law_701 : decode cL_law 701 = .ok (.aload_n 2, 1) := de_2c tL_law_701
def tL_law_702 := Bt_1 (q := 702) tL_law_701 rfl
theorem dL_law_702 : decode cL_law 702 = .ok (.aload_n 0, 1) := de_2a tL_law_702
def tL_law_703 := Bt_1 (q := 703) tL_law_702 rfl
theorem dL_law_703 : decode cL_law 703 = .ok (.iload_n 3, 1) := de_1d tL_law_703
def tL_law_704 := Bt_1 (q := 704) tL_law_703 rfl
theorem dL_law_704 : decode cL_law 704 = .ok (.iconst 1, 1) := de_04 tL_law_704
def tL_law_705 := Bt_1 (q := 705) tL_law_704 rfl
theorem dL_law_705 : decode cL_law 705 = .ok (.iadd, 1) := de_60 tL_law_705
def tL_law_706 := Bt_1 (q := 706) tL_law_705 rfl
theorem dL_law_706 : decode cL_law 706 = .ok (.iaload, 1) := de_2e tL_law_706
def tL_law_707 := Bt_1 (q := 707) tL_law_706 rfl
theorem dL_law_707 : decode cL_law 707 = .ok (.aload_n 0, 1) := de_2a tL_law_707
def tL_law_708 := Bt_1 (q := 708) tL_law_707 rfl
theorem dL_law_708 : decode cL_law 708 = .ok (.iload_n 3, 1) := de_1d tL_law_708
def tL_law_709 := Bt_1 (q := 709) tL_law_708 rfl
theorem dL_law_709 : decode cL_law 709 = .ok (.iconst 2, 1) := de_05 tL_law_709
def tL_law_710 := Bt_1 (q := 710) tL_law_709 rfl
theorem dL_law_710 : decode cL_law 710 = .ok (.iadd, 1) := de_60 tL_law_710
def tL_law_711 := Bt_1 (q := 711) tL_law_710 rfl
theorem dL_law_711 : decode cL_law 711 = .ok (.iaload, 1) := de_2e tL_law_711
def tL_law_712 := Bt_1 (q := 712) tL_law_711 rfl
theorem dL_law_712 : decode cL_law 712 = .ok (.i2l, 1) := de_85 tL_law_712
def tL_law_713 := Bt_1 (q := 713) tL_law_712 rfl
theorem dL_law_713 : decode cL_law 713 = .ok (.bipush 32, 2) := de_10 tL_law_713 (by decide +kernel)
def tL_law_715 := Bt_2 (q := 715) tL_law_713 rfl
theorem dL_law_715 : decode cL_law 715 = .ok (.lshl, 1) := de_79 tL_law_715
def tL_law_716 := Bt_1 (q := 716) tL_law_715 rfl
theorem dL_law_716 : decode cL_law 716 = .ok (.aload_n 0, 1) := de_2a tL_law_716
def tL_law_717 := Bt_1 (q := 717) tL_law_716 rfl
theorem dL_law_717 : decode cL_law 717 = .ok (.iload_n 3, 1) := de_1d tL_law_717
def tL_law_718 := Bt_1 (q := 718) tL_law_717 rfl
theorem dL_law_718 : decode cL_law 718 = .ok (.iconst 3, 1) := de_06 tL_law_718
def tL_law_719 := Bt_1 (q := 719) tL_law_718 rfl
theorem dL_law_719 : decode cL_law 719 = .ok (.iadd, 1) := de_60 tL_law_719
def tL_law_720 := Bt_1 (q := 720) tL_law_719 rfl
theorem dL_law_720 : decode cL_law 720 = .ok (.iaload, 1) := de_2e tL_law_720
def tL_law_721 := Bt_1 (q := 721) tL_law_720 rfl
theorem dL_law_721 : decode cL_law 721 = .ok (.i2l, 1) := de_85 tL_law_721
def tL_law_722 := Bt_1 (q := 722) tL_law_721 rfl
theorem dL_law_722 : decode cL_law 722 = .ok (.ldc2_w 63, 3) := de_14 tL_law_722 (by decide +kernel)
def tL_law_725 := Bt_3 (q := 725) tL_law_722 rfl
theorem dL_law_725 : decode cL_law 725 = .ok (.land, 1) := de_7f tL_law_725
def tL_law_726 := Bt_1 (q := 726) tL_law_725 rfl
theorem dL_law_726 : decode cL_law 726 = .ok (.lor, 1) := de_81 tL_law_726
def tL_law_727 := Bt_1 (q := 727) tL_law_726 rfl
theorem dL_law_727 : decode cL_law 727 = .ok (.invokevirtual 69, 3) := de_b6 tL_law_727 (by decide +kernel)
def tL_law_730 := Bt_3 (q := 730) tL_law_727 rfl
theorem dL_law_730 : decode cL_law 730 = .ok (.pop, 1) := de_57 tL_law_730
def tL_law_731 := Bt_1 (q := 731) tL_law_730 rfl
theorem dL_law_731 : decode cL_law 731 = .ok (.goto 886, 3) := de_a7 tL_law_731 (by decide +kernel)
def tL_law_734 := Bt_3 (q := 734) tL_law_731 rfl
theorem dL_law_734 : decode cL_law 734 = .ok (.aload_n 1, 1) := de_2b tL_law_734
def tL_law_735 := Bt_1 (q := 735) tL_law_734 rfl
theorem dL_law_735 : decode cL_law 735 = .ok (.invokevirtual 70, 3) := de_b6 tL_law_735 (by decide +kernel)
def tL_law_738 := Bt_3 (q := 738) tL_law_735 rfl
theorem dL_law_738 : decode cL_law 738 = .ok (.pop, 1) := de_57 tL_law_738
def tL_law_739 := Bt_1 (q := 739) tL_law_738 rfl
theorem dL_law_739 : decode cL_law 739 = .ok (.aload_n 2, 1) := de_2c tL_law_739
def tL_law_740 := Bt_1 (q := 740) tL_law_739 rfl
theorem dL_law_740 : decode cL_law 740 = .ok (.invokevirtual 74, 3) := de_b6 tL_law_740 (by decide +kernel)
def tL_law_743 := Bt_3 (q := 743) tL_law_740 rfl
theorem dL_law_743 : decode cL_law 743 = .ok (.pop, 1) := de_57 tL_law_743
def tL_law_744 := Bt_1 (q := 744) tL_law_743 rfl
theorem dL_law_744 : decode cL_law 744 = .ok (.goto 873, 3) := de_a7 tL_law_744 (by decide +kernel)
def tL_law_747 := Bt_3 (q := 747) tL_law_744 rfl
theorem dL_law_747 : decode cL_law 747 = .ok (.aload_n 1, 1) := de_2b tL_law_747
def tL_law_748 := Bt_1 (q := 748) tL_law_747 rfl
theorem dL_law_748 : decode cL_law 748 = .ok (.aload_n 0, 1) := de_2a tL_law_748
def tL_law_749 := Bt_1 (q := 749) tL_law_748 rfl
theorem dL_law_749 : decode cL_law 749 = .ok (.iload_n 3, 1) := de_1d tL_law_749
def tL_law_750 := Bt_1 (q := 750) tL_law_749 rfl
theorem dL_law_750 : decode cL_law 750 = .ok (.iconst 1, 1) := de_04 tL_law_750
def tL_law_751 := Bt_1 (q := 751) tL_law_750 rfl
theorem dL_law_751 : decode cL_law 751 = .ok (.iadd, 1) := de_60 tL_law_751
def tL_law_752 := Bt_1 (q := 752) tL_law_751 rfl
theorem dL_law_752 : decode cL_law 752 = .ok (.iaload, 1) := de_2e tL_law_752
def tL_law_753 := Bt_1 (q := 753) tL_law_752 rfl
theorem dL_law_753 : decode cL_law 753 = .ok (.aload_n 0, 1) := de_2a tL_law_753
def tL_law_754 := Bt_1 (q := 754) tL_law_753 rfl
theorem dL_law_754 : decode cL_law 754 = .ok (.iload_n 3, 1) := de_1d tL_law_754
def tL_law_755 := Bt_1 (q := 755) tL_law_754 rfl
theorem dL_law_755 : decode cL_law 755 = .ok (.iconst 2, 1) := de_05 tL_law_755
def tL_law_756 := Bt_1 (q := 756) tL_law_755 rfl
theorem dL_law_756 : decode cL_law 756 = .ok (.iadd, 1) := de_60 tL_law_756
def tL_law_757 := Bt_1 (q := 757) tL_law_756 rfl
theorem dL_law_757 : decode cL_law 757 = .ok (.iaload, 1) := de_2e tL_law_757
def tL_law_758 := Bt_1 (q := 758) tL_law_757 rfl
theorem dL_law_758 : decode cL_law 758 = .ok (.aload_n 0, 1) := de_2a tL_law_758
def tL_law_759 := Bt_1 (q := 759) tL_law_758 rfl
theorem dL_law_759 : decode cL_law 759 = .ok (.iload_n 3, 1) := de_1d tL_law_759
def tL_law_760 := Bt_1 (q := 760) tL_law_759 rfl
theorem dL_law_760 : decode cL_law 760 = .ok (.iconst 3, 1) := de_06 tL_law_760
def tL_law_761 := Bt_1 (q := 761) tL_law_760 rfl
theorem dL_law_761 : decode cL_law 761 = .ok (.iadd, 1) := de_60 tL_law_761
def tL_law_762 := Bt_1 (q := 762) tL_law_761 rfl
theorem dL_law_762 : decode cL_law 762 = .ok (.iaload, 1) := de_2e tL_law_762
def tL_law_763 := Bt_1 (q := 763) tL_law_762 rfl
theorem dL_law_763 : decode cL_law 763 = .ok (.invokevirtual 75, 3) := de_b6 tL_law_763 (by decide +kernel)
def tL_law_766 := Bt_3 (q := 766) tL_law_763 rfl
theorem dL_law_766 : decode cL_law 766 = .ok (.pop2, 1) := de_58 tL_law_766
def tL_law_767 := Bt_1 (q := 767) tL_law_766 rfl
theorem dL_law_767 : decode cL_law 767 = .ok (.aload_n 2, 1) := de_2c tL_law_767
def tL_law_768 := Bt_1 (q := 768) tL_law_767 rfl
theorem dL_law_768 : decode cL_law 768 = .ok (.aload_n 0, 1) := de_2a tL_law_768
def tL_law_769 := Bt_1 (q := 769) tL_law_768 rfl
theorem dL_law_769 : decode cL_law 769 = .ok (.iload_n 3, 1) := de_1d tL_law_769
def tL_law_770 := Bt_1 (q := 770) tL_law_769 rfl
theorem dL_law_770 : decode cL_law 770 = .ok (.iconst 1, 1) := de_04 tL_law_770
def tL_law_771 := Bt_1 (q := 771) tL_law_770 rfl
theorem dL_law_771 : decode cL_law 771 = .ok (.iadd, 1) := de_60 tL_law_771
def tL_law_772 := Bt_1 (q := 772) tL_law_771 rfl
theorem dL_law_772 : decode cL_law 772 = .ok (.iaload, 1) := de_2e tL_law_772
def tL_law_773 := Bt_1 (q := 773) tL_law_772 rfl
theorem dL_law_773 : decode cL_law 773 = .ok (.aload_n 0, 1) := de_2a tL_law_773
def tL_law_774 := Bt_1 (q := 774) tL_law_773 rfl
theorem dL_law_774 : decode cL_law 774 = .ok (.iload_n 3, 1) := de_1d tL_law_774
def tL_law_775 := Bt_1 (q := 775) tL_law_774 rfl
theorem dL_law_775 : decode cL_law 775 = .ok (.iconst 2, 1) := de_05 tL_law_775
def tL_law_776 := Bt_1 (q := 776) tL_law_775 rfl
theorem dL_law_776 : decode cL_law 776 = .ok (.iadd, 1) := de_60 tL_law_776
def tL_law_777 := Bt_1 (q := 777) tL_law_776 rfl
theorem dL_law_777 : decode cL_law 777 = .ok (.iaload, 1) := de_2e tL_law_777
def tL_law_778 := Bt_1 (q := 778) tL_law_777 rfl
theorem dL_law_778 : decode cL_law 778 = .ok (.aload_n 0, 1) := de_2a tL_law_778
def tL_law_779 := Bt_1 (q := 779) tL_law_778 rfl
theorem dL_law_779 : decode cL_law 779 = .ok (.iload_n 3, 1) := de_1d tL_law_779
def tL_law_780 := Bt_1 (q := 780) tL_law_779 rfl
theorem dL_law_780 : decode cL_law 780 = .ok (.iconst 3, 1) := de_06 tL_law_780
def tL_law_781 := Bt_1 (q := 781) tL_law_780 rfl
theorem dL_law_781 : decode cL_law 781 = .ok (.iadd, 1) := de_60 tL_law_781
def tL_law_782 := Bt_1 (q := 782) tL_law_781 rfl
theorem dL_law_782 : decode cL_law 782 = .ok (.iaload, 1) := de_2e tL_law_782
def tL_law_783 := Bt_1 (q := 783) tL_law_782 rfl
theorem dL_law_783 : decode cL_law 783 = .ok (.invokevirtual 79, 3) := de_b6 tL_law_783 (by decide +kernel)
def tL_law_786 := Bt_3 (q := 786) tL_law_783 rfl
theorem dL_law_786 : decode cL_law 786 = .ok (.pop2, 1) := de_58 tL_law_786
def tL_law_787 := Bt_1 (q := 787) tL_law_786 rfl
theorem dL_law_787 : decode cL_law 787 = .ok (.goto 830, 3) := de_a7 tL_law_787 (by decide +kernel)
def tL_law_790 := Bt_3 (q := 790) tL_law_787 rfl
theorem dL_law_790 : decode cL_law 790 = .ok (.aload_n 1, 1) := de_2b tL_law_790
def tL_law_791 := Bt_1 (q := 791) tL_law_790 rfl
theorem dL_law_791 : decode cL_law 791 = .ok (.aload_n 0, 1) := de_2a tL_law_791
def tL_law_792 := Bt_1 (q := 792) tL_law_791 rfl
theorem dL_law_792 : decode cL_law 792 = .ok (.iload_n 3, 1) := de_1d tL_law_792
def tL_law_793 := Bt_1 (q := 793) tL_law_792 rfl
theorem dL_law_793 : decode cL_law 793 = .ok (.iconst 1, 1) := de_04 tL_law_793
def tL_law_794 := Bt_1 (q := 794) tL_law_793 rfl
theorem dL_law_794 : decode cL_law 794 = .ok (.iadd, 1) := de_60 tL_law_794
def tL_law_795 := Bt_1 (q := 795) tL_law_794 rfl
theorem dL_law_795 : decode cL_law 795 = .ok (.iaload, 1) := de_2e tL_law_795
def tL_law_796 := Bt_1 (q := 796) tL_law_795 rfl
theorem dL_law_796 : decode cL_law 796 = .ok (.aload_n 0, 1) := de_2a tL_law_796
def tL_law_797 := Bt_1 (q := 797) tL_law_796 rfl
theorem dL_law_797 : decode cL_law 797 = .ok (.iload_n 3, 1) := de_1d tL_law_797
def tL_law_798 := Bt_1 (q := 798) tL_law_797 rfl
theorem dL_law_798 : decode cL_law 798 = .ok (.iconst 2, 1) := de_05 tL_law_798
def tL_law_799 := Bt_1 (q := 799) tL_law_798 rfl
theorem dL_law_799 : decode cL_law 799 = .ok (.iadd, 1) := de_60 tL_law_799
def tL_law_800 := Bt_1 (q := 800) tL_law_799 rfl
theorem dL_law_800 : decode cL_law 800 = .ok (.iaload, 1) := de_2e tL_law_800
def tL_law_801 := Bt_1 (q := 801) tL_law_800 rfl
theorem dL_law_801 : decode cL_law 801 = .ok (.invokevirtual 80, 3) := de_b6 tL_law_801 (by decide +kernel)
def tL_law_804 := Bt_3 (q := 804) tL_law_801 rfl
theorem dL_law_804 : decode cL_law 804 = .ok (.pop, 1) := de_57 tL_law_804
def tL_law_805 := Bt_1 (q := 805) tL_law_804 rfl
theorem dL_law_805 : decode cL_law 805 = .ok (.aload_n 2, 1) := de_2c tL_law_805
def tL_law_806 := Bt_1 (q := 806) tL_law_805 rfl
theorem dL_law_806 : decode cL_law 806 = .ok (.aload_n 0, 1) := de_2a tL_law_806
def tL_law_807 := Bt_1 (q := 807) tL_law_806 rfl
theorem dL_law_807 : decode cL_law 807 = .ok (.iload_n 3, 1) := de_1d tL_law_807
def tL_law_808 := Bt_1 (q := 808) tL_law_807 rfl
theorem dL_law_808 : decode cL_law 808 = .ok (.iconst 1, 1) := de_04 tL_law_808
def tL_law_809 := Bt_1 (q := 809) tL_law_808 rfl
theorem dL_law_809 : decode cL_law 809 = .ok (.iadd, 1) := de_60 tL_law_809
def tL_law_810 := Bt_1 (q := 810) tL_law_809 rfl
theorem dL_law_810 : decode cL_law 810 = .ok (.iaload, 1) := de_2e tL_law_810
def tL_law_811 := Bt_1 (q := 811) tL_law_810 rfl
theorem dL_law_811 : decode cL_law 811 = .ok (.aload_n 0, 1) := de_2a tL_law_811
def tL_law_812 := Bt_1 (q := 812) tL_law_811 rfl
theorem dL_law_812 : decode cL_law 812 = .ok (.iload_n 3, 1) := de_1d tL_law_812
def tL_law_813 := Bt_1 (q := 813) tL_law_812 rfl
theorem dL_law_813 : decode cL_law 813 = .ok (.iconst 2, 1) := de_05 tL_law_813
def tL_law_814 := Bt_1 (q := 814) tL_law_813 rfl
theorem dL_law_814 : decode cL_law 814 = .ok (.iadd, 1) := de_60 tL_law_814
def tL_law_815 := Bt_1 (q := 815) tL_law_814 rfl
theorem dL_law_815 : decode cL_law 815 = .ok (.iaload, 1) := de_2e tL_law_815
def tL_law_816 := Bt_1 (q := 816) tL_law_815 rfl
theorem dL_law_816 : decode cL_law 816 = .ok (.invokevirtual 83, 3) := de_b6 tL_law_816 (by decide +kernel)
def tL_law_819 := Bt_3 (q := 819) tL_law_816 rfl
theorem dL_law_819 : decode cL_law 819 = .ok (.pop, 1) := de_57 tL_law_819
def tL_law_820 := Bt_1 (q := 820) tL_law_819 rfl
theorem dL_law_820 : decode cL_law 820 = .ok (.goto 797, 3) := de_a7 tL_law_820 (by decide +kernel)
def tL_law_823 := Bt_3 (q := 823) tL_law_820 rfl
theorem dL_law_823 : decode cL_law 823 = .ok (.aload_n 1, 1) := de_2b tL_law_823
def tL_law_824 := Bt_1 (q := 824) tL_law_823 rfl
theorem dL_law_824 : decode cL_law 824 = .ok (.aload_n 0, 1) := de_2a tL_law_824
def tL_law_825 := Bt_1 (q := 825) tL_law_824 rfl
theorem dL_law_825 : decode cL_law 825 = .ok (.iload_n 3, 1) := de_1d tL_law_825
def tL_law_826 := Bt_1 (q := 826) tL_law_825 rfl
theorem dL_law_826 : decode cL_law 826 = .ok (.iconst 1, 1) := de_04 tL_law_826
def tL_law_827 := Bt_1 (q := 827) tL_law_826 rfl
theorem dL_law_827 : decode cL_law 827 = .ok (.iadd, 1) := de_60 tL_law_827
def tL_law_828 := Bt_1 (q := 828) tL_law_827 rfl
theorem dL_law_828 : decode cL_law 828 = .ok (.iaload, 1) := de_2e tL_law_828
def tL_law_829 := Bt_1 (q := 829) tL_law_828 rfl
theorem dL_law_829 : decode cL_law 829 = .ok (.aload_n 0, 1) := de_2a tL_law_829
def tL_law_830 := Bt_1 (q := 830) tL_law_829 rfl
theorem dL_law_830 : decode cL_law 830 = .ok (.iload_n 3, 1) := de_1d tL_law_830
def tL_law_831 := Bt_1 (q := 831) tL_law_830 rfl
theorem dL_law_831 : decode cL_law 831 = .ok (.iconst 2, 1) := de_05 tL_law_831
def tL_law_832 := Bt_1 (q := 832) tL_law_831 rfl
theorem dL_law_832 : decode cL_law 832 = .ok (.iadd, 1) := de_60 tL_law_832
def tL_law_833 := Bt_1 (q := 833) tL_law_832 rfl
theorem dL_law_833 : decode cL_law 833 = .ok (.iaload, 1) := de_2e tL_law_833
def tL_law_834 := Bt_1 (q := 834) tL_law_833 rfl
theorem dL_law_834 : decode cL_law 834 = .ok (.aload_n 0, 1) := de_2a tL_law_834
def tL_law_835 := Bt_1 (q := 835) tL_law_834 rfl
theorem dL_law_835 : decode cL_law 835 = .ok (.iload_n 3, 1) := de_1d tL_law_835
def tL_law_836 := Bt_1 (q := 836) tL_law_835 rfl
theorem dL_law_836 : decode cL_law 836 = .ok (.iconst 3, 1) := de_06 tL_law_836
def tL_law_837 := Bt_1 (q := 837) tL_law_836 rfl
theorem dL_law_837 : decode cL_law 837 = .ok (.iadd, 1) := de_60 tL_law_837
def tL_law_838 := Bt_1 (q := 838) tL_law_837 rfl
theorem dL_law_838 : decode cL_law 838 = .ok (.iaload, 1) := de_2e tL_law_838
def tL_law_839 := Bt_1 (q := 839) tL_law_838 rfl
theorem dL_law_839 : decode cL_law 839 = .ok (.aload_n 0, 1) := de_2a tL_law_839
def tL_law_840 := Bt_1 (q := 840) tL_law_839 rfl
theorem dL_law_840 : decode cL_law 840 = .ok (.iload_n 3, 1) := de_1d tL_law_840
def tL_law_841 := Bt_1 (q := 841) tL_law_840 rfl
theorem dL_law_841 : decode cL_law 841 = .ok (.iconst 4, 1) := de_07 tL_law_841
def tL_law_842 := Bt_1 (q := 842) tL_law_841 rfl
theorem dL_law_842 : decode cL_law 842 = .ok (.iadd, 1) := de_60 tL_law_842
def tL_law_843 := Bt_1 (q := 843) tL_law_842 rfl
theorem dL_law_843 : decode cL_law 843 = .ok (.iaload, 1) := de_2e tL_law_843
def tL_law_844 := Bt_1 (q := 844) tL_law_843 rfl
theorem dL_law_844 : decode cL_law 844 = .ok (.invokevirtual 84, 3) := de_b6 tL_law_844 (by decide +kernel)
def tL_law_847 := Bt_3 (q := 847) tL_law_844 rfl
theorem dL_law_847 : decode cL_law 847 = .ok (.pop2, 1) := de_58 tL_law_847
def tL_law_848 := Bt_1 (q := 848) tL_law_847 rfl
theorem dL_law_848 : decode cL_law 848 = .ok (.aload_n 2, 1) := de_2c tL_law_848
def tL_law_849 := Bt_1 (q := 849) tL_law_848 rfl
theorem dL_law_849 : decode cL_law 849 = .ok (.aload_n 0, 1) := de_2a tL_law_849
def tL_law_850 := Bt_1 (q := 850) tL_law_849 rfl
theorem dL_law_850 : decode cL_law 850 = .ok (.iload_n 3, 1) := de_1d tL_law_850
def tL_law_851 := Bt_1 (q := 851) tL_law_850 rfl
theorem dL_law_851 : decode cL_law 851 = .ok (.iconst 1, 1) := de_04 tL_law_851
def tL_law_852 := Bt_1 (q := 852) tL_law_851 rfl
theorem dL_law_852 : decode cL_law 852 = .ok (.iadd, 1) := de_60 tL_law_852
def tL_law_853 := Bt_1 (q := 853) tL_law_852 rfl
theorem dL_law_853 : decode cL_law 853 = .ok (.iaload, 1) := de_2e tL_law_853
def tL_law_854 := Bt_1 (q := 854) tL_law_853 rfl
theorem dL_law_854 : decode cL_law 854 = .ok (.aload_n 0, 1) := de_2a tL_law_854
def tL_law_855 := Bt_1 (q := 855) tL_law_854 rfl
theorem dL_law_855 : decode cL_law 855 = .ok (.iload_n 3, 1) := de_1d tL_law_855
def tL_law_856 := Bt_1 (q := 856) tL_law_855 rfl
theorem dL_law_856 : decode cL_law 856 = .ok (.iconst 2, 1) := de_05 tL_law_856
def tL_law_857 := Bt_1 (q := 857) tL_law_856 rfl
theorem dL_law_857 : decode cL_law 857 = .ok (.iadd, 1) := de_60 tL_law_857
def tL_law_858 := Bt_1 (q := 858) tL_law_857 rfl
theorem dL_law_858 : decode cL_law 858 = .ok (.iaload, 1) := de_2e tL_law_858
def tL_law_859 := Bt_1 (q := 859) tL_law_858 rfl
theorem dL_law_859 : decode cL_law 859 = .ok (.aload_n 0, 1) := de_2a tL_law_859
def tL_law_860 := Bt_1 (q := 860) tL_law_859 rfl
theorem dL_law_860 : decode cL_law 860 = .ok (.iload_n 3, 1) := de_1d tL_law_860
def tL_law_861 := Bt_1 (q := 861) tL_law_860 rfl
theorem dL_law_861 : decode cL_law 861 = .ok (.iconst 3, 1) := de_06 tL_law_861
def tL_law_862 := Bt_1 (q := 862) tL_law_861 rfl
theorem dL_law_862 : decode cL_law 862 = .ok (.iadd, 1) := de_60 tL_law_862
def tL_law_863 := Bt_1 (q := 863) tL_law_862 rfl
theorem dL_law_863 : decode cL_law 863 = .ok (.iaload, 1) := de_2e tL_law_863
def tL_law_864 := Bt_1 (q := 864) tL_law_863 rfl
theorem dL_law_864 : decode cL_law 864 = .ok (.aload_n 0, 1) := de_2a tL_law_864
def tL_law_865 := Bt_1 (q := 865) tL_law_864 rfl
theorem dL_law_865 : decode cL_law 865 = .ok (.iload_n 3, 1) := de_1d tL_law_865
def tL_law_866 := Bt_1 (q := 866) tL_law_865 rfl
theorem dL_law_866 : decode cL_law 866 = .ok (.iconst 4, 1) := de_07 tL_law_866
def tL_law_867 := Bt_1 (q := 867) tL_law_866 rfl
theorem dL_law_867 : decode cL_law 867 = .ok (.iadd, 1) := de_60 tL_law_867
def tL_law_868 := Bt_1 (q := 868) tL_law_867 rfl
theorem dL_law_868 : decode cL_law 868 = .ok (.iaload, 1) := de_2e tL_law_868
def tL_law_869 := Bt_1 (q := 869) tL_law_868 rfl
theorem dL_law_869 : decode cL_law 869 = .ok (.invokevirtual 88, 3) := de_b6 tL_law_869 (by decide +kernel)
def tL_law_872 := Bt_3 (q := 872) tL_law_869 rfl
theorem dL_law_872 : decode cL_law 872 = .ok (.pop2, 1) := de_58 tL_law_872
def tL_law_873 := Bt_1 (q := 873) tL_law_872 rfl
theorem dL_law_873 : decode cL_law 873 = .ok (.goto 744, 3) := de_a7 tL_law_873 (by decide +kernel)
def tL_law_876 := Bt_3 (q := 876) tL_law_873 rfl
theorem dL_law_876 : decode cL_law 876 = .ok (.aload_n 1, 1) := de_2b tL_law_876
def tL_law_877 := Bt_1 (q := 877) tL_law_876 rfl
theorem dL_law_877 : decode cL_law 877 = .ok (.aload_n 0, 1) := de_2a tL_law_877
def tL_law_878 := Bt_1 (q := 878) tL_law_877 rfl
theorem dL_law_878 : decode cL_law 878 = .ok (.iload_n 3, 1) := de_1d tL_law_878
def tL_law_879 := Bt_1 (q := 879) tL_law_878 rfl
theorem dL_law_879 : decode cL_law 879 = .ok (.iconst 1, 1) := de_04 tL_law_879
def tL_law_880 := Bt_1 (q := 880) tL_law_879 rfl
theorem dL_law_880 : decode cL_law 880 = .ok (.iadd, 1) := de_60 tL_law_880
def tL_law_881 := Bt_1 (q := 881) tL_law_880 rfl
theorem dL_law_881 : decode cL_law 881 = .ok (.iaload, 1) := de_2e tL_law_881
def tL_law_882 := Bt_1 (q := 882) tL_law_881 rfl
theorem dL_law_882 : decode cL_law 882 = .ok (.aload_n 0, 1) := de_2a tL_law_882
def tL_law_883 := Bt_1 (q := 883) tL_law_882 rfl
theorem dL_law_883 : decode cL_law 883 = .ok (.iload_n 3, 1) := de_1d tL_law_883
def tL_law_884 := Bt_1 (q := 884) tL_law_883 rfl
theorem dL_law_884 : decode cL_law 884 = .ok (.iconst 2, 1) := de_05 tL_law_884
def tL_law_885 := Bt_1 (q := 885) tL_law_884 rfl
theorem dL_law_885 : decode cL_law 885 = .ok (.iadd, 1) := de_60 tL_law_885
def tL_law_886 := Bt_1 (q := 886) tL_law_885 rfl
theorem dL_law_886 : decode cL_law 886 = .ok (.iaload, 1) := de_2e tL_law_886
def tL_law_887 := Bt_1 (q := 887) tL_law_886 rfl
theorem dL_law_887 : decode cL_law 887 = .ok (.aload_n 0, 1) := de_2a tL_law_887
def tL_law_888 := Bt_1 (q := 888) tL_law_887 rfl
theorem dL_law_888 : decode cL_law 888 = .ok (.iload_n 3, 1) := de_1d tL_law_888
def tL_law_889 := Bt_1 (q := 889) tL_law_888 rfl
theorem dL_law_889 : decode cL_law 889 = .ok (.iconst 3, 1) := de_06 tL_law_889
def tL_law_890 := Bt_1 (q := 890) tL_law_889 rfl
theorem dL_law_890 : decode cL_law 890 = .ok (.iadd, 1) := de_60 tL_law_890
def tL_law_891 := Bt_1 (q := 891) tL_law_890 rfl
theorem dL_law_891 : decode cL_law 891 = .ok (.iaload, 1) := de_2e tL_law_891
def tL_law_892 := Bt_1 (q := 892) tL_law_891 rfl
theorem dL_law_892 : decode cL_law 892 = .ok (.invokevirtual 89, 3) := de_b6 tL_law_892 (by decide +kernel)
def tL_law_895 := Bt_3 (q := 895) tL_law_892 rfl
theorem dL_law_895 : decode cL_law 895 = .ok (.pop, 1) := de_57 tL_law_895
def tL_law_896 := Bt_1 (q := 896) tL_law_895 rfl
theorem dL_law_896 : decode cL_law 896 = .ok (.aload_n 2, 1) := de_2c tL_law_896
def tL_law_897 := Bt_1 (q := 897) tL_law_896 rfl
theorem dL_law_897 : decode cL_law 897 = .ok (.aload_n 0, 1) := de_2a tL_law_897
def tL_law_898 := Bt_1 (q := 898) tL_law_897 rfl
theorem dL_law_898 : decode cL_law 898 = .ok (.iload_n 3, 1) := de_1d tL_law_898
def tL_law_899 := Bt_1 (q := 899) tL_law_898 rfl
theorem dL_law_899 : decode cL_law 899 = .ok (.iconst 1, 1) := de_04 tL_law_899
def tL_law_900 := Bt_1 (q := 900) tL_law_899 rfl
theorem dL_law_900 : decode cL_law 900 = .ok (.iadd, 1) := de_60 tL_law_900
def tL_law_901 := Bt_1 (q := 901) tL_law_900 rfl
theorem dL_law_901 : decode cL_law 901 = .ok (.iaload, 1) := de_2e tL_law_901
def tL_law_902 := Bt_1 (q := 902) tL_law_901 rfl
theorem dL_law_902 : decode cL_law 902 = .ok (.aload_n 0, 1) := de_2a tL_law_902
def tL_law_903 := Bt_1 (q := 903) tL_law_902 rfl
theorem dL_law_903 : decode cL_law 903 = .ok (.iload_n 3, 1) := de_1d tL_law_903
def tL_law_904 := Bt_1 (q := 904) tL_law_903 rfl
theorem dL_law_904 : decode cL_law 904 = .ok (.iconst 2, 1) := de_05 tL_law_904
def tL_law_905 := Bt_1 (q := 905) tL_law_904 rfl
theorem dL_law_905 : decode cL_law 905 = .ok (.iadd, 1) := de_60 tL_law_905
def tL_law_906 := Bt_1 (q := 906) tL_law_905 rfl
theorem dL_law_906 : decode cL_law 906 = .ok (.iaload, 1) := de_2e tL_law_906
def tL_law_907 := Bt_1 (q := 907) tL_law_906 rfl
theorem dL_law_907 : decode cL_law 907 = .ok (.aload_n 0, 1) := de_2a tL_law_907
def tL_law_908 := Bt_1 (q := 908) tL_law_907 rfl
theorem dL_law_908 : decode cL_law 908 = .ok (.iload_n 3, 1) := de_1d tL_law_908
def tL_law_909 := Bt_1 (q := 909) tL_law_908 rfl
theorem dL_law_909 : decode cL_law 909 = .ok (.iconst 3, 1) := de_06 tL_law_909
def tL_law_910 := Bt_1 (q := 910) tL_law_909 rfl
theorem dL_law_910 : decode cL_law 910 = .ok (.iadd, 1) := de_60 tL_law_910
def tL_law_911 := Bt_1 (q := 911) tL_law_910 rfl
theorem dL_law_911 : decode cL_law 911 = .ok (.iaload, 1) := de_2e tL_law_911
def tL_law_912 := Bt_1 (q := 912) tL_law_911 rfl
theorem dL_law_912 : decode cL_law 912 = .ok (.invokevirtual 92, 3) := de_b6 tL_law_912 (by decide +kernel)
def tL_law_915 := Bt_3 (q := 915) tL_law_912 rfl
theorem dL_law_915 : decode cL_law 915 = .ok (.pop, 1) := de_57 tL_law_915
def tL_law_916 := Bt_1 (q := 916) tL_law_915 rfl
theorem dL_law_916 : decode cL_law 916 = .ok (.goto 701, 3) := de_a7 tL_law_916 (by decide +kernel)
def tL_law_919 := Bt_3 (q := 919) tL_law_916 rfl
theorem dL_law_919 : decode cL_law 919 = .ok (.aload_n 1, 1) := de_2b tL_law_919
def tL_law_920 := Bt_1 (q := 920) tL_law_919 rfl
theorem dL_law_920 : decode cL_law 920 = .ok (.aload_n 0, 1) := de_2a tL_law_920
def tL_law_921 := Bt_1 (q := 921) tL_law_920 rfl
theorem dL_law_921 : decode cL_law 921 = .ok (.iload_n 3, 1) := de_1d tL_law_921
def tL_law_922 := Bt_1 (q := 922) tL_law_921 rfl
theorem dL_law_922 : decode cL_law 922 = .ok (.iconst 1, 1) := de_04 tL_law_922
def tL_law_923 := Bt_1 (q := 923) tL_law_922 rfl
theorem dL_law_923 : decode cL_law 923 = .ok (.iadd, 1) := de_60 tL_law_923
def tL_law_924 := Bt_1 (q := 924) tL_law_923 rfl
theorem dL_law_924 : decode cL_law 924 = .ok (.iaload, 1) := de_2e tL_law_924
def tL_law_925 := Bt_1 (q := 925) tL_law_924 rfl
theorem dL_law_925 : decode cL_law 925 = .ok (.aload_n 0, 1) := de_2a tL_law_925
def tL_law_926 := Bt_1 (q := 926) tL_law_925 rfl
theorem dL_law_926 : decode cL_law 926 = .ok (.iload_n 3, 1) := de_1d tL_law_926
def tL_law_927 := Bt_1 (q := 927) tL_law_926 rfl
theorem dL_law_927 : decode cL_law 927 = .ok (.iconst 2, 1) := de_05 tL_law_927
def tL_law_928 := Bt_1 (q := 928) tL_law_927 rfl
theorem dL_law_928 : decode cL_law 928 = .ok (.iadd, 1) := de_60 tL_law_928
def tL_law_929 := Bt_1 (q := 929) tL_law_928 rfl
theorem dL_law_929 : decode cL_law 929 = .ok (.iaload, 1) := de_2e tL_law_929
def tL_law_930 := Bt_1 (q := 930) tL_law_929 rfl
theorem dL_law_930 : decode cL_law 930 = .ok (.invokevirtual 93, 3) := de_b6 tL_law_930 (by decide +kernel)
def tL_law_933 := Bt_3 (q := 933) tL_law_930 rfl
theorem dL_law_933 : decode cL_law 933 = .ok (.pop, 1) := de_57 tL_law_933
def tL_law_934 := Bt_1 (q := 934) tL_law_933 rfl
theorem dL_law_934 : decode cL_law 934 = .ok (.aload_n 2, 1) := de_2c tL_law_934
def tL_law_935 := Bt_1 (q := 935) tL_law_934 rfl
theorem dL_law_935 : decode cL_law 935 = .ok (.aload_n 0, 1) := de_2a tL_law_935
def tL_law_936 := Bt_1 (q := 936) tL_law_935 rfl
theorem dL_law_936 : decode cL_law 936 = .ok (.iload_n 3, 1) := de_1d tL_law_936
def tL_law_937 := Bt_1 (q := 937) tL_law_936 rfl
theorem dL_law_937 : decode cL_law 937 = .ok (.iconst 1, 1) := de_04 tL_law_937
def tL_law_938 := Bt_1 (q := 938) tL_law_937 rfl
theorem dL_law_938 : decode cL_law 938 = .ok (.iadd, 1) := de_60 tL_law_938
def tL_law_939 := Bt_1 (q := 939) tL_law_938 rfl
theorem dL_law_939 : decode cL_law 939 = .ok (.iaload, 1) := de_2e tL_law_939
def tL_law_940 := Bt_1 (q := 940) tL_law_939 rfl
theorem dL_law_940 : decode cL_law 940 = .ok (.aload_n 0, 1) := de_2a tL_law_940
def tL_law_941 := Bt_1 (q := 941) tL_law_940 rfl
theorem dL_law_941 : decode cL_law 941 = .ok (.iload_n 3, 1) := de_1d tL_law_941
def tL_law_942 := Bt_1 (q := 942) tL_law_941 rfl
theorem dL_law_942 : decode cL_law 942 = .ok (.iconst 2, 1) := de_05 tL_law_942
def tL_law_943 := Bt_1 (q := 943) tL_law_942 rfl
theorem dL_law_943 : decode cL_law 943 = .ok (.iadd, 1) := de_60 tL_law_943
def tL_law_944 := Bt_1 (q := 944) tL_law_943 rfl
theorem dL_law_944 : decode cL_law 944 = .ok (.iaload, 1) := de_2e tL_law_944
def tL_law_945 := Bt_1 (q := 945) tL_law_944 rfl
theorem dL_law_945 : decode cL_law 945 = .ok (.invokevirtual 96, 3) := de_b6 tL_law_945 (by decide +kernel)
def tL_law_948 := Bt_3 (q := 948) tL_law_945 rfl
theorem dL_law_948 : decode cL_law 948 = .ok (.pop, 1) := de_57 tL_law_948
def tL_law_949 := Bt_1 (q := 949) tL_law_948 rfl
theorem dL_law_949 : decode cL_law 949 = .ok (.goto 668, 3) := de_a7 tL_law_949 (by decide +kernel)
def tL_law_952 := Bt_3 (q := 952) tL_law_949 rfl
theorem dL_law_952 : decode cL_law 952 = .ok (.aload_n 1, 1) := de_2b tL_law_952
def tL_law_953 := Bt_1 (q := 953) tL_law_952 rfl
theorem dL_law_953 : decode cL_law 953 = .ok (.aload_n 0, 1) := de_2a tL_law_953
def tL_law_954 := Bt_1 (q := 954) tL_law_953 rfl
theorem dL_law_954 : decode cL_law 954 = .ok (.iload_n 3, 1) := de_1d tL_law_954
def tL_law_955 := Bt_1 (q := 955) tL_law_954 rfl
theorem dL_law_955 : decode cL_law 955 = .ok (.iconst 1, 1) := de_04 tL_law_955
def tL_law_956 := Bt_1 (q := 956) tL_law_955 rfl
theorem dL_law_956 : decode cL_law 956 = .ok (.iadd, 1) := de_60 tL_law_956
def tL_law_957 := Bt_1 (q := 957) tL_law_956 rfl
theorem dL_law_957 : decode cL_law 957 = .ok (.iaload, 1) := de_2e tL_law_957
def tL_law_958 := Bt_1 (q := 958) tL_law_957 rfl
theorem dL_law_958 : decode cL_law 958 = .ok (.aload_n 0, 1) := de_2a tL_law_958
def tL_law_959 := Bt_1 (q := 959) tL_law_958 rfl
theorem dL_law_959 : decode cL_law 959 = .ok (.iload_n 3, 1) := de_1d tL_law_959
def tL_law_960 := Bt_1 (q := 960) tL_law_959 rfl
theorem dL_law_960 : decode cL_law 960 = .ok (.iconst 2, 1) := de_05 tL_law_960
def tL_law_961 := Bt_1 (q := 961) tL_law_960 rfl
theorem dL_law_961 : decode cL_law 961 = .ok (.iadd, 1) := de_60 tL_law_961
def tL_law_962 := Bt_1 (q := 962) tL_law_961 rfl
theorem dL_law_962 : decode cL_law 962 = .ok (.iaload, 1) := de_2e tL_law_962
def tL_law_963 := Bt_1 (q := 963) tL_law_962 rfl
theorem dL_law_963 : decode cL_law 963 = .ok (.aload_n 0, 1) := de_2a tL_law_963
def tL_law_964 := Bt_1 (q := 964) tL_law_963 rfl
theorem dL_law_964 : decode cL_law 964 = .ok (.iload_n 3, 1) := de_1d tL_law_964
def tL_law_965 := Bt_1 (q := 965) tL_law_964 rfl
theorem dL_law_965 : decode cL_law 965 = .ok (.iconst 3, 1) := de_06 tL_law_965
def tL_law_966 := Bt_1 (q := 966) tL_law_965 rfl
theorem dL_law_966 : decode cL_law 966 = .ok (.iadd, 1) := de_60 tL_law_966
def tL_law_967 := Bt_1 (q := 967) tL_law_966 rfl
theorem dL_law_967 : decode cL_law 967 = .ok (.iaload, 1) := de_2e tL_law_967
def tL_law_968 := Bt_1 (q := 968) tL_law_967 rfl
theorem dL_law_968 : decode cL_law 968 = .ok (.invokevirtual 97, 3) := de_b6 tL_law_968 (by decide +kernel)
def tL_law_971 := Bt_3 (q := 971) tL_law_968 rfl
theorem dL_law_971 : decode cL_law 971 = .ok (.pop, 1) := de_57 tL_law_971
def tL_law_972 := Bt_1 (q := 972) tL_law_971 rfl
theorem dL_law_972 : decode cL_law 972 = .ok (.aload_n 2, 1) := de_2c tL_law_972
def tL_law_973 := Bt_1 (q := 973) tL_law_972 rfl
theorem dL_law_973 : decode cL_law 973 = .ok (.aload_n 0, 1) := de_2a tL_law_973
def tL_law_974 := Bt_1 (q := 974) tL_law_973 rfl
theorem dL_law_974 : decode cL_law 974 = .ok (.iload_n 3, 1) := de_1d tL_law_974
def tL_law_975 := Bt_1 (q := 975) tL_law_974 rfl
theorem dL_law_975 : decode cL_law 975 = .ok (.iconst 1, 1) := de_04 tL_law_975
def tL_law_976 := Bt_1 (q := 976) tL_law_975 rfl
theorem dL_law_976 : decode cL_law 976 = .ok (.iadd, 1) := de_60 tL_law_976
def tL_law_977 := Bt_1 (q := 977) tL_law_976 rfl
theorem dL_law_977 : decode cL_law 977 = .ok (.iaload, 1) := de_2e tL_law_977
def tL_law_978 := Bt_1 (q := 978) tL_law_977 rfl
theorem dL_law_978 : decode cL_law 978 = .ok (.aload_n 0, 1) := de_2a tL_law_978
def tL_law_979 := Bt_1 (q := 979) tL_law_978 rfl
theorem dL_law_979 : decode cL_law 979 = .ok (.iload_n 3, 1) := de_1d tL_law_979
def tL_law_980 := Bt_1 (q := 980) tL_law_979 rfl
theorem dL_law_980 : decode cL_law 980 = .ok (.iconst 2, 1) := de_05 tL_law_980
def tL_law_981 := Bt_1 (q := 981) tL_law_980 rfl
theorem dL_law_981 : decode cL_law 981 = .ok (.iadd, 1) := de_60 tL_law_981
def tL_law_982 := Bt_1 (q := 982) tL_law_981 rfl
theorem dL_law_982 : decode cL_law 982 = .ok (.iaload, 1) := de_2e tL_law_982
def tL_law_983 := Bt_1 (q := 983) tL_law_982 rfl
theorem dL_law_983 : decode cL_law 983 = .ok (.aload_n 0, 1) := de_2a tL_law_983
def tL_law_984 := Bt_1 (q := 984) tL_law_983 rfl
theorem dL_law_984 : decode cL_law 984 = .ok (.iload_n 3, 1) := de_1d tL_law_984
def tL_law_985 := Bt_1 (q := 985) tL_law_984 rfl
theorem dL_law_985 : decode cL_law 985 = .ok (.iconst 3, 1) := de_06 tL_law_985
def tL_law_986 := Bt_1 (q := 986) tL_law_985 rfl
theorem dL_law_986 : decode cL_law 986 = .ok (.iadd, 1) := de_60 tL_law_986
def tL_law_987 := Bt_1 (q := 987) tL_law_986 rfl
theorem dL_law_987 : decode cL_law 987 = .ok (.iaload, 1) := de_2e tL_law_987
def tL_law_988 := Bt_1 (q := 988) tL_law_987 rfl
theorem dL_law_988 : decode cL_law 988 = .ok (.invokevirtual 100, 3) := de_b6 tL_law_988 (by decide +kernel)
def tL_law_991 := Bt_3 (q := 991) tL_law_988 rfl
theorem dL_law_991 : decode cL_law 991 = .ok (.pop, 1) := de_57 tL_law_991
def tL_law_992 := Bt_1 (q := 992) tL_law_991 rfl
theorem dL_law_992 : decode cL_law 992 = .ok (.goto 625, 3) := de_a7 tL_law_992 (by decide +kernel)
def tL_law_995 := Bt_3 (q := 995) tL_law_992 rfl
theorem dL_law_995 : decode cL_law 995 = .ok (.aload_n 1, 1) := de_2b tL_law_995
def tL_law_996 := Bt_1 (q := 996) tL_law_995 rfl
theorem dL_law_996 : decode cL_law 996 = .ok (.aload_n 0, 1) := de_2a tL_law_996
def tL_law_997 := Bt_1 (q := 997) tL_law_996 rfl
theorem dL_law_997 : decode cL_law 997 = .ok (.iload_n 3, 1) := de_1d tL_law_997
def tL_law_998 := Bt_1 (q := 998) tL_law_997 rfl
theorem dL_law_998 : decode cL_law 998 = .ok (.iconst 1, 1) := de_04 tL_law_998
def tL_law_999 := Bt_1 (q := 999) tL_law_998 rfl
theorem dL_law_999 : decode cL_law 999 = .ok (.iadd, 1) := de_60 tL_law_999
def tL_law_1000 := Bt_1 (q := 1000) tL_law_999 rfl
theorem dL_law_1000 : decode cL_law 1000 = .ok (.iaload, 1) := de_2e tL_law_1000
def tL_law_1001 := Bt_1 (q := 1001) tL_law_1000 rfl
theorem dL_law_1001 : decode cL_law 1001 = .ok (.aload_n 0, 1) := de_2a tL_law_1001
def tL_law_1002 := Bt_1 (q := 1002) tL_law_1001 rfl
theorem dL_law_1002 : decode cL_law 1002 = .ok (.iload_n 3, 1) := de_1d tL_law_1002
def tL_law_1003 := Bt_1 (q := 1003) tL_law_1002 rfl
theorem dL_law_1003 : decode cL_law 1003 = .ok (.iconst 2, 1) := de_05 tL_law_1003
def tL_law_1004 := Bt_1 (q := 1004) tL_law_1003 rfl
theorem dL_law_1004 : decode cL_law 1004 = .ok (.iadd, 1) := de_60 tL_law_1004
def tL_law_1005 := Bt_1 (q := 1005) tL_law_1004 rfl
theorem dL_law_1005 : decode cL_law 1005 = .ok (.iaload, 1) := de_2e tL_law_1005
def tL_law_1006 := Bt_1 (q := 1006) tL_law_1005 rfl
theorem dL_law_1006 : decode cL_law 1006 = .ok (.invokevirtual 101, 3) := de_b6 tL_law_1006 (by decide +kernel)
def tL_law_1009 := Bt_3 (q := 1009) tL_law_1006 rfl
theorem dL_law_1009 : decode cL_law 1009 = .ok (.pop, 1) := de_57 tL_law_1009
def tL_law_1010 := Bt_1 (q := 1010) tL_law_1009 rfl
theorem dL_law_1010 : decode cL_law 1010 = .ok (.aload_n 2, 1) := de_2c tL_law_1010
def tL_law_1011 := Bt_1 (q := 1011) tL_law_1010 rfl
theorem dL_law_1011 : decode cL_law 1011 = .ok (.aload_n 0, 1) := de_2a tL_law_1011
def tL_law_1012 := Bt_1 (q := 1012) tL_law_1011 rfl
theorem dL_law_1012 : decode cL_law 1012 = .ok (.iload_n 3, 1) := de_1d tL_law_1012
def tL_law_1013 := Bt_1 (q := 1013) tL_law_1012 rfl
theorem dL_law_1013 : decode cL_law 1013 = .ok (.iconst 1, 1) := de_04 tL_law_1013
def tL_law_1014 := Bt_1 (q := 1014) tL_law_1013 rfl
theorem dL_law_1014 : decode cL_law 1014 = .ok (.iadd, 1) := de_60 tL_law_1014
def tL_law_1015 := Bt_1 (q := 1015) tL_law_1014 rfl
theorem dL_law_1015 : decode cL_law 1015 = .ok (.iaload, 1) := de_2e tL_law_1015
def tL_law_1016 := Bt_1 (q := 1016) tL_law_1015 rfl
theorem dL_law_1016 : decode cL_law 1016 = .ok (.aload_n 0, 1) := de_2a tL_law_1016
def tL_law_1017 := Bt_1 (q := 1017) tL_law_1016 rfl
theorem dL_law_1017 : decode cL_law 1017 = .ok (.iload_n 3, 1) := de_1d tL_law_1017
def tL_law_1018 := Bt_1 (q := 1018) tL_law_1017 rfl
theorem dL_law_1018 : decode cL_law 1018 = .ok (.iconst 2, 1) := de_05 tL_law_1018
def tL_law_1019 := Bt_1 (q := 1019) tL_law_1018 rfl
theorem dL_law_1019 : decode cL_law 1019 = .ok (.iadd, 1) := de_60 tL_law_1019
def tL_law_1020 := Bt_1 (q := 1020) tL_law_1019 rfl
theorem dL_law_1020 : decode cL_law 1020 = .ok (.iaload, 1) := de_2e tL_law_1020
def tL_law_1021 := Bt_1 (q := 1021) tL_law_1020 rfl
theorem dL_law_1021 : decode cL_law 1021 = .ok (.invokevirtual 104, 3) := de_b6 tL_law_1021 (by decide +kernel)
def tL_law_1024 := Bt_3 (q := 1024) tL_law_1021 rfl
theorem dL_law_1024 : decode cL_law 1024 = .ok (.pop, 1) := de_57 tL_law_1024
def tL_law_1025 := Bt_1 (q := 1025) tL_law_1024 rfl
theorem dL_law_1025 : decode cL_law 1025 = .ok (.goto 592, 3) := de_a7 tL_law_1025 (by decide +kernel)
def tL_law_1028 := Bt_3 (q := 1028) tL_law_1025 rfl
theorem dL_law_1028 : decode cL_law 1028 = .ok (.aload_n 1, 1) := de_2b tL_law_1028
def tL_law_1029 := Bt_1 (q := 1029) tL_law_1028 rfl
theorem dL_law_1029 : decode cL_law 1029 = .ok (.aload_n 0, 1) := de_2a tL_law_1029
def tL_law_1030 := Bt_1 (q := 1030) tL_law_1029 rfl
theorem dL_law_1030 : decode cL_law 1030 = .ok (.iload_n 3, 1) := de_1d tL_law_1030
def tL_law_1031 := Bt_1 (q := 1031) tL_law_1030 rfl
theorem dL_law_1031 : decode cL_law 1031 = .ok (.iconst 1, 1) := de_04 tL_law_1031
def tL_law_1032 := Bt_1 (q := 1032) tL_law_1031 rfl
theorem dL_law_1032 : decode cL_law 1032 = .ok (.iadd, 1) := de_60 tL_law_1032
def tL_law_1033 := Bt_1 (q := 1033) tL_law_1032 rfl
theorem dL_law_1033 : decode cL_law 1033 = .ok (.iaload, 1) := de_2e tL_law_1033
def tL_law_1034 := Bt_1 (q := 1034) tL_law_1033 rfl
theorem dL_law_1034 : decode cL_law 1034 = .ok (.aload_n 0, 1) := de_2a tL_law_1034
def tL_law_1035 := Bt_1 (q := 1035) tL_law_1034 rfl
theorem dL_law_1035 : decode cL_law 1035 = .ok (.iload_n 3, 1) := de_1d tL_law_1035
def tL_law_1036 := Bt_1 (q := 1036) tL_law_1035 rfl
theorem dL_law_1036 : decode cL_law 1036 = .ok (.iconst 2, 1) := de_05 tL_law_1036
def tL_law_1037 := Bt_1 (q := 1037) tL_law_1036 rfl
theorem dL_law_1037 : decode cL_law 1037 = .ok (.iadd, 1) := de_60 tL_law_1037
def tL_law_1038 := Bt_1 (q := 1038) tL_law_1037 rfl
theorem dL_law_1038 : decode cL_law 1038 = .ok (.iaload, 1) := de_2e tL_law_1038
def tL_law_1039 := Bt_1 (q := 1039) tL_law_1038 rfl
theorem dL_law_1039 : decode cL_law 1039 = .ok (.aload_n 0, 1) := de_2a tL_law_1039
def tL_law_1040 := Bt_1 (q := 1040) tL_law_1039 rfl
theorem dL_law_1040 : decode cL_law 1040 = .ok (.iload_n 3, 1) := de_1d tL_law_1040
def tL_law_1041 := Bt_1 (q := 1041) tL_law_1040 rfl
theorem dL_law_1041 : decode cL_law 1041 = .ok (.iconst 3, 1) := de_06 tL_law_1041
def tL_law_1042 := Bt_1 (q := 1042) tL_law_1041 rfl
theorem dL_law_1042 : decode cL_law 1042 = .ok (.iadd, 1) := de_60 tL_law_1042
def tL_law_1043 := Bt_1 (q := 1043) tL_law_1042 rfl
theorem dL_law_1043 : decode cL_law 1043 = .ok (.iaload, 1) := de_2e tL_law_1043
def tL_law_1044 := Bt_1 (q := 1044) tL_law_1043 rfl
theorem dL_law_1044 : decode cL_law 1044 = .ok (.ifCond .eq 7, 3) := de_99 tL_law_1044 (by decide +kernel)
def tL_law_1047 := Bt_3 (q := 1047) tL_law_1044 rfl
theorem dL_law_1047 : decode cL_law 1047 = .ok (.iconst 1, 1) := de_04 tL_law_1047
def tL_law_1048 := Bt_1 (q := 1048) tL_law_1047 rfl
theorem dL_law_1048 : decode cL_law 1048 = .ok (.goto 4, 3) := de_a7 tL_law_1048 (by decide +kernel)
def tL_law_1051 := Bt_3 (q := 1051) tL_law_1048 rfl
theorem dL_law_1051 : decode cL_law 1051 = .ok (.iconst 0, 1) := de_03 tL_law_1051
def tL_law_1052 := Bt_1 (q := 1052) tL_law_1051 rfl
theorem dL_law_1052 : decode cL_law 1052 = .ok (.invokevirtual 105, 3) := de_b6 tL_law_1052 (by decide +kernel)
def tL_law_1055 := Bt_3 (q := 1055) tL_law_1052 rfl
theorem dL_law_1055 : decode cL_law 1055 = .ok (.pop, 1) := de_57 tL_law_1055
def tL_law_1056 := Bt_1 (q := 1056) tL_law_1055 rfl
theorem dL_law_1056 : decode cL_law 1056 = .ok (.aload_n 2, 1) := de_2c tL_law_1056
def tL_law_1057 := Bt_1 (q := 1057) tL_law_1056 rfl
theorem dL_law_1057 : decode cL_law 1057 = .ok (.aload_n 0, 1) := de_2a tL_law_1057
def tL_law_1058 := Bt_1 (q := 1058) tL_law_1057 rfl
theorem dL_law_1058 : decode cL_law 1058 = .ok (.iload_n 3, 1) := de_1d tL_law_1058
def tL_law_1059 := Bt_1 (q := 1059) tL_law_1058 rfl
theorem dL_law_1059 : decode cL_law 1059 = .ok (.iconst 1, 1) := de_04 tL_law_1059
def tL_law_1060 := Bt_1 (q := 1060) tL_law_1059 rfl
theorem dL_law_1060 : decode cL_law 1060 = .ok (.iadd, 1) := de_60 tL_law_1060
def tL_law_1061 := Bt_1 (q := 1061) tL_law_1060 rfl
theorem dL_law_1061 : decode cL_law 1061 = .ok (.iaload, 1) := de_2e tL_law_1061
def tL_law_1062 := Bt_1 (q := 1062) tL_law_1061 rfl
theorem dL_law_1062 : decode cL_law 1062 = .ok (.aload_n 0, 1) := de_2a tL_law_1062
def tL_law_1063 := Bt_1 (q := 1063) tL_law_1062 rfl
theorem dL_law_1063 : decode cL_law 1063 = .ok (.iload_n 3, 1) := de_1d tL_law_1063
def tL_law_1064 := Bt_1 (q := 1064) tL_law_1063 rfl
theorem dL_law_1064 : decode cL_law 1064 = .ok (.iconst 2, 1) := de_05 tL_law_1064
def tL_law_1065 := Bt_1 (q := 1065) tL_law_1064 rfl
theorem dL_law_1065 : decode cL_law 1065 = .ok (.iadd, 1) := de_60 tL_law_1065
def tL_law_1066 := Bt_1 (q := 1066) tL_law_1065 rfl
theorem dL_law_1066 : decode cL_law 1066 = .ok (.iaload, 1) := de_2e tL_law_1066
def tL_law_1067 := Bt_1 (q := 1067) tL_law_1066 rfl
theorem dL_law_1067 : decode cL_law 1067 = .ok (.aload_n 0, 1) := de_2a tL_law_1067
def tL_law_1068 := Bt_1 (q := 1068) tL_law_1067 rfl
theorem dL_law_1068 : decode cL_law 1068 = .ok (.iload_n 3, 1) := de_1d tL_law_1068
def tL_law_1069 := Bt_1 (q := 1069) tL_law_1068 rfl
theorem dL_law_1069 : decode cL_law 1069 = .ok (.iconst 3, 1) := de_06 tL_law_1069
def tL_law_1070 := Bt_1 (q := 1070) tL_law_1069 rfl
theorem dL_law_1070 : decode cL_law 1070 = .ok (.iadd, 1) := de_60 tL_law_1070
def tL_law_1071 := Bt_1 (q := 1071) tL_law_1070 rfl
theorem dL_law_1071 : decode cL_law 1071 = .ok (.iaload, 1) := de_2e tL_law_1071
def tL_law_1072 := Bt_1 (q := 1072) tL_law_1071 rfl
theorem dL_law_1072 : decode cL_law 1072 = .ok (.ifCond .eq 7, 3) := de_99 tL_law_1072 (by decide +kernel)
def tL_law_1075 := Bt_3 (q := 1075) tL_law_1072 rfl
theorem dL_law_1075 : decode cL_law 1075 = .ok (.iconst 1, 1) := de_04 tL_law_1075
def tL_law_1076 := Bt_1 (q := 1076) tL_law_1075 rfl
theorem dL_law_1076 : decode cL_law 1076 = .ok (.goto 4, 3) := de_a7 tL_law_1076 (by decide +kernel)
def tL_law_1079 := Bt_3 (q := 1079) tL_law_1076 rfl
theorem dL_law_1079 : decode cL_law 1079 = .ok (.iconst 0, 1) := de_03 tL_law_1079
def tL_law_1080 := Bt_1 (q := 1080) tL_law_1079 rfl
theorem dL_law_1080 : decode cL_law 1080 = .ok (.invokevirtual 108, 3) := de_b6 tL_law_1080 (by decide +kernel)
def tL_law_1083 := Bt_3 (q := 1083) tL_law_1080 rfl
theorem dL_law_1083 : decode cL_law 1083 = .ok (.pop, 1) := de_57 tL_law_1083
def tL_law_1084 := Bt_1 (q := 1084) tL_law_1083 rfl
theorem dL_law_1084 : decode cL_law 1084 = .ok (.goto 533, 3) := de_a7 tL_law_1084 (by decide +kernel)
def tL_law_1087 := Bt_3 (q := 1087) tL_law_1084 rfl
theorem dL_law_1087 : decode cL_law 1087 = .ok (.aload_n 1, 1) := de_2b tL_law_1087
def tL_law_1088 := Bt_1 (q := 1088) tL_law_1087 rfl
theorem dL_law_1088 : decode cL_law 1088 = .ok (.aload_n 0, 1) := de_2a tL_law_1088
def tL_law_1089 := Bt_1 (q := 1089) tL_law_1088 rfl
theorem dL_law_1089 : decode cL_law 1089 = .ok (.iload_n 3, 1) := de_1d tL_law_1089
def tL_law_1090 := Bt_1 (q := 1090) tL_law_1089 rfl
theorem dL_law_1090 : decode cL_law 1090 = .ok (.iconst 1, 1) := de_04 tL_law_1090
def tL_law_1091 := Bt_1 (q := 1091) tL_law_1090 rfl
theorem dL_law_1091 : decode cL_law 1091 = .ok (.iadd, 1) := de_60 tL_law_1091
def tL_law_1092 := Bt_1 (q := 1092) tL_law_1091 rfl
theorem dL_law_1092 : decode cL_law 1092 = .ok (.iaload, 1) := de_2e tL_law_1092
def tL_law_1093 := Bt_1 (q := 1093) tL_law_1092 rfl
theorem dL_law_1093 : decode cL_law 1093 = .ok (.aload_n 0, 1) := de_2a tL_law_1093
def tL_law_1094 := Bt_1 (q := 1094) tL_law_1093 rfl
theorem dL_law_1094 : decode cL_law 1094 = .ok (.iload_n 3, 1) := de_1d tL_law_1094
def tL_law_1095 := Bt_1 (q := 1095) tL_law_1094 rfl
theorem dL_law_1095 : decode cL_law 1095 = .ok (.iconst 2, 1) := de_05 tL_law_1095
def tL_law_1096 := Bt_1 (q := 1096) tL_law_1095 rfl
theorem dL_law_1096 : decode cL_law 1096 = .ok (.iadd, 1) := de_60 tL_law_1096
def tL_law_1097 := Bt_1 (q := 1097) tL_law_1096 rfl
theorem dL_law_1097 : decode cL_law 1097 = .ok (.iaload, 1) := de_2e tL_law_1097
def tL_law_1098 := Bt_1 (q := 1098) tL_law_1097 rfl
theorem dL_law_1098 : decode cL_law 1098 = .ok (.invokevirtual 109, 3) := de_b6 tL_law_1098 (by decide +kernel)
def tL_law_1101 := Bt_3 (q := 1101) tL_law_1098 rfl
theorem dL_law_1101 : decode cL_law 1101 = .ok (.pop, 1) := de_57 tL_law_1101
def tL_law_1102 := Bt_1 (q := 1102) tL_law_1101 rfl
theorem dL_law_1102 : decode cL_law 1102 = .ok (.aload_n 2, 1) := de_2c tL_law_1102
def tL_law_1103 := Bt_1 (q := 1103) tL_law_1102 rfl
theorem dL_law_1103 : decode cL_law 1103 = .ok (.aload_n 0, 1) := de_2a tL_law_1103
def tL_law_1104 := Bt_1 (q := 1104) tL_law_1103 rfl
theorem dL_law_1104 : decode cL_law 1104 = .ok (.iload_n 3, 1) := de_1d tL_law_1104
def tL_law_1105 := Bt_1 (q := 1105) tL_law_1104 rfl
theorem dL_law_1105 : decode cL_law 1105 = .ok (.iconst 1, 1) := de_04 tL_law_1105
def tL_law_1106 := Bt_1 (q := 1106) tL_law_1105 rfl
theorem dL_law_1106 : decode cL_law 1106 = .ok (.iadd, 1) := de_60 tL_law_1106
def tL_law_1107 := Bt_1 (q := 1107) tL_law_1106 rfl
theorem dL_law_1107 : decode cL_law 1107 = .ok (.iaload, 1) := de_2e tL_law_1107
def tL_law_1108 := Bt_1 (q := 1108) tL_law_1107 rfl
theorem dL_law_1108 : decode cL_law 1108 = .ok (.aload_n 0, 1) := de_2a tL_law_1108
def tL_law_1109 := Bt_1 (q := 1109) tL_law_1108 rfl
theorem dL_law_1109 : decode cL_law 1109 = .ok (.iload_n 3, 1) := de_1d tL_law_1109
def tL_law_1110 := Bt_1 (q := 1110) tL_law_1109 rfl
theorem dL_law_1110 : decode cL_law 1110 = .ok (.iconst 2, 1) := de_05 tL_law_1110
def tL_law_1111 := Bt_1 (q := 1111) tL_law_1110 rfl
theorem dL_law_1111 : decode cL_law 1111 = .ok (.iadd, 1) := de_60 tL_law_1111
def tL_law_1112 := Bt_1 (q := 1112) tL_law_1111 rfl
theorem dL_law_1112 : decode cL_law 1112 = .ok (.iaload, 1) := de_2e tL_law_1112
def tL_law_1113 := Bt_1 (q := 1113) tL_law_1112 rfl
theorem dL_law_1113 : decode cL_law 1113 = .ok (.invokevirtual 112, 3) := de_b6 tL_law_1113 (by decide +kernel)
def tL_law_1116 := Bt_3 (q := 1116) tL_law_1113 rfl
theorem dL_law_1116 : decode cL_law 1116 = .ok (.pop, 1) := de_57 tL_law_1116
def tL_law_1117 := Bt_1 (q := 1117) tL_law_1116 rfl
theorem dL_law_1117 : decode cL_law 1117 = .ok (.goto 500, 3) := de_a7 tL_law_1117 (by decide +kernel)
def tL_law_1120 := Bt_3 (q := 1120) tL_law_1117 rfl
theorem dL_law_1120 : decode cL_law 1120 = .ok (.aload_n 1, 1) := de_2b tL_law_1120
def tL_law_1121 := Bt_1 (q := 1121) tL_law_1120 rfl
theorem dL_law_1121 : decode cL_law 1121 = .ok (.aload_n 0, 1) := de_2a tL_law_1121
def tL_law_1122 := Bt_1 (q := 1122) tL_law_1121 rfl
theorem dL_law_1122 : decode cL_law 1122 = .ok (.iload_n 3, 1) := de_1d tL_law_1122
def tL_law_1123 := Bt_1 (q := 1123) tL_law_1122 rfl
theorem dL_law_1123 : decode cL_law 1123 = .ok (.iconst 1, 1) := de_04 tL_law_1123
def tL_law_1124 := Bt_1 (q := 1124) tL_law_1123 rfl
theorem dL_law_1124 : decode cL_law 1124 = .ok (.iadd, 1) := de_60 tL_law_1124
def tL_law_1125 := Bt_1 (q := 1125) tL_law_1124 rfl
theorem dL_law_1125 : decode cL_law 1125 = .ok (.iaload, 1) := de_2e tL_law_1125
def tL_law_1126 := Bt_1 (q := 1126) tL_law_1125 rfl
theorem dL_law_1126 : decode cL_law 1126 = .ok (.aload_n 0, 1) := de_2a tL_law_1126
def tL_law_1127 := Bt_1 (q := 1127) tL_law_1126 rfl
theorem dL_law_1127 : decode cL_law 1127 = .ok (.iload_n 3, 1) := de_1d tL_law_1127
def tL_law_1128 := Bt_1 (q := 1128) tL_law_1127 rfl
theorem dL_law_1128 : decode cL_law 1128 = .ok (.iconst 2, 1) := de_05 tL_law_1128
def tL_law_1129 := Bt_1 (q := 1129) tL_law_1128 rfl
theorem dL_law_1129 : decode cL_law 1129 = .ok (.iadd, 1) := de_60 tL_law_1129
def tL_law_1130 := Bt_1 (q := 1130) tL_law_1129 rfl
theorem dL_law_1130 : decode cL_law 1130 = .ok (.iaload, 1) := de_2e tL_law_1130
def tL_law_1131 := Bt_1 (q := 1131) tL_law_1130 rfl
theorem dL_law_1131 : decode cL_law 1131 = .ok (.aload_n 0, 1) := de_2a tL_law_1131
def tL_law_1132 := Bt_1 (q := 1132) tL_law_1131 rfl
theorem dL_law_1132 : decode cL_law 1132 = .ok (.iload_n 3, 1) := de_1d tL_law_1132
def tL_law_1133 := Bt_1 (q := 1133) tL_law_1132 rfl
theorem dL_law_1133 : decode cL_law 1133 = .ok (.iconst 3, 1) := de_06 tL_law_1133
def tL_law_1134 := Bt_1 (q := 1134) tL_law_1133 rfl
theorem dL_law_1134 : decode cL_law 1134 = .ok (.iadd, 1) := de_60 tL_law_1134
def tL_law_1135 := Bt_1 (q := 1135) tL_law_1134 rfl
theorem dL_law_1135 : decode cL_law 1135 = .ok (.iaload, 1) := de_2e tL_law_1135
def tL_law_1136 := Bt_1 (q := 1136) tL_law_1135 rfl
theorem dL_law_1136 : decode cL_law 1136 = .ok (.invokevirtual 113, 3) := de_b6 tL_law_1136 (by decide +kernel)
def tL_law_1139 := Bt_3 (q := 1139) tL_law_1136 rfl
theorem dL_law_1139 : decode cL_law 1139 = .ok (.pop, 1) := de_57 tL_law_1139
def tL_law_1140 := Bt_1 (q := 1140) tL_law_1139 rfl
theorem dL_law_1140 : decode cL_law 1140 = .ok (.aload_n 2, 1) := de_2c tL_law_1140
def tL_law_1141 := Bt_1 (q := 1141) tL_law_1140 rfl
theorem dL_law_1141 : decode cL_law 1141 = .ok (.aload_n 0, 1) := de_2a tL_law_1141
def tL_law_1142 := Bt_1 (q := 1142) tL_law_1141 rfl
theorem dL_law_1142 : decode cL_law 1142 = .ok (.iload_n 3, 1) := de_1d tL_law_1142
def tL_law_1143 := Bt_1 (q := 1143) tL_law_1142 rfl
theorem dL_law_1143 : decode cL_law 1143 = .ok (.iconst 1, 1) := de_04 tL_law_1143
def tL_law_1144 := Bt_1 (q := 1144) tL_law_1143 rfl
theorem dL_law_1144 : decode cL_law 1144 = .ok (.iadd, 1) := de_60 tL_law_1144
def tL_law_1145 := Bt_1 (q := 1145) tL_law_1144 rfl
theorem dL_law_1145 : decode cL_law 1145 = .ok (.iaload, 1) := de_2e tL_law_1145
def tL_law_1146 := Bt_1 (q := 1146) tL_law_1145 rfl
theorem dL_law_1146 : decode cL_law 1146 = .ok (.aload_n 0, 1) := de_2a tL_law_1146
def tL_law_1147 := Bt_1 (q := 1147) tL_law_1146 rfl
theorem dL_law_1147 : decode cL_law 1147 = .ok (.iload_n 3, 1) := de_1d tL_law_1147
def tL_law_1148 := Bt_1 (q := 1148) tL_law_1147 rfl
theorem dL_law_1148 : decode cL_law 1148 = .ok (.iconst 2, 1) := de_05 tL_law_1148
def tL_law_1149 := Bt_1 (q := 1149) tL_law_1148 rfl
theorem dL_law_1149 : decode cL_law 1149 = .ok (.iadd, 1) := de_60 tL_law_1149
def tL_law_1150 := Bt_1 (q := 1150) tL_law_1149 rfl
theorem dL_law_1150 : decode cL_law 1150 = .ok (.iaload, 1) := de_2e tL_law_1150
def tL_law_1151 := Bt_1 (q := 1151) tL_law_1150 rfl
theorem dL_law_1151 : decode cL_law 1151 = .ok (.aload_n 0, 1) := de_2a tL_law_1151
def tL_law_1152 := Bt_1 (q := 1152) tL_law_1151 rfl
theorem dL_law_1152 : decode cL_law 1152 = .ok (.iload_n 3, 1) := de_1d tL_law_1152
def tL_law_1153 := Bt_1 (q := 1153) tL_law_1152 rfl
theorem dL_law_1153 : decode cL_law 1153 = .ok (.iconst 3, 1) := de_06 tL_law_1153
def tL_law_1154 := Bt_1 (q := 1154) tL_law_1153 rfl
theorem dL_law_1154 : decode cL_law 1154 = .ok (.iadd, 1) := de_60 tL_law_1154
def tL_law_1155 := Bt_1 (q := 1155) tL_law_1154 rfl
theorem dL_law_1155 : decode cL_law 1155 = .ok (.iaload, 1) := de_2e tL_law_1155
def tL_law_1156 := Bt_1 (q := 1156) tL_law_1155 rfl
theorem dL_law_1156 : decode cL_law 1156 = .ok (.invokevirtual 116, 3) := de_b6 tL_law_1156 (by decide +kernel)
def tL_law_1159 := Bt_3 (q := 1159) tL_law_1156 rfl
theorem dL_law_1159 : decode cL_law 1159 = .ok (.pop, 1) := de_57 tL_law_1159
def tL_law_1160 := Bt_1 (q := 1160) tL_law_1159 rfl
theorem dL_law_1160 : decode cL_law 1160 = .ok (.goto 457, 3) := de_a7 tL_law_1160 (by decide +kernel)
def tL_law_1163 := Bt_3 (q := 1163) tL_law_1160 rfl
theorem dL_law_1163 : decode cL_law 1163 = .ok (.aload_n 1, 1) := de_2b tL_law_1163
def tL_law_1164 := Bt_1 (q := 1164) tL_law_1163 rfl
theorem dL_law_1164 : decode cL_law 1164 = .ok (.aload_n 0, 1) := de_2a tL_law_1164
def tL_law_1165 := Bt_1 (q := 1165) tL_law_1164 rfl
theorem dL_law_1165 : decode cL_law 1165 = .ok (.iload_n 3, 1) := de_1d tL_law_1165
def tL_law_1166 := Bt_1 (q := 1166) tL_law_1165 rfl
theorem dL_law_1166 : decode cL_law 1166 = .ok (.iconst 1, 1) := de_04 tL_law_1166
def tL_law_1167 := Bt_1 (q := 1167) tL_law_1166 rfl
theorem dL_law_1167 : decode cL_law 1167 = .ok (.iadd, 1) := de_60 tL_law_1167
def tL_law_1168 := Bt_1 (q := 1168) tL_law_1167 rfl
theorem dL_law_1168 : decode cL_law 1168 = .ok (.iaload, 1) := de_2e tL_law_1168
def tL_law_1169 := Bt_1 (q := 1169) tL_law_1168 rfl
theorem dL_law_1169 : decode cL_law 1169 = .ok (.invokevirtual 117, 3) := de_b6 tL_law_1169 (by decide +kernel)
def tL_law_1172 := Bt_3 (q := 1172) tL_law_1169 rfl
theorem dL_law_1172 : decode cL_law 1172 = .ok (.pop, 1) := de_57 tL_law_1172
def tL_law_1173 := Bt_1 (q := 1173) tL_law_1172 rfl
theorem dL_law_1173 : decode cL_law 1173 = .ok (.aload_n 2, 1) := de_2c tL_law_1173
def tL_law_1174 := Bt_1 (q := 1174) tL_law_1173 rfl
theorem dL_law_1174 : decode cL_law 1174 = .ok (.aload_n 0, 1) := de_2a tL_law_1174
def tL_law_1175 := Bt_1 (q := 1175) tL_law_1174 rfl
theorem dL_law_1175 : decode cL_law 1175 = .ok (.iload_n 3, 1) := de_1d tL_law_1175
def tL_law_1176 := Bt_1 (q := 1176) tL_law_1175 rfl
theorem dL_law_1176 : decode cL_law 1176 = .ok (.iconst 1, 1) := de_04 tL_law_1176
def tL_law_1177 := Bt_1 (q := 1177) tL_law_1176 rfl
theorem dL_law_1177 : decode cL_law 1177 = .ok (.iadd, 1) := de_60 tL_law_1177
def tL_law_1178 := Bt_1 (q := 1178) tL_law_1177 rfl
theorem dL_law_1178 : decode cL_law 1178 = .ok (.iaload, 1) := de_2e tL_law_1178
def tL_law_1179 := Bt_1 (q := 1179) tL_law_1178 rfl
theorem dL_law_1179 : decode cL_law 1179 = .ok (.invokevirtual 120, 3) := de_b6 tL_law_1179 (by decide +kernel)
def tL_law_1182 := Bt_3 (q := 1182) tL_law_1179 rfl
theorem dL_law_1182 : decode cL_law 1182 = .ok (.pop, 1) := de_57 tL_law_1182
def tL_law_1183 := Bt_1 (q := 1183) tL_law_1182 rfl
theorem dL_law_1183 : decode cL_law 1183 = .ok (.goto 434, 3) := de_a7 tL_law_1183 (by decide +kernel)
def tL_law_1186 := Bt_3 (q := 1186) tL_law_1183 rfl
theorem dL_law_1186 : decode cL_law 1186 = .ok (.aload_n 1, 1) := de_2b tL_law_1186
def tL_law_1187 := Bt_1 (q := 1187) tL_law_1186 rfl
theorem dL_law_1187 : decode cL_law 1187 = .ok (.aload_n 0, 1) := de_2a tL_law_1187
def tL_law_1188 := Bt_1 (q := 1188) tL_law_1187 rfl
theorem dL_law_1188 : decode cL_law 1188 = .ok (.iload_n 3, 1) := de_1d tL_law_1188
def tL_law_1189 := Bt_1 (q := 1189) tL_law_1188 rfl
theorem dL_law_1189 : decode cL_law 1189 = .ok (.iconst 1, 1) := de_04 tL_law_1189
def tL_law_1190 := Bt_1 (q := 1190) tL_law_1189 rfl
theorem dL_law_1190 : decode cL_law 1190 = .ok (.iadd, 1) := de_60 tL_law_1190
def tL_law_1191 := Bt_1 (q := 1191) tL_law_1190 rfl
theorem dL_law_1191 : decode cL_law 1191 = .ok (.iaload, 1) := de_2e tL_law_1191
def tL_law_1192 := Bt_1 (q := 1192) tL_law_1191 rfl
theorem dL_law_1192 : decode cL_law 1192 = .ok (.invokevirtual 121, 3) := de_b6 tL_law_1192 (by decide +kernel)
def tL_law_1195 := Bt_3 (q := 1195) tL_law_1192 rfl
theorem dL_law_1195 : decode cL_law 1195 = .ok (.pop, 1) := de_57 tL_law_1195
def tL_law_1196 := Bt_1 (q := 1196) tL_law_1195 rfl
theorem dL_law_1196 : decode cL_law 1196 = .ok (.aload_n 2, 1) := de_2c tL_law_1196
def tL_law_1197 := Bt_1 (q := 1197) tL_law_1196 rfl
theorem dL_law_1197 : decode cL_law 1197 = .ok (.aload_n 0, 1) := de_2a tL_law_1197
def tL_law_1198 := Bt_1 (q := 1198) tL_law_1197 rfl
theorem dL_law_1198 : decode cL_law 1198 = .ok (.iload_n 3, 1) := de_1d tL_law_1198
def tL_law_1199 := Bt_1 (q := 1199) tL_law_1198 rfl
theorem dL_law_1199 : decode cL_law 1199 = .ok (.iconst 1, 1) := de_04 tL_law_1199
def tL_law_1200 := Bt_1 (q := 1200) tL_law_1199 rfl
theorem dL_law_1200 : decode cL_law 1200 = .ok (.iadd, 1) := de_60 tL_law_1200
def tL_law_1201 := Bt_1 (q := 1201) tL_law_1200 rfl
theorem dL_law_1201 : decode cL_law 1201 = .ok (.iaload, 1) := de_2e tL_law_1201
def tL_law_1202 := Bt_1 (q := 1202) tL_law_1201 rfl
theorem dL_law_1202 : decode cL_law 1202 = .ok (.invokevirtual 124, 3) := de_b6 tL_law_1202 (by decide +kernel)
def tL_law_1205 := Bt_3 (q := 1205) tL_law_1202 rfl
theorem dL_law_1205 : decode cL_law 1205 = .ok (.pop, 1) := de_57 tL_law_1205
def tL_law_1206 := Bt_1 (q := 1206) tL_law_1205 rfl
theorem dL_law_1206 : decode cL_law 1206 = .ok (.goto 411, 3) := de_a7 tL_law_1206 (by decide +kernel)
def tL_law_1209 := Bt_3 (q := 1209) tL_law_1206 rfl
theorem dL_law_1209 : decode cL_law 1209 = .ok (.aload_n 1, 1) := de_2b tL_law_1209
def tL_law_1210 := Bt_1 (q := 1210) tL_law_1209 rfl
theorem dL_law_1210 : decode cL_law 1210 = .ok (.aload_n 0, 1) := de_2a tL_law_1210
def tL_law_1211 := Bt_1 (q := 1211) tL_law_1210 rfl
theorem dL_law_1211 : decode cL_law 1211 = .ok (.iload_n 3, 1) := de_1d tL_law_1211
def tL_law_1212 := Bt_1 (q := 1212) tL_law_1211 rfl
theorem dL_law_1212 : decode cL_law 1212 = .ok (.iconst 1, 1) := de_04 tL_law_1212
def tL_law_1213 := Bt_1 (q := 1213) tL_law_1212 rfl
theorem dL_law_1213 : decode cL_law 1213 = .ok (.iadd, 1) := de_60 tL_law_1213
def tL_law_1214 := Bt_1 (q := 1214) tL_law_1213 rfl
theorem dL_law_1214 : decode cL_law 1214 = .ok (.iaload, 1) := de_2e tL_law_1214
def tL_law_1215 := Bt_1 (q := 1215) tL_law_1214 rfl
theorem dL_law_1215 : decode cL_law 1215 = .ok (.invokevirtual 125, 3) := de_b6 tL_law_1215 (by decide +kernel)
def tL_law_1218 := Bt_3 (q := 1218) tL_law_1215 rfl
theorem dL_law_1218 : decode cL_law 1218 = .ok (.pop, 1) := de_57 tL_law_1218
def tL_law_1219 := Bt_1 (q := 1219) tL_law_1218 rfl
theorem dL_law_1219 : decode cL_law 1219 = .ok (.aload_n 2, 1) := de_2c tL_law_1219
def tL_law_1220 := Bt_1 (q := 1220) tL_law_1219 rfl
theorem dL_law_1220 : decode cL_law 1220 = .ok (.aload_n 0, 1) := de_2a tL_law_1220
def tL_law_1221 := Bt_1 (q := 1221) tL_law_1220 rfl
theorem dL_law_1221 : decode cL_law 1221 = .ok (.iload_n 3, 1) := de_1d tL_law_1221
def tL_law_1222 := Bt_1 (q := 1222) tL_law_1221 rfl
theorem dL_law_1222 : decode cL_law 1222 = .ok (.iconst 1, 1) := de_04 tL_law_1222
def tL_law_1223 := Bt_1 (q := 1223) tL_law_1222 rfl
theorem dL_law_1223 : decode cL_law 1223 = .ok (.iadd, 1) := de_60 tL_law_1223
def tL_law_1224 := Bt_1 (q := 1224) tL_law_1223 rfl
theorem dL_law_1224 : decode cL_law 1224 = .ok (.iaload, 1) := de_2e tL_law_1224
def tL_law_1225 := Bt_1 (q := 1225) tL_law_1224 rfl
theorem dL_law_1225 : decode cL_law 1225 = .ok (.invokevirtual 128, 3) := de_b6 tL_law_1225 (by decide +kernel)
def tL_law_1228 := Bt_3 (q := 1228) tL_law_1225 rfl
theorem dL_law_1228 : decode cL_law 1228 = .ok (.pop, 1) := de_57 tL_law_1228
def tL_law_1229 := Bt_1 (q := 1229) tL_law_1228 rfl
theorem dL_law_1229 : decode cL_law 1229 = .ok (.goto 388, 3) := de_a7 tL_law_1229 (by decide +kernel)
def tL_law_1232 := Bt_3 (q := 1232) tL_law_1229 rfl
theorem dL_law_1232 : decode cL_law 1232 = .ok (.aload_n 1, 1) := de_2b tL_law_1232
def tL_law_1233 := Bt_1 (q := 1233) tL_law_1232 rfl
theorem dL_law_1233 : decode cL_law 1233 = .ok (.aload_n 0, 1) := de_2a tL_law_1233
def tL_law_1234 := Bt_1 (q := 1234) tL_law_1233 rfl
theorem dL_law_1234 : decode cL_law 1234 = .ok (.iload_n 3, 1) := de_1d tL_law_1234
def tL_law_1235 := Bt_1 (q := 1235) tL_law_1234 rfl
theorem dL_law_1235 : decode cL_law 1235 = .ok (.iconst 1, 1) := de_04 tL_law_1235
def tL_law_1236 := Bt_1 (q := 1236) tL_law_1235 rfl
theorem dL_law_1236 : decode cL_law 1236 = .ok (.iadd, 1) := de_60 tL_law_1236
def tL_law_1237 := Bt_1 (q := 1237) tL_law_1236 rfl
theorem dL_law_1237 : decode cL_law 1237 = .ok (.iaload, 1) := de_2e tL_law_1237
def tL_law_1238 := Bt_1 (q := 1238) tL_law_1237 rfl
theorem dL_law_1238 : decode cL_law 1238 = .ok (.invokevirtual 129, 3) := de_b6 tL_law_1238 (by decide +kernel)
def tL_law_1241 := Bt_3 (q := 1241) tL_law_1238 rfl
theorem dL_law_1241 : decode cL_law 1241 = .ok (.pop, 1) := de_57 tL_law_1241
def tL_law_1242 := Bt_1 (q := 1242) tL_law_1241 rfl
theorem dL_law_1242 : decode cL_law 1242 = .ok (.aload_n 2, 1) := de_2c tL_law_1242
def tL_law_1243 := Bt_1 (q := 1243) tL_law_1242 rfl
theorem dL_law_1243 : decode cL_law 1243 = .ok (.aload_n 0, 1) := de_2a tL_law_1243
def tL_law_1244 := Bt_1 (q := 1244) tL_law_1243 rfl
theorem dL_law_1244 : decode cL_law 1244 = .ok (.iload_n 3, 1) := de_1d tL_law_1244
def tL_law_1245 := Bt_1 (q := 1245) tL_law_1244 rfl
theorem dL_law_1245 : decode cL_law 1245 = .ok (.iconst 1, 1) := de_04 tL_law_1245
def tL_law_1246 := Bt_1 (q := 1246) tL_law_1245 rfl
theorem dL_law_1246 : decode cL_law 1246 = .ok (.iadd, 1) := de_60 tL_law_1246
def tL_law_1247 := Bt_1 (q := 1247) tL_law_1246 rfl
theorem dL_law_1247 : decode cL_law 1247 = .ok (.iaload, 1) := de_2e tL_law_1247
def tL_law_1248 := Bt_1 (q := 1248) tL_law_1247 rfl
theorem dL_law_1248 : decode cL_law 1248 = .ok (.invokevirtual 132, 3) := de_b6 tL_law_1248 (by decide +kernel)
def tL_law_1251 := Bt_3 (q := 1251) tL_law_1248 rfl
theorem dL_law_1251 : decode cL_law 1251 = .ok (.pop, 1) := de_57 tL_law_1251
def tL_law_1252 := Bt_1 (q := 1252) tL_law_1251 rfl
theorem dL_law_1252 : decode cL_law 1252 = .ok (.goto 365, 3) := de_a7 tL_law_1252 (by decide +kernel)
def tL_law_1255 := Bt_3 (q := 1255) tL_law_1252 rfl
theorem dL_law_1255 : decode cL_law 1255 = .ok (.aload_n 1, 1) := de_2b tL_law_1255
def tL_law_1256 := Bt_1 (q := 1256) tL_law_1255 rfl
theorem dL_law_1256 : decode cL_law 1256 = .ok (.aload_n 0, 1) := de_2a tL_law_1256
def tL_law_1257 := Bt_1 (q := 1257) tL_law_1256 rfl
theorem dL_law_1257 : decode cL_law 1257 = .ok (.iload_n 3, 1) := de_1d tL_law_1257
def tL_law_1258 := Bt_1 (q := 1258) tL_law_1257 rfl
theorem dL_law_1258 : decode cL_law 1258 = .ok (.iconst 1, 1) := de_04 tL_law_1258
def tL_law_1259 := Bt_1 (q := 1259) tL_law_1258 rfl
theorem dL_law_1259 : decode cL_law 1259 = .ok (.iadd, 1) := de_60 tL_law_1259
def tL_law_1260 := Bt_1 (q := 1260) tL_law_1259 rfl
theorem dL_law_1260 : decode cL_law 1260 = .ok (.iaload, 1) := de_2e tL_law_1260
def tL_law_1261 := Bt_1 (q := 1261) tL_law_1260 rfl
theorem dL_law_1261 : decode cL_law 1261 = .ok (.aload_n 0, 1) := de_2a tL_law_1261
def tL_law_1262 := Bt_1 (q := 1262) tL_law_1261 rfl
theorem dL_law_1262 : decode cL_law 1262 = .ok (.iload_n 3, 1) := de_1d tL_law_1262
def tL_law_1263 := Bt_1 (q := 1263) tL_law_1262 rfl
theorem dL_law_1263 : decode cL_law 1263 = .ok (.iconst 2, 1) := de_05 tL_law_1263
def tL_law_1264 := Bt_1 (q := 1264) tL_law_1263 rfl
theorem dL_law_1264 : decode cL_law 1264 = .ok (.iadd, 1) := de_60 tL_law_1264
def tL_law_1265 := Bt_1 (q := 1265) tL_law_1264 rfl
theorem dL_law_1265 : decode cL_law 1265 = .ok (.iaload, 1) := de_2e tL_law_1265
def tL_law_1266 := Bt_1 (q := 1266) tL_law_1265 rfl
theorem dL_law_1266 : decode cL_law 1266 = .ok (.invokevirtual 133, 3) := de_b6 tL_law_1266 (by decide +kernel)
def tL_law_1269 := Bt_3 (q := 1269) tL_law_1266 rfl
theorem dL_law_1269 : decode cL_law 1269 = .ok (.pop, 1) := de_57 tL_law_1269
def tL_law_1270 := Bt_1 (q := 1270) tL_law_1269 rfl
theorem dL_law_1270 : decode cL_law 1270 = .ok (.aload_n 2, 1) := de_2c tL_law_1270
def tL_law_1271 := Bt_1 (q := 1271) tL_law_1270 rfl
theorem dL_law_1271 : decode cL_law 1271 = .ok (.aload_n 0, 1) := de_2a tL_law_1271
def tL_law_1272 := Bt_1 (q := 1272) tL_law_1271 rfl
theorem dL_law_1272 : decode cL_law 1272 = .ok (.iload_n 3, 1) := de_1d tL_law_1272
def tL_law_1273 := Bt_1 (q := 1273) tL_law_1272 rfl
theorem dL_law_1273 : decode cL_law 1273 = .ok (.iconst 1, 1) := de_04 tL_law_1273
def tL_law_1274 := Bt_1 (q := 1274) tL_law_1273 rfl
theorem dL_law_1274 : decode cL_law 1274 = .ok (.iadd, 1) := de_60 tL_law_1274
def tL_law_1275 := Bt_1 (q := 1275) tL_law_1274 rfl
theorem dL_law_1275 : decode cL_law 1275 = .ok (.iaload, 1) := de_2e tL_law_1275
def tL_law_1276 := Bt_1 (q := 1276) tL_law_1275 rfl
theorem dL_law_1276 : decode cL_law 1276 = .ok (.aload_n 0, 1) := de_2a tL_law_1276
def tL_law_1277 := Bt_1 (q := 1277) tL_law_1276 rfl
theorem dL_law_1277 : decode cL_law 1277 = .ok (.iload_n 3, 1) := de_1d tL_law_1277
def tL_law_1278 := Bt_1 (q := 1278) tL_law_1277 rfl
theorem dL_law_1278 : decode cL_law 1278 = .ok (.iconst 2, 1) := de_05 tL_law_1278
def tL_law_1279 := Bt_1 (q := 1279) tL_law_1278 rfl
theorem dL_law_1279 : decode cL_law 1279 = .ok (.iadd, 1) := de_60 tL_law_1279
def tL_law_1280 := Bt_1 (q := 1280) tL_law_1279 rfl
theorem dL_law_1280 : decode cL_law 1280 = .ok (.iaload, 1) := de_2e tL_law_1280
def tL_law_1281 := Bt_1 (q := 1281) tL_law_1280 rfl
theorem dL_law_1281 : decode cL_law 1281 = .ok (.invokevirtual 136, 3) := de_b6 tL_law_1281 (by decide +kernel)
def tL_law_1284 := Bt_3 (q := 1284) tL_law_1281 rfl
theorem dL_law_1284 : decode cL_law 1284 = .ok (.pop, 1) := de_57 tL_law_1284
def tL_law_1285 := Bt_1 (q := 1285) tL_law_1284 rfl
theorem dL_law_1285 : decode cL_law 1285 = .ok (.goto 332, 3) := de_a7 tL_law_1285 (by decide +kernel)
def tL_law_1288 := Bt_3 (q := 1288) tL_law_1285 rfl
theorem dL_law_1288 : decode cL_law 1288 = .ok (.aload_n 1, 1) := de_2b tL_law_1288
def tL_law_1289 := Bt_1 (q := 1289) tL_law_1288 rfl
theorem dL_law_1289 : decode cL_law 1289 = .ok (.aload_n 0, 1) := de_2a tL_law_1289
def tL_law_1290 := Bt_1 (q := 1290) tL_law_1289 rfl
theorem dL_law_1290 : decode cL_law 1290 = .ok (.iload_n 3, 1) := de_1d tL_law_1290
def tL_law_1291 := Bt_1 (q := 1291) tL_law_1290 rfl
theorem dL_law_1291 : decode cL_law 1291 = .ok (.iconst 1, 1) := de_04 tL_law_1291
def tL_law_1292 := Bt_1 (q := 1292) tL_law_1291 rfl
theorem dL_law_1292 : decode cL_law 1292 = .ok (.iadd, 1) := de_60 tL_law_1292
def tL_law_1293 := Bt_1 (q := 1293) tL_law_1292 rfl
theorem dL_law_1293 : decode cL_law 1293 = .ok (.iaload, 1) := de_2e tL_law_1293
def tL_law_1294 := Bt_1 (q := 1294) tL_law_1293 rfl
theorem dL_law_1294 : decode cL_law 1294 = .ok (.aload_n 0, 1) := de_2a tL_law_1294
def tL_law_1295 := Bt_1 (q := 1295) tL_law_1294 rfl
theorem dL_law_1295 : decode cL_law 1295 = .ok (.iload_n 3, 1) := de_1d tL_law_1295
def tL_law_1296 := Bt_1 (q := 1296) tL_law_1295 rfl
theorem dL_law_1296 : decode cL_law 1296 = .ok (.iconst 2, 1) := de_05 tL_law_1296
def tL_law_1297 := Bt_1 (q := 1297) tL_law_1296 rfl
theorem dL_law_1297 : decode cL_law 1297 = .ok (.iadd, 1) := de_60 tL_law_1297
def tL_law_1298 := Bt_1 (q := 1298) tL_law_1297 rfl
theorem dL_law_1298 : decode cL_law 1298 = .ok (.iaload, 1) := de_2e tL_law_1298
def tL_law_1299 := Bt_1 (q := 1299) tL_law_1298 rfl
theorem dL_law_1299 : decode cL_law 1299 = .ok (.ifCond .eq 7, 3) := de_99 tL_law_1299 (by decide +kernel)
def tL_law_1302 := Bt_3 (q := 1302) tL_law_1299 rfl
theorem dL_law_1302 : decode cL_law 1302 = .ok (.iconst 1, 1) := de_04 tL_law_1302
def tL_law_1303 := Bt_1 (q := 1303) tL_law_1302 rfl
theorem dL_law_1303 : decode cL_law 1303 = .ok (.goto 4, 3) := de_a7 tL_law_1303 (by decide +kernel)
def tL_law_1306 := Bt_3 (q := 1306) tL_law_1303 rfl
theorem dL_law_1306 : decode cL_law 1306 = .ok (.iconst 0, 1) := de_03 tL_law_1306
def tL_law_1307 := Bt_1 (q := 1307) tL_law_1306 rfl
theorem dL_law_1307 : decode cL_law 1307 = .ok (.invokevirtual 137, 3) := de_b6 tL_law_1307 (by decide +kernel)
def tL_law_1310 := Bt_3 (q := 1310) tL_law_1307 rfl
theorem dL_law_1310 : decode cL_law 1310 = .ok (.pop, 1) := de_57 tL_law_1310
def tL_law_1311 := Bt_1 (q := 1311) tL_law_1310 rfl
theorem dL_law_1311 : decode cL_law 1311 = .ok (.aload_n 2, 1) := de_2c tL_law_1311
def tL_law_1312 := Bt_1 (q := 1312) tL_law_1311 rfl
theorem dL_law_1312 : decode cL_law 1312 = .ok (.aload_n 0, 1) := de_2a tL_law_1312
def tL_law_1313 := Bt_1 (q := 1313) tL_law_1312 rfl
theorem dL_law_1313 : decode cL_law 1313 = .ok (.iload_n 3, 1) := de_1d tL_law_1313
def tL_law_1314 := Bt_1 (q := 1314) tL_law_1313 rfl
theorem dL_law_1314 : decode cL_law 1314 = .ok (.iconst 1, 1) := de_04 tL_law_1314
def tL_law_1315 := Bt_1 (q := 1315) tL_law_1314 rfl
theorem dL_law_1315 : decode cL_law 1315 = .ok (.iadd, 1) := de_60 tL_law_1315
def tL_law_1316 := Bt_1 (q := 1316) tL_law_1315 rfl
theorem dL_law_1316 : decode cL_law 1316 = .ok (.iaload, 1) := de_2e tL_law_1316
def tL_law_1317 := Bt_1 (q := 1317) tL_law_1316 rfl
theorem dL_law_1317 : decode cL_law 1317 = .ok (.aload_n 0, 1) := de_2a tL_law_1317
def tL_law_1318 := Bt_1 (q := 1318) tL_law_1317 rfl
theorem dL_law_1318 : decode cL_law 1318 = .ok (.iload_n 3, 1) := de_1d tL_law_1318
def tL_law_1319 := Bt_1 (q := 1319) tL_law_1318 rfl
theorem dL_law_1319 : decode cL_law 1319 = .ok (.iconst 2, 1) := de_05 tL_law_1319
def tL_law_1320 := Bt_1 (q := 1320) tL_law_1319 rfl
theorem dL_law_1320 : decode cL_law 1320 = .ok (.iadd, 1) := de_60 tL_law_1320
def tL_law_1321 := Bt_1 (q := 1321) tL_law_1320 rfl
theorem dL_law_1321 : decode cL_law 1321 = .ok (.iaload, 1) := de_2e tL_law_1321
def tL_law_1322 := Bt_1 (q := 1322) tL_law_1321 rfl
theorem dL_law_1322 : decode cL_law 1322 = .ok (.ifCond .eq 7, 3) := de_99 tL_law_1322 (by decide +kernel)
def tL_law_1325 := Bt_3 (q := 1325) tL_law_1322 rfl
theorem dL_law_1325 : decode cL_law 1325 = .ok (.iconst 1, 1) := de_04 tL_law_1325
def tL_law_1326 := Bt_1 (q := 1326) tL_law_1325 rfl
theorem dL_law_1326 : decode cL_law 1326 = .ok (.goto 4, 3) := de_a7 tL_law_1326 (by decide +kernel)
def tL_law_1329 := Bt_3 (q := 1329) tL_law_1326 rfl
theorem dL_law_1329 : decode cL_law 1329 = .ok (.iconst 0, 1) := de_03 tL_law_1329
def tL_law_1330 := Bt_1 (q := 1330) tL_law_1329 rfl
theorem dL_law_1330 : decode cL_law 1330 = .ok (.invokevirtual 141, 3) := de_b6 tL_law_1330 (by decide +kernel)
def tL_law_1333 := Bt_3 (q := 1333) tL_law_1330 rfl
theorem dL_law_1333 : decode cL_law 1333 = .ok (.pop, 1) := de_57 tL_law_1333
def tL_law_1334 := Bt_1 (q := 1334) tL_law_1333 rfl
theorem dL_law_1334 : decode cL_law 1334 = .ok (.goto 283, 3) := de_a7 tL_law_1334 (by decide +kernel)
def tL_law_1337 := Bt_3 (q := 1337) tL_law_1334 rfl
theorem dL_law_1337 : decode cL_law 1337 = .ok (.aload_n 1, 1) := de_2b tL_law_1337
def tL_law_1338 := Bt_1 (q := 1338) tL_law_1337 rfl
theorem dL_law_1338 : decode cL_law 1338 = .ok (.invokevirtual 142, 3) := de_b6 tL_law_1338 (by decide +kernel)
def tL_law_1341 := Bt_3 (q := 1341) tL_law_1338 rfl
theorem dL_law_1341 : decode cL_law 1341 = .ok (.pop, 1) := de_57 tL_law_1341
def tL_law_1342 := Bt_1 (q := 1342) tL_law_1341 rfl
theorem dL_law_1342 : decode cL_law 1342 = .ok (.aload_n 2, 1) := de_2c tL_law_1342
def tL_law_1343 := Bt_1 (q := 1343) tL_law_1342 rfl
theorem dL_law_1343 : decode cL_law 1343 = .ok (.invokevirtual 145, 3) := de_b6 tL_law_1343 (by decide +kernel)
def tL_law_1346 := Bt_3 (q := 1346) tL_law_1343 rfl
theorem dL_law_1346 : decode cL_law 1346 = .ok (.pop, 1) := de_57 tL_law_1346
def tL_law_1347 := Bt_1 (q := 1347) tL_law_1346 rfl
theorem dL_law_1347 : decode cL_law 1347 = .ok (.goto 270, 3) := de_a7 tL_law_1347 (by decide +kernel)
def tL_law_1350 := Bt_3 (q := 1350) tL_law_1347 rfl
theorem dL_law_1350 : decode cL_law 1350 = .ok (.aload_n 1, 1) := de_2b tL_law_1350
def tL_law_1351 := Bt_1 (q := 1351) tL_law_1350 rfl
theorem dL_law_1351 : decode cL_law 1351 = .ok (.aload_n 0, 1) := de_2a tL_law_1351
def tL_law_1352 := Bt_1 (q := 1352) tL_law_1351 rfl
theorem dL_law_1352 : decode cL_law 1352 = .ok (.iload_n 3, 1) := de_1d tL_law_1352
def tL_law_1353 := Bt_1 (q := 1353) tL_law_1352 rfl
theorem dL_law_1353 : decode cL_law 1353 = .ok (.iconst 1, 1) := de_04 tL_law_1353
def tL_law_1354 := Bt_1 (q := 1354) tL_law_1353 rfl
theorem dL_law_1354 : decode cL_law 1354 = .ok (.iadd, 1) := de_60 tL_law_1354
def tL_law_1355 := Bt_1 (q := 1355) tL_law_1354 rfl
theorem dL_law_1355 : decode cL_law 1355 = .ok (.iaload, 1) := de_2e tL_law_1355
def tL_law_1356 := Bt_1 (q := 1356) tL_law_1355 rfl
theorem dL_law_1356 : decode cL_law 1356 = .ok (.aload_n 0, 1) := de_2a tL_law_1356
def tL_law_1357 := Bt_1 (q := 1357) tL_law_1356 rfl
theorem dL_law_1357 : decode cL_law 1357 = .ok (.iload_n 3, 1) := de_1d tL_law_1357
def tL_law_1358 := Bt_1 (q := 1358) tL_law_1357 rfl
theorem dL_law_1358 : decode cL_law 1358 = .ok (.iconst 2, 1) := de_05 tL_law_1358
def tL_law_1359 := Bt_1 (q := 1359) tL_law_1358 rfl
theorem dL_law_1359 : decode cL_law 1359 = .ok (.iadd, 1) := de_60 tL_law_1359
def tL_law_1360 := Bt_1 (q := 1360) tL_law_1359 rfl
theorem dL_law_1360 : decode cL_law 1360 = .ok (.iaload, 1) := de_2e tL_law_1360
def tL_law_1361 := Bt_1 (q := 1361) tL_law_1360 rfl
theorem dL_law_1361 : decode cL_law 1361 = .ok (.invokevirtual 146, 3) := de_b6 tL_law_1361 (by decide +kernel)
def tL_law_1364 := Bt_3 (q := 1364) tL_law_1361 rfl
theorem dL_law_1364 : decode cL_law 1364 = .ok (.pop, 1) := de_57 tL_law_1364
def tL_law_1365 := Bt_1 (q := 1365) tL_law_1364 rfl
theorem dL_law_1365 : decode cL_law 1365 = .ok (.aload_n 2, 1) := de_2c tL_law_1365
def tL_law_1366 := Bt_1 (q := 1366) tL_law_1365 rfl
theorem dL_law_1366 : decode cL_law 1366 = .ok (.aload_n 0, 1) := de_2a tL_law_1366
def tL_law_1367 := Bt_1 (q := 1367) tL_law_1366 rfl
theorem dL_law_1367 : decode cL_law 1367 = .ok (.iload_n 3, 1) := de_1d tL_law_1367
def tL_law_1368 := Bt_1 (q := 1368) tL_law_1367 rfl
theorem dL_law_1368 : decode cL_law 1368 = .ok (.iconst 1, 1) := de_04 tL_law_1368
def tL_law_1369 := Bt_1 (q := 1369) tL_law_1368 rfl
theorem dL_law_1369 : decode cL_law 1369 = .ok (.iadd, 1) := de_60 tL_law_1369
def tL_law_1370 := Bt_1 (q := 1370) tL_law_1369 rfl
theorem dL_law_1370 : decode cL_law 1370 = .ok (.iaload, 1) := de_2e tL_law_1370
def tL_law_1371 := Bt_1 (q := 1371) tL_law_1370 rfl
theorem dL_law_1371 : decode cL_law 1371 = .ok (.aload_n 0, 1) := de_2a tL_law_1371
def tL_law_1372 := Bt_1 (q := 1372) tL_law_1371 rfl
theorem dL_law_1372 : decode cL_law 1372 = .ok (.iload_n 3, 1) := de_1d tL_law_1372
def tL_law_1373 := Bt_1 (q := 1373) tL_law_1372 rfl
theorem dL_law_1373 : decode cL_law 1373 = .ok (.iconst 2, 1) := de_05 tL_law_1373
def tL_law_1374 := Bt_1 (q := 1374) tL_law_1373 rfl
theorem dL_law_1374 : decode cL_law 1374 = .ok (.iadd, 1) := de_60 tL_law_1374
def tL_law_1375 := Bt_1 (q := 1375) tL_law_1374 rfl
theorem dL_law_1375 : decode cL_law 1375 = .ok (.iaload, 1) := de_2e tL_law_1375
def tL_law_1376 := Bt_1 (q := 1376) tL_law_1375 rfl
theorem dL_law_1376 : decode cL_law 1376 = .ok (.invokevirtual 149, 3) := de_b6 tL_law_1376 (by decide +kernel)
def tL_law_1379 := Bt_3 (q := 1379) tL_law_1376 rfl
theorem dL_law_1379 : decode cL_law 1379 = .ok (.pop, 1) := de_57 tL_law_1379
def tL_law_1380 := Bt_1 (q := 1380) tL_law_1379 rfl
theorem dL_law_1380 : decode cL_law 1380 = .ok (.goto 237, 3) := de_a7 tL_law_1380 (by decide +kernel)
def tL_law_1383 := Bt_3 (q := 1383) tL_law_1380 rfl
theorem dL_law_1383 : decode cL_law 1383 = .ok (.aload_n 1, 1) := de_2b tL_law_1383
def tL_law_1384 := Bt_1 (q := 1384) tL_law_1383 rfl
theorem dL_law_1384 : decode cL_law 1384 = .ok (.aload_n 0, 1) := de_2a tL_law_1384
def tL_law_1385 := Bt_1 (q := 1385) tL_law_1384 rfl
theorem dL_law_1385 : decode cL_law 1385 = .ok (.iload_n 3, 1) := de_1d tL_law_1385
def tL_law_1386 := Bt_1 (q := 1386) tL_law_1385 rfl
theorem dL_law_1386 : decode cL_law 1386 = .ok (.iconst 1, 1) := de_04 tL_law_1386
def tL_law_1387 := Bt_1 (q := 1387) tL_law_1386 rfl
theorem dL_law_1387 : decode cL_law 1387 = .ok (.iadd, 1) := de_60 tL_law_1387
def tL_law_1388 := Bt_1 (q := 1388) tL_law_1387 rfl
theorem dL_law_1388 : decode cL_law 1388 = .ok (.iaload, 1) := de_2e tL_law_1388
def tL_law_1389 := Bt_1 (q := 1389) tL_law_1388 rfl
theorem dL_law_1389 : decode cL_law 1389 = .ok (.aload_n 0, 1) := de_2a tL_law_1389
def tL_law_1390 := Bt_1 (q := 1390) tL_law_1389 rfl
theorem dL_law_1390 : decode cL_law 1390 = .ok (.iload_n 3, 1) := de_1d tL_law_1390
def tL_law_1391 := Bt_1 (q := 1391) tL_law_1390 rfl
theorem dL_law_1391 : decode cL_law 1391 = .ok (.iconst 2, 1) := de_05 tL_law_1391
def tL_law_1392 := Bt_1 (q := 1392) tL_law_1391 rfl
theorem dL_law_1392 : decode cL_law 1392 = .ok (.iadd, 1) := de_60 tL_law_1392
def tL_law_1393 := Bt_1 (q := 1393) tL_law_1392 rfl
theorem dL_law_1393 : decode cL_law 1393 = .ok (.iaload, 1) := de_2e tL_law_1393
def tL_law_1394 := Bt_1 (q := 1394) tL_law_1393 rfl
theorem dL_law_1394 : decode cL_law 1394 = .ok (.aload_n 0, 1) := de_2a tL_law_1394
def tL_law_1395 := Bt_1 (q := 1395) tL_law_1394 rfl
theorem dL_law_1395 : decode cL_law 1395 = .ok (.iload_n 3, 1) := de_1d tL_law_1395
def tL_law_1396 := Bt_1 (q := 1396) tL_law_1395 rfl
theorem dL_law_1396 : decode cL_law 1396 = .ok (.iconst 3, 1) := de_06 tL_law_1396
def tL_law_1397 := Bt_1 (q := 1397) tL_law_1396 rfl
theorem dL_law_1397 : decode cL_law 1397 = .ok (.iadd, 1) := de_60 tL_law_1397
def tL_law_1398 := Bt_1 (q := 1398) tL_law_1397 rfl
theorem dL_law_1398 : decode cL_law 1398 = .ok (.iaload, 1) := de_2e tL_law_1398
def tL_law_1399 := Bt_1 (q := 1399) tL_law_1398 rfl
theorem dL_law_1399 : decode cL_law 1399 = .ok (.invokevirtual 150, 3) := de_b6 tL_law_1399 (by decide +kernel)
def tL_law_1402 := Bt_3 (q := 1402) tL_law_1399 rfl
theorem dL_law_1402 : decode cL_law 1402 = .ok (.pop2, 1) := de_58 tL_law_1402
def tL_law_1403 := Bt_1 (q := 1403) tL_law_1402 rfl
theorem dL_law_1403 : decode cL_law 1403 = .ok (.aload_n 2, 1) := de_2c tL_law_1403
def tL_law_1404 := Bt_1 (q := 1404) tL_law_1403 rfl
theorem dL_law_1404 : decode cL_law 1404 = .ok (.aload_n 0, 1) := de_2a tL_law_1404
def tL_law_1405 := Bt_1 (q := 1405) tL_law_1404 rfl
theorem dL_law_1405 : decode cL_law 1405 = .ok (.iload_n 3, 1) := de_1d tL_law_1405
def tL_law_1406 := Bt_1 (q := 1406) tL_law_1405 rfl
theorem dL_law_1406 : decode cL_law 1406 = .ok (.iconst 1, 1) := de_04 tL_law_1406
def tL_law_1407 := Bt_1 (q := 1407) tL_law_1406 rfl
theorem dL_law_1407 : decode cL_law 1407 = .ok (.iadd, 1) := de_60 tL_law_1407
def tL_law_1408 := Bt_1 (q := 1408) tL_law_1407 rfl
theorem dL_law_1408 : decode cL_law 1408 = .ok (.iaload, 1) := de_2e tL_law_1408
def tL_law_1409 := Bt_1 (q := 1409) tL_law_1408 rfl
theorem dL_law_1409 : decode cL_law 1409 = .ok (.aload_n 0, 1) := de_2a tL_law_1409
def tL_law_1410 := Bt_1 (q := 1410) tL_law_1409 rfl
theorem dL_law_1410 : decode cL_law 1410 = .ok (.iload_n 3, 1) := de_1d tL_law_1410
def tL_law_1411 := Bt_1 (q := 1411) tL_law_1410 rfl
theorem dL_law_1411 : decode cL_law 1411 = .ok (.iconst 2, 1) := de_05 tL_law_1411
def tL_law_1412 := Bt_1 (q := 1412) tL_law_1411 rfl
theorem dL_law_1412 : decode cL_law 1412 = .ok (.iadd, 1) := de_60 tL_law_1412
def tL_law_1413 := Bt_1 (q := 1413) tL_law_1412 rfl
theorem dL_law_1413 : decode cL_law 1413 = .ok (.iaload, 1) := de_2e tL_law_1413
def tL_law_1414 := Bt_1 (q := 1414) tL_law_1413 rfl
theorem dL_law_1414 : decode cL_law 1414 = .ok (.aload_n 0, 1) := de_2a tL_law_1414
def tL_law_1415 := Bt_1 (q := 1415) tL_law_1414 rfl
theorem dL_law_1415 : decode cL_law 1415 = .ok (.iload_n 3, 1) := de_1d tL_law_1415
def tL_law_1416 := Bt_1 (q := 1416) tL_law_1415 rfl
theorem dL_law_1416 : decode cL_law 1416 = .ok (.iconst 3, 1) := de_06 tL_law_1416
def tL_law_1417 := Bt_1 (q := 1417) tL_law_1416 rfl
theorem dL_law_1417 : decode cL_law 1417 = .ok (.iadd, 1) := de_60 tL_law_1417
def tL_law_1418 := Bt_1 (q := 1418) tL_law_1417 rfl
theorem dL_law_1418 : decode cL_law 1418 = .ok (.iaload, 1) := de_2e tL_law_1418
def tL_law_1419 := Bt_1 (q := 1419) tL_law_1418 rfl
theorem dL_law_1419 : decode cL_law 1419 = .ok (.invokevirtual 153, 3) := de_b6 tL_law_1419 (by decide +kernel)
def tL_law_1422 := Bt_3 (q := 1422) tL_law_1419 rfl
theorem dL_law_1422 : decode cL_law 1422 = .ok (.pop2, 1) := de_58 tL_law_1422
def tL_law_1423 := Bt_1 (q := 1423) tL_law_1422 rfl
theorem dL_law_1423 : decode cL_law 1423 = .ok (.goto 194, 3) := de_a7 tL_law_1423 (by decide +kernel)
def tL_law_1426 := Bt_3 (q := 1426) tL_law_1423 rfl
theorem dL_law_1426 : decode cL_law 1426 = .ok (.aload_n 1, 1) := de_2b tL_law_1426
def tL_law_1427 := Bt_1 (q := 1427) tL_law_1426 rfl
theorem dL_law_1427 : decode cL_law 1427 = .ok (.aload_n 0, 1) := de_2a tL_law_1427
def tL_law_1428 := Bt_1 (q := 1428) tL_law_1427 rfl
theorem dL_law_1428 : decode cL_law 1428 = .ok (.iload_n 3, 1) := de_1d tL_law_1428
def tL_law_1429 := Bt_1 (q := 1429) tL_law_1428 rfl
theorem dL_law_1429 : decode cL_law 1429 = .ok (.iconst 1, 1) := de_04 tL_law_1429
def tL_law_1430 := Bt_1 (q := 1430) tL_law_1429 rfl
theorem dL_law_1430 : decode cL_law 1430 = .ok (.iadd, 1) := de_60 tL_law_1430
def tL_law_1431 := Bt_1 (q := 1431) tL_law_1430 rfl
theorem dL_law_1431 : decode cL_law 1431 = .ok (.iaload, 1) := de_2e tL_law_1431
def tL_law_1432 := Bt_1 (q := 1432) tL_law_1431 rfl
theorem dL_law_1432 : decode cL_law 1432 = .ok (.aload_n 0, 1) := de_2a tL_law_1432
def tL_law_1433 := Bt_1 (q := 1433) tL_law_1432 rfl
theorem dL_law_1433 : decode cL_law 1433 = .ok (.iload_n 3, 1) := de_1d tL_law_1433
def tL_law_1434 := Bt_1 (q := 1434) tL_law_1433 rfl
theorem dL_law_1434 : decode cL_law 1434 = .ok (.iconst 2, 1) := de_05 tL_law_1434
def tL_law_1435 := Bt_1 (q := 1435) tL_law_1434 rfl
theorem dL_law_1435 : decode cL_law 1435 = .ok (.iadd, 1) := de_60 tL_law_1435
def tL_law_1436 := Bt_1 (q := 1436) tL_law_1435 rfl
theorem dL_law_1436 : decode cL_law 1436 = .ok (.iaload, 1) := de_2e tL_law_1436
def tL_law_1437 := Bt_1 (q := 1437) tL_law_1436 rfl
theorem dL_law_1437 : decode cL_law 1437 = .ok (.aload_n 0, 1) := de_2a tL_law_1437
def tL_law_1438 := Bt_1 (q := 1438) tL_law_1437 rfl
theorem dL_law_1438 : decode cL_law 1438 = .ok (.iload_n 3, 1) := de_1d tL_law_1438
def tL_law_1439 := Bt_1 (q := 1439) tL_law_1438 rfl
theorem dL_law_1439 : decode cL_law 1439 = .ok (.iconst 3, 1) := de_06 tL_law_1439
def tL_law_1440 := Bt_1 (q := 1440) tL_law_1439 rfl
theorem dL_law_1440 : decode cL_law 1440 = .ok (.iadd, 1) := de_60 tL_law_1440
def tL_law_1441 := Bt_1 (q := 1441) tL_law_1440 rfl
theorem dL_law_1441 : decode cL_law 1441 = .ok (.iaload, 1) := de_2e tL_law_1441
def tL_law_1442 := Bt_1 (q := 1442) tL_law_1441 rfl
theorem dL_law_1442 : decode cL_law 1442 = .ok (.invokevirtual 154, 3) := de_b6 tL_law_1442 (by decide +kernel)
def tL_law_1445 := Bt_3 (q := 1445) tL_law_1442 rfl
theorem dL_law_1445 : decode cL_law 1445 = .ok (.pop, 1) := de_57 tL_law_1445
def tL_law_1446 := Bt_1 (q := 1446) tL_law_1445 rfl
theorem dL_law_1446 : decode cL_law 1446 = .ok (.aload_n 2, 1) := de_2c tL_law_1446
def tL_law_1447 := Bt_1 (q := 1447) tL_law_1446 rfl
theorem dL_law_1447 : decode cL_law 1447 = .ok (.aload_n 0, 1) := de_2a tL_law_1447
def tL_law_1448 := Bt_1 (q := 1448) tL_law_1447 rfl
theorem dL_law_1448 : decode cL_law 1448 = .ok (.iload_n 3, 1) := de_1d tL_law_1448
def tL_law_1449 := Bt_1 (q := 1449) tL_law_1448 rfl
theorem dL_law_1449 : decode cL_law 1449 = .ok (.iconst 1, 1) := de_04 tL_law_1449
def tL_law_1450 := Bt_1 (q := 1450) tL_law_1449 rfl
theorem dL_law_1450 : decode cL_law 1450 = .ok (.iadd, 1) := de_60 tL_law_1450
def tL_law_1451 := Bt_1 (q := 1451) tL_law_1450 rfl
theorem dL_law_1451 : decode cL_law 1451 = .ok (.iaload, 1) := de_2e tL_law_1451
def tL_law_1452 := Bt_1 (q := 1452) tL_law_1451 rfl
theorem dL_law_1452 : decode cL_law 1452 = .ok (.aload_n 0, 1) := de_2a tL_law_1452
def tL_law_1453 := Bt_1 (q := 1453) tL_law_1452 rfl
theorem dL_law_1453 : decode cL_law 1453 = .ok (.iload_n 3, 1) := de_1d tL_law_1453
def tL_law_1454 := Bt_1 (q := 1454) tL_law_1453 rfl
theorem dL_law_1454 : decode cL_law 1454 = .ok (.iconst 2, 1) := de_05 tL_law_1454
def tL_law_1455 := Bt_1 (q := 1455) tL_law_1454 rfl
theorem dL_law_1455 : decode cL_law 1455 = .ok (.iadd, 1) := de_60 tL_law_1455
def tL_law_1456 := Bt_1 (q := 1456) tL_law_1455 rfl
theorem dL_law_1456 : decode cL_law 1456 = .ok (.iaload, 1) := de_2e tL_law_1456
def tL_law_1457 := Bt_1 (q := 1457) tL_law_1456 rfl
theorem dL_law_1457 : decode cL_law 1457 = .ok (.aload_n 0, 1) := de_2a tL_law_1457
def tL_law_1458 := Bt_1 (q := 1458) tL_law_1457 rfl
theorem dL_law_1458 : decode cL_law 1458 = .ok (.iload_n 3, 1) := de_1d tL_law_1458
def tL_law_1459 := Bt_1 (q := 1459) tL_law_1458 rfl
theorem dL_law_1459 : decode cL_law 1459 = .ok (.iconst 3, 1) := de_06 tL_law_1459
def tL_law_1460 := Bt_1 (q := 1460) tL_law_1459 rfl
theorem dL_law_1460 : decode cL_law 1460 = .ok (.iadd, 1) := de_60 tL_law_1460
def tL_law_1461 := Bt_1 (q := 1461) tL_law_1460 rfl
theorem dL_law_1461 : decode cL_law 1461 = .ok (.iaload, 1) := de_2e tL_law_1461
def tL_law_1462 := Bt_1 (q := 1462) tL_law_1461 rfl
theorem dL_law_1462 : decode cL_law 1462 = .ok (.invokevirtual 157, 3) := de_b6 tL_law_1462 (by decide +kernel)
def tL_law_1465 := Bt_3 (q := 1465) tL_law_1462 rfl
theorem dL_law_1465 : decode cL_law 1465 = .ok (.pop, 1) := de_57 tL_law_1465
def tL_law_1466 := Bt_1 (q := 1466) tL_law_1465 rfl
theorem dL_law_1466 : decode cL_law 1466 = .ok (.goto 151, 3) := de_a7 tL_law_1466 (by decide +kernel)
def tL_law_1469 := Bt_3 (q := 1469) tL_law_1466 rfl
theorem dL_law_1469 : decode cL_law 1469 = .ok (.aload_n 1, 1) := de_2b tL_law_1469
def tL_law_1470 := Bt_1 (q := 1470) tL_law_1469 rfl
theorem dL_law_1470 : decode cL_law 1470 = .ok (.aload_n 0, 1) := de_2a tL_law_1470
def tL_law_1471 := Bt_1 (q := 1471) tL_law_1470 rfl
theorem dL_law_1471 : decode cL_law 1471 = .ok (.iload_n 3, 1) := de_1d tL_law_1471
def tL_law_1472 := Bt_1 (q := 1472) tL_law_1471 rfl
theorem dL_law_1472 : decode cL_law 1472 = .ok (.iconst 1, 1) := de_04 tL_law_1472
def tL_law_1473 := Bt_1 (q := 1473) tL_law_1472 rfl
theorem dL_law_1473 : decode cL_law 1473 = .ok (.iadd, 1) := de_60 tL_law_1473
def tL_law_1474 := Bt_1 (q := 1474) tL_law_1473 rfl
theorem dL_law_1474 : decode cL_law 1474 = .ok (.iaload, 1) := de_2e tL_law_1474
def tL_law_1475 := Bt_1 (q := 1475) tL_law_1474 rfl
theorem dL_law_1475 : decode cL_law 1475 = .ok (.aload_n 0, 1) := de_2a tL_law_1475
def tL_law_1476 := Bt_1 (q := 1476) tL_law_1475 rfl
theorem dL_law_1476 : decode cL_law 1476 = .ok (.iload_n 3, 1) := de_1d tL_law_1476
def tL_law_1477 := Bt_1 (q := 1477) tL_law_1476 rfl
theorem dL_law_1477 : decode cL_law 1477 = .ok (.iconst 2, 1) := de_05 tL_law_1477
def tL_law_1478 := Bt_1 (q := 1478) tL_law_1477 rfl
theorem dL_law_1478 : decode cL_law 1478 = .ok (.iadd, 1) := de_60 tL_law_1478
def tL_law_1479 := Bt_1 (q := 1479) tL_law_1478 rfl
theorem dL_law_1479 : decode cL_law 1479 = .ok (.iaload, 1) := de_2e tL_law_1479
def tL_law_1480 := Bt_1 (q := 1480) tL_law_1479 rfl
theorem dL_law_1480 : decode cL_law 1480 = .ok (.invokevirtual 158, 3) := de_b6 tL_law_1480 (by decide +kernel)
def tL_law_1483 := Bt_3 (q := 1483) tL_law_1480 rfl
theorem dL_law_1483 : decode cL_law 1483 = .ok (.pop, 1) := de_57 tL_law_1483
def tL_law_1484 := Bt_1 (q := 1484) tL_law_1483 rfl
theorem dL_law_1484 : decode cL_law 1484 = .ok (.aload_n 2, 1) := de_2c tL_law_1484
def tL_law_1485 := Bt_1 (q := 1485) tL_law_1484 rfl
theorem dL_law_1485 : decode cL_law 1485 = .ok (.aload_n 0, 1) := de_2a tL_law_1485
def tL_law_1486 := Bt_1 (q := 1486) tL_law_1485 rfl
theorem dL_law_1486 : decode cL_law 1486 = .ok (.iload_n 3, 1) := de_1d tL_law_1486
def tL_law_1487 := Bt_1 (q := 1487) tL_law_1486 rfl
theorem dL_law_1487 : decode cL_law 1487 = .ok (.iconst 1, 1) := de_04 tL_law_1487
def tL_law_1488 := Bt_1 (q := 1488) tL_law_1487 rfl
theorem dL_law_1488 : decode cL_law 1488 = .ok (.iadd, 1) := de_60 tL_law_1488
def tL_law_1489 := Bt_1 (q := 1489) tL_law_1488 rfl
theorem dL_law_1489 : decode cL_law 1489 = .ok (.iaload, 1) := de_2e tL_law_1489
def tL_law_1490 := Bt_1 (q := 1490) tL_law_1489 rfl
theorem dL_law_1490 : decode cL_law 1490 = .ok (.aload_n 0, 1) := de_2a tL_law_1490
def tL_law_1491 := Bt_1 (q := 1491) tL_law_1490 rfl
theorem dL_law_1491 : decode cL_law 1491 = .ok (.iload_n 3, 1) := de_1d tL_law_1491
def tL_law_1492 := Bt_1 (q := 1492) tL_law_1491 rfl
theorem dL_law_1492 : decode cL_law 1492 = .ok (.iconst 2, 1) := de_05 tL_law_1492
def tL_law_1493 := Bt_1 (q := 1493) tL_law_1492 rfl
theorem dL_law_1493 : decode cL_law 1493 = .ok (.iadd, 1) := de_60 tL_law_1493
def tL_law_1494 := Bt_1 (q := 1494) tL_law_1493 rfl
theorem dL_law_1494 : decode cL_law 1494 = .ok (.iaload, 1) := de_2e tL_law_1494
def tL_law_1495 := Bt_1 (q := 1495) tL_law_1494 rfl
theorem dL_law_1495 : decode cL_law 1495 = .ok (.invokevirtual 161, 3) := de_b6 tL_law_1495 (by decide +kernel)
def tL_law_1498 := Bt_3 (q := 1498) tL_law_1495 rfl
theorem dL_law_1498 : decode cL_law 1498 = .ok (.pop, 1) := de_57 tL_law_1498
def tL_law_1499 := Bt_1 (q := 1499) tL_law_1498 rfl
theorem dL_law_1499 : decode cL_law 1499 = .ok (.goto 118, 3) := de_a7 tL_law_1499 (by decide +kernel)
def tL_law_1502 := Bt_3 (q := 1502) tL_law_1499 rfl
theorem dL_law_1502 : decode cL_law 1502 = .ok (.aload_n 1, 1) := de_2b tL_law_1502
def tL_law_1503 := Bt_1 (q := 1503) tL_law_1502 rfl
theorem dL_law_1503 : decode cL_law 1503 = .ok (.aload_n 0, 1) := de_2a tL_law_1503
def tL_law_1504 := Bt_1 (q := 1504) tL_law_1503 rfl
theorem dL_law_1504 : decode cL_law 1504 = .ok (.iload_n 3, 1) := de_1d tL_law_1504
def tL_law_1505 := Bt_1 (q := 1505) tL_law_1504 rfl
theorem dL_law_1505 : decode cL_law 1505 = .ok (.iconst 1, 1) := de_04 tL_law_1505
def tL_law_1506 := Bt_1 (q := 1506) tL_law_1505 rfl
theorem dL_law_1506 : decode cL_law 1506 = .ok (.iadd, 1) := de_60 tL_law_1506
def tL_law_1507 := Bt_1 (q := 1507) tL_law_1506 rfl
theorem dL_law_1507 : decode cL_law 1507 = .ok (.iaload, 1) := de_2e tL_law_1507
def tL_law_1508 := Bt_1 (q := 1508) tL_law_1507 rfl
theorem dL_law_1508 : decode cL_law 1508 = .ok (.aload_n 0, 1) := de_2a tL_law_1508
def tL_law_1509 := Bt_1 (q := 1509) tL_law_1508 rfl
theorem dL_law_1509 : decode cL_law 1509 = .ok (.iload_n 3, 1) := de_1d tL_law_1509
def tL_law_1510 := Bt_1 (q := 1510) tL_law_1509 rfl
theorem dL_law_1510 : decode cL_law 1510 = .ok (.iconst 2, 1) := de_05 tL_law_1510
def tL_law_1511 := Bt_1 (q := 1511) tL_law_1510 rfl
theorem dL_law_1511 : decode cL_law 1511 = .ok (.iadd, 1) := de_60 tL_law_1511
def tL_law_1512 := Bt_1 (q := 1512) tL_law_1511 rfl
theorem dL_law_1512 : decode cL_law 1512 = .ok (.iaload, 1) := de_2e tL_law_1512
def tL_law_1513 := Bt_1 (q := 1513) tL_law_1512 rfl
theorem dL_law_1513 : decode cL_law 1513 = .ok (.invokevirtual 162, 3) := de_b6 tL_law_1513 (by decide +kernel)
def tL_law_1516 := Bt_3 (q := 1516) tL_law_1513 rfl
theorem dL_law_1516 : decode cL_law 1516 = .ok (.pop, 1) := de_57 tL_law_1516
def tL_law_1517 := Bt_1 (q := 1517) tL_law_1516 rfl
theorem dL_law_1517 : decode cL_law 1517 = .ok (.aload_n 2, 1) := de_2c tL_law_1517
def tL_law_1518 := Bt_1 (q := 1518) tL_law_1517 rfl
theorem dL_law_1518 : decode cL_law 1518 = .ok (.aload_n 0, 1) := de_2a tL_law_1518
def tL_law_1519 := Bt_1 (q := 1519) tL_law_1518 rfl
theorem dL_law_1519 : decode cL_law 1519 = .ok (.iload_n 3, 1) := de_1d tL_law_1519
def tL_law_1520 := Bt_1 (q := 1520) tL_law_1519 rfl
theorem dL_law_1520 : decode cL_law 1520 = .ok (.iconst 1, 1) := de_04 tL_law_1520
def tL_law_1521 := Bt_1 (q := 1521) tL_law_1520 rfl
theorem dL_law_1521 : decode cL_law 1521 = .ok (.iadd, 1) := de_60 tL_law_1521
def tL_law_1522 := Bt_1 (q := 1522) tL_law_1521 rfl
theorem dL_law_1522 : decode cL_law 1522 = .ok (.iaload, 1) := de_2e tL_law_1522
def tL_law_1523 := Bt_1 (q := 1523) tL_law_1522 rfl
theorem dL_law_1523 : decode cL_law 1523 = .ok (.aload_n 0, 1) := de_2a tL_law_1523
def tL_law_1524 := Bt_1 (q := 1524) tL_law_1523 rfl
theorem dL_law_1524 : decode cL_law 1524 = .ok (.iload_n 3, 1) := de_1d tL_law_1524
def tL_law_1525 := Bt_1 (q := 1525) tL_law_1524 rfl
theorem dL_law_1525 : decode cL_law 1525 = .ok (.iconst 2, 1) := de_05 tL_law_1525
def tL_law_1526 := Bt_1 (q := 1526) tL_law_1525 rfl
theorem dL_law_1526 : decode cL_law 1526 = .ok (.iadd, 1) := de_60 tL_law_1526
def tL_law_1527 := Bt_1 (q := 1527) tL_law_1526 rfl
theorem dL_law_1527 : decode cL_law 1527 = .ok (.iaload, 1) := de_2e tL_law_1527
def tL_law_1528 := Bt_1 (q := 1528) tL_law_1527 rfl
theorem dL_law_1528 : decode cL_law 1528 = .ok (.invokevirtual 165, 3) := de_b6 tL_law_1528 (by decide +kernel)
def tL_law_1531 := Bt_3 (q := 1531) tL_law_1528 rfl
theorem dL_law_1531 : decode cL_law 1531 = .ok (.pop, 1) := de_57 tL_law_1531
def tL_law_1532 := Bt_1 (q := 1532) tL_law_1531 rfl
theorem dL_law_1532 : decode cL_law 1532 = .ok (.goto 85, 3) := de_a7 tL_law_1532 (by decide +kernel)
def tL_law_1535 := Bt_3 (q := 1535) tL_law_1532 rfl
theorem dL_law_1535 : decode cL_law 1535 = .ok (.aload_n 1, 1) := de_2b tL_law_1535
def tL_law_1536 := Bt_1 (q := 1536) tL_law_1535 rfl
theorem dL_law_1536 : decode cL_law 1536 = .ok (.aload_n 0, 1) := de_2a tL_law_1536
def tL_law_1537 := Bt_1 (q := 1537) tL_law_1536 rfl
theorem dL_law_1537 : decode cL_law 1537 = .ok (.iload_n 3, 1) := de_1d tL_law_1537
def tL_law_1538 := Bt_1 (q := 1538) tL_law_1537 rfl
theorem dL_law_1538 : decode cL_law 1538 = .ok (.iconst 1, 1) := de_04 tL_law_1538
def tL_law_1539 := Bt_1 (q := 1539) tL_law_1538 rfl
theorem dL_law_1539 : decode cL_law 1539 = .ok (.iadd, 1) := de_60 tL_law_1539
def tL_law_1540 := Bt_1 (q := 1540) tL_law_1539 rfl
theorem dL_law_1540 : decode cL_law 1540 = .ok (.iaload, 1) := de_2e tL_law_1540
def tL_law_1541 := Bt_1 (q := 1541) tL_law_1540 rfl
theorem dL_law_1541 : decode cL_law 1541 = .ok (.invokevirtual 166, 3) := de_b6 tL_law_1541 (by decide +kernel)
def tL_law_1544 := Bt_3 (q := 1544) tL_law_1541 rfl
theorem dL_law_1544 : decode cL_law 1544 = .ok (.pop, 1) := de_57 tL_law_1544
def tL_law_1545 := Bt_1 (q := 1545) tL_law_1544 rfl
theorem dL_law_1545 : decode cL_law 1545 = .ok (.aload_n 2, 1) := de_2c tL_law_1545
def tL_law_1546 := Bt_1 (q := 1546) tL_law_1545 rfl
theorem dL_law_1546 : decode cL_law 1546 = .ok (.aload_n 0, 1) := de_2a tL_law_1546
def tL_law_1547 := Bt_1 (q := 1547) tL_law_1546 rfl
theorem dL_law_1547 : decode cL_law 1547 = .ok (.iload_n 3, 1) := de_1d tL_law_1547
def tL_law_1548 := Bt_1 (q := 1548) tL_law_1547 rfl
theorem dL_law_1548 : decode cL_law 1548 = .ok (.iconst 1, 1) := de_04 tL_law_1548
def tL_law_1549 := Bt_1 (q := 1549) tL_law_1548 rfl
theorem dL_law_1549 : decode cL_law 1549 = .ok (.iadd, 1) := de_60 tL_law_1549
def tL_law_1550 := Bt_1 (q := 1550) tL_law_1549 rfl
theorem dL_law_1550 : decode cL_law 1550 = .ok (.iaload, 1) := de_2e tL_law_1550
def tL_law_1551 := Bt_1 (q := 1551) tL_law_1550 rfl
theorem dL_law_1551 : decode cL_law 1551 = .ok (.invokevirtual 169, 3) := de_b6 tL_law_1551 (by decide +kernel)
def tL_law_1554 := Bt_3 (q := 1554) tL_law_1551 rfl
theorem dL_law_1554 : decode cL_law 1554 = .ok (.pop, 1) := de_57 tL_law_1554
def tL_law_1555 := Bt_1 (q := 1555) tL_law_1554 rfl
theorem dL_law_1555 : decode cL_law 1555 = .ok (.goto 62, 3) := de_a7 tL_law_1555 (by decide +kernel)
def tL_law_1558 := Bt_3 (q := 1558) tL_law_1555 rfl
theorem dL_law_1558 : decode cL_law 1558 = .ok (.aload_n 1, 1) := de_2b tL_law_1558
def tL_law_1559 := Bt_1 (q := 1559) tL_law_1558 rfl
theorem dL_law_1559 : decode cL_law 1559 = .ok (.invokevirtual 170, 3) := de_b6 tL_law_1559 (by decide +kernel)
def tL_law_1562 := Bt_3 (q := 1562) tL_law_1559 rfl
theorem dL_law_1562 : decode cL_law 1562 = .ok (.pop, 1) := de_57 tL_law_1562
def tL_law_1563 := Bt_1 (q := 1563) tL_law_1562 rfl
theorem dL_law_1563 : decode cL_law 1563 = .ok (.aload_n 2, 1) := de_2c tL_law_1563
def tL_law_1564 := Bt_1 (q := 1564) tL_law_1563 rfl
theorem dL_law_1564 : decode cL_law 1564 = .ok (.invokevirtual 173, 3) := de_b6 tL_law_1564 (by decide +kernel)
def tL_law_1567 := Bt_3 (q := 1567) tL_law_1564 rfl
theorem dL_law_1567 : decode cL_law 1567 = .ok (.pop, 1) := de_57 tL_law_1567
def tL_law_1568 := Bt_1 (q := 1568) tL_law_1567 rfl
theorem dL_law_1568 : decode cL_law 1568 = .ok (.goto 49, 3) := de_a7 tL_law_1568 (by decide +kernel)
def tL_law_1571 := Bt_3 (q := 1571) tL_law_1568 rfl
theorem dL_law_1571 : decode cL_law 1571 = .ok (.aload_n 1, 1) := de_2b tL_law_1571
def tL_law_1572 := Bt_1 (q := 1572) tL_law_1571 rfl
theorem dL_law_1572 : decode cL_law 1572 = .ok (.aload_n 0, 1) := de_2a tL_law_1572
def tL_law_1573 := Bt_1 (q := 1573) tL_law_1572 rfl
theorem dL_law_1573 : decode cL_law 1573 = .ok (.iload_n 3, 1) := de_1d tL_law_1573
def tL_law_1574 := Bt_1 (q := 1574) tL_law_1573 rfl
theorem dL_law_1574 : decode cL_law 1574 = .ok (.iconst 1, 1) := de_04 tL_law_1574
def tL_law_1575 := Bt_1 (q := 1575) tL_law_1574 rfl
theorem dL_law_1575 : decode cL_law 1575 = .ok (.iadd, 1) := de_60 tL_law_1575
def tL_law_1576 := Bt_1 (q := 1576) tL_law_1575 rfl
theorem dL_law_1576 : decode cL_law 1576 = .ok (.iaload, 1) := de_2e tL_law_1576
def tL_law_1577 := Bt_1 (q := 1577) tL_law_1576 rfl
theorem dL_law_1577 : decode cL_law 1577 = .ok (.invokevirtual 174, 3) := de_b6 tL_law_1577 (by decide +kernel)
def tL_law_1580 := Bt_3 (q := 1580) tL_law_1577 rfl
theorem dL_law_1580 : decode cL_law 1580 = .ok (.aload_n 2, 1) := de_2c tL_law_1580
def tL_law_1581 := Bt_1 (q := 1581) tL_law_1580 rfl
theorem dL_law_1581 : decode cL_law 1581 = .ok (.aload_n 0, 1) := de_2a tL_law_1581
def tL_law_1582 := Bt_1 (q := 1582) tL_law_1581 rfl
theorem dL_law_1582 : decode cL_law 1582 = .ok (.iload_n 3, 1) := de_1d tL_law_1582
def tL_law_1583 := Bt_1 (q := 1583) tL_law_1582 rfl
theorem dL_law_1583 : decode cL_law 1583 = .ok (.iconst 1, 1) := de_04 tL_law_1583
def tL_law_1584 := Bt_1 (q := 1584) tL_law_1583 rfl
theorem dL_law_1584 : decode cL_law 1584 = .ok (.iadd, 1) := de_60 tL_law_1584
def tL_law_1585 := Bt_1 (q := 1585) tL_law_1584 rfl
theorem dL_law_1585 : decode cL_law 1585 = .ok (.iaload, 1) := de_2e tL_law_1585
def tL_law_1586 := Bt_1 (q := 1586) tL_law_1585 rfl
theorem dL_law_1586 : decode cL_law 1586 = .ok (.invokevirtual 177, 3) := de_b6 tL_law_1586 (by decide +kernel)
def tL_law_1589 := Bt_3 (q := 1589) tL_law_1586 rfl
theorem dL_law_1589 : decode cL_law 1589 = .ok (.if_icmp .eq 28, 3) := de_9f tL_law_1589 (by decide +kernel)
def tL_law_1592 := Bt_3 (q := 1592) tL_law_1589 rfl
theorem dL_law_1592 : decode cL_law 1592 = .ok (.iconst 0, 1) := de_03 tL_law_1592
def tL_law_1593 := Bt_1 (q := 1593) tL_law_1592 rfl
theorem dL_law_1593 : decode cL_law 1593 = .ok (.ireturn, 1) := de_ac tL_law_1593
def tL_law_1594 := Bt_1 (q := 1594) tL_law_1593 rfl
theorem dL_law_1594 : decode cL_law 1594 = .ok (.aload_n 1, 1) := de_2b tL_law_1594
def tL_law_1595 := Bt_1 (q := 1595) tL_law_1594 rfl
theorem dL_law_1595 : decode cL_law 1595 = .ok (.aload_n 0, 1) := de_2a tL_law_1595
def tL_law_1596 := Bt_1 (q := 1596) tL_law_1595 rfl
theorem dL_law_1596 : decode cL_law 1596 = .ok (.iload_n 3, 1) := de_1d tL_law_1596
def tL_law_1597 := Bt_1 (q := 1597) tL_law_1596 rfl
theorem dL_law_1597 : decode cL_law 1597 = .ok (.iconst 1, 1) := de_04 tL_law_1597
def tL_law_1598 := Bt_1 (q := 1598) tL_law_1597 rfl
theorem dL_law_1598 : decode cL_law 1598 = .ok (.iadd, 1) := de_60 tL_law_1598
def tL_law_1599 := Bt_1 (q := 1599) tL_law_1598 rfl
theorem dL_law_1599 : decode cL_law 1599 = .ok (.iaload, 1) := de_2e tL_law_1599
def tL_law_1600 := Bt_1 (q := 1600) tL_law_1599 rfl
theorem dL_law_1600 : decode cL_law 1600 = .ok (.invokevirtual 178, 3) := de_b6 tL_law_1600 (by decide +kernel)
def tL_law_1603 := Bt_3 (q := 1603) tL_law_1600 rfl
theorem dL_law_1603 : decode cL_law 1603 = .ok (.pop, 1) := de_57 tL_law_1603
def tL_law_1604 := Bt_1 (q := 1604) tL_law_1603 rfl
theorem dL_law_1604 : decode cL_law 1604 = .ok (.aload_n 2, 1) := de_2c tL_law_1604
def tL_law_1605 := Bt_1 (q := 1605) tL_law_1604 rfl
theorem dL_law_1605 : decode cL_law 1605 = .ok (.aload_n 0, 1) := de_2a tL_law_1605
def tL_law_1606 := Bt_1 (q := 1606) tL_law_1605 rfl
theorem dL_law_1606 : decode cL_law 1606 = .ok (.iload_n 3, 1) := de_1d tL_law_1606
def tL_law_1607 := Bt_1 (q := 1607) tL_law_1606 rfl
theorem dL_law_1607 : decode cL_law 1607 = .ok (.iconst 1, 1) := de_04 tL_law_1607
def tL_law_1608 := Bt_1 (q := 1608) tL_law_1607 rfl
theorem dL_law_1608 : decode cL_law 1608 = .ok (.iadd, 1) := de_60 tL_law_1608
def tL_law_1609 := Bt_1 (q := 1609) tL_law_1608 rfl
theorem dL_law_1609 : decode cL_law 1609 = .ok (.iaload, 1) := de_2e tL_law_1609
def tL_law_1610 := Bt_1 (q := 1610) tL_law_1609 rfl
theorem dL_law_1610 : decode cL_law 1610 = .ok (.invokevirtual 181, 3) := de_b6 tL_law_1610 (by decide +kernel)
def tL_law_1613 := Bt_3 (q := 1613) tL_law_1610 rfl
theorem dL_law_1613 : decode cL_law 1613 = .ok (.pop, 1) := de_57 tL_law_1613
def tL_law_1614 := Bt_1 (q := 1614) tL_law_1613 rfl
theorem dL_law_1614 : decode cL_law 1614 = .ok (.goto 3, 3) := de_a7 tL_law_1614 (by decide +kernel)
def tL_law_1617 := Bt_3 (q := 1617) tL_law_1614 rfl
theorem dL_law_1617 : decode cL_law 1617 = .ok (.iinc 3 10, 3) := de_84 tL_law_1617 (by decide +kernel) (by decide +kernel)
def tL_law_1620 := Bt_3 (q := 1620) tL_law_1617 rfl
theorem dL_law_1620 : decode cL_law 1620 = .ok (.goto (-1602), 3) := de_a7 tL_law_1620 (by decide +kernel)
def tL_law_1623 := Bt_3 (q := 1623) tL_law_1620 rfl
theorem dL_law_1623 : decode cL_law 1623 = .ok (.iconst 1, 1) := de_04 tL_law_1623
def tL_law_1624 := Bt_1 (q := 1624) tL_law_1623 rfl
theorem dL_law_1624 : decode cL_law 1624 = .ok (.ireturn, 1) := de_ac tL_law_1624
