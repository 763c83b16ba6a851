theorem gL_law_0 : (decode cL_law 0 = .ok (.new 7, 3)) ∧ (decode cL_law 3 = .ok (.dup, 1)) ∧ (decode cL_law 4 = .ok (.invokespecial 9, 3)) ∧ (decode cL_law 7 = .ok (.astore_n 1, 1)) ∧ (decode cL_law 8 = .ok (.new 10, 3)) ∧ (decode cL_law 11 = .ok (.dup, 1)) ∧ (decode cL_law 12 = .ok (.invokespecial 12, 3)) ∧ (decode cL_law 15 = .ok (.astore_n 2, 1)) ∧ (decode cL_law 16 = .ok (.iconst 0, 1)) ∧ (decode cL_law 17 = .ok (.istore_n 3, 1)) ∧ (decode cL_law 18 = .ok (.iload_n 3, 1)) ∧ (decode cL_law 19 = .ok (.aload_n 0, 1)) := by decide +kernel
theorem dL_law_0 : decode cL_law 0 = .ok (.new 7, 3) := gL_law_0.1
theorem dL_law_3 : decode cL_law 3 = .ok (.dup, 1) := gL_law_0.2.1
theorem dL_law_4 : decode cL_law 4 = .ok (.invokespecial 9, 3) := gL_law_0.2.2.1
theorem dL_law_7 : decode cL_law 7 = .ok (.astore_n 1, 1) := gL_law_0.2.2.2.1
theorem dL_law_8 : decode cL_law 8 = .ok (.new 10, 3) := gL_law_0.2.2.2.2.1
theorem dL_law_11 : decode cL_law 11 = .ok (.dup, 1) := gL_law_0.2.2.2.2.2.1
theorem dL_law_12 : decode cL_law 12 = .ok (.invokespecial 12, 3) := gL_law_0.2.2.2.2.2.2.1
theorem dL_law_15 : decode cL_law 15 = .ok (.astore_n 2, 1) := gL_law_0.2.2.2.2.2.2.2.1
theorem dL_law_16 : decode cL_law 16 = .ok (.iconst 0, 1) := gL_law_0.2.2.2.2.2.2.2.2.1
theorem dL_law_17 : decode cL_law 17 = .ok (.istore_n 3, 1) := gL_law_0.2.2.2.2.2.2.2.2.2.1
theorem dL_law_18 : decode cL_law 18 = .ok (.iload_n 3, 1) := gL_law_0.2.2.2.2.2.2.2.2.2.2.1
theorem dL_law_19 : decode cL_law 19 = .ok (.aload_n 0, 1) := gL_law_0.2.2.2.2.2.2.2.2.2.2.2
theorem gL_law_12 : (decode cL_law 20 = .ok (.arraylength, 1)) ∧ (decode cL_law 21 = .ok (.bipush 10, 2)) ∧ (decode cL_law 23 = .ok (.isub, 1)) ∧ (decode cL_law 24 = .ok (.if_icmp .gt 1599, 3)) ∧ (decode cL_law 27 = .ok (.aload_n 0, 1)) ∧ (decode cL_law 28 = .ok (.iload_n 3, 1)) ∧ (decode cL_law 29 = .ok (.iaload, 1)) ∧ (decode cL_law 30 = .ok (.bipush 63, 2)) ∧ (decode cL_law 32 = .ok (.iand, 1)) ∧ (decode cL_law 33 = .ok (.tableswitch 1584 0 38 #[171, 194, 227, 250, 273, 384, 417, 450, 483, 536, 595, 638, 701, 714, 757, 790, 843, 886, 919, 962, 995, 1054, 1087, 1130, 1153, 1176, 1199, 1222, 1255, 1304, 1317, 1350, 1393, 1436, 1469, 1502, 1525, 1538, 1561], 171)) ∧ (decode cL_law 204 = .ok (.aload_n 1, 1)) ∧ (decode cL_law 205 = .ok (.aload_n 0, 1)) := by decide +kernel
theorem dL_law_20 : decode cL_law 20 = .ok (.arraylength, 1) := gL_law_12.1
theorem dL_law_21 : decode cL_law 21 = .ok (.bipush 10, 2) := gL_law_12.2.1
theorem dL_law_23 : decode cL_law 23 = .ok (.isub, 1) := gL_law_12.2.2.1
theorem dL_law_24 : decode cL_law 24 = .ok (.if_icmp .gt 1599, 3) := gL_law_12.2.2.2.1
theorem dL_law_27 : decode cL_law 27 = .ok (.aload_n 0, 1) := gL_law_12.2.2.2.2.1
theorem dL_law_28 : decode cL_law 28 = .ok (.iload_n 3, 1) := gL_law_12.2.2.2.2.2.1
theorem dL_law_29 : decode cL_law 29 = .ok (.iaload, 1) := gL_law_12.2.2.2.2.2.2.1
theorem dL_law_30 : decode cL_law 30 = .ok (.bipush 63, 2) := gL_law_12.2.2.2.2.2.2.2.1
theorem dL_law_32 : decode cL_law 32 = .ok (.iand, 1) := gL_law_12.2.2.2.2.2.2.2.2.1
theorem dL_law_33 : decode cL_law 33 = .ok (.tableswitch 1584 0 38 #[171, 194, 227, 250, 273, 384, 417, 450, 483, 536, 595, 638, 701, 714, 757, 790, 843, 886, 919, 962, 995, 1054, 1087, 1130, 1153, 1176, 1199, 1222, 1255, 1304, 1317, 1350, 1393, 1436, 1469, 1502, 1525, 1538, 1561], 171) := gL_law_12.2.2.2.2.2.2.2.2.2.1
theorem dL_law_204 : decode cL_law 204 = .ok (.aload_n 1, 1) := gL_law_12.2.2.2.2.2.2.2.2.2.2.1
theorem dL_law_205 : decode cL_law 205 = .ok (.aload_n 0, 1) := gL_law_12.2.2.2.2.2.2.2.2.2.2.2
theorem gL_law_24 : (decode cL_law 206 = .ok (.iload_n 3, 1)) ∧ (decode cL_law 207 = .ok (.iconst 1, 1)) ∧ (decode cL_law 208 = .ok (.iadd, 1)) ∧ (decode cL_law 209 = .ok (.iaload, 1)) ∧ (decode cL_law 210 = .ok (.invokevirtual 13, 3)) ∧ (decode cL_law 213 = .ok (.pop, 1)) ∧ (decode cL_law 214 = .ok (.aload_n 2, 1)) ∧ (decode cL_law 215 = .ok (.aload_n 0, 1)) ∧ (decode cL_law 216 = .ok (.iload_n 3, 1)) ∧ (decode cL_law 217 = .ok (.iconst 1, 1)) ∧ (decode cL_law 218 = .ok (.iadd, 1)) ∧ (decode cL_law 219 = .ok (.iaload, 1)) := by decide +kernel
theorem dL_law_206 : decode cL_law 206 = .ok (.iload_n 3, 1) := gL_law_24.1
theorem dL_law_207 : decode cL_law 207 = .ok (.iconst 1, 1) := gL_law_24.2.1
theorem dL_law_208 : decode cL_law 208 = .ok (.iadd, 1) := gL_law_24.2.2.1
theorem dL_law_209 : decode cL_law 209 = .ok (.iaload, 1) := gL_law_24.2.2.2.1
theorem dL_law_210 : decode cL_law 210 = .ok (.invokevirtual 13, 3) := gL_law_24.2.2.2.2.1
theorem dL_law_213 : decode cL_law 213 = .ok (.pop, 1) := gL_law_24.2.2.2.2.2.1
theorem dL_law_214 : decode cL_law 214 = .ok (.aload_n 2, 1) := gL_law_24.2.2.2.2.2.2.1
theorem dL_law_215 : decode cL_law 215 = .ok (.aload_n 0, 1) := gL_law_24.2.2.2.2.2.2.2.1
theorem dL_law_216 : decode cL_law 216 = .ok (.iload_n 3, 1) := gL_law_24.2.2.2.2.2.2.2.2.1
theorem dL_law_217 : decode cL_law 217 = .ok (.iconst 1, 1) := gL_law_24.2.2.2.2.2.2.2.2.2.1
theorem dL_law_218 : decode cL_law 218 = .ok (.iadd, 1) := gL_law_24.2.2.2.2.2.2.2.2.2.2.1
theorem dL_law_219 : decode cL_law 219 = .ok (.iaload, 1) := gL_law_24.2.2.2.2.2.2.2.2.2.2.2
theorem gL_law_36 : (decode cL_law 220 = .ok (.invokevirtual 17, 3)) ∧ (decode cL_law 223 = .ok (.pop, 1)) ∧ (decode cL_law 224 = .ok (.goto 1393, 3)) ∧ (decode cL_law 227 = .ok (.aload_n 1, 1)) ∧ (decode cL_law 228 = .ok (.aload_n 0, 1)) ∧ (decode cL_law 229 = .ok (.iload_n 3, 1)) ∧ (decode cL_law 230 = .ok (.iconst 1, 1)) ∧ (decode cL_law 231 = .ok (.iadd, 1)) ∧ (decode cL_law 232 = .ok (.iaload, 1)) ∧ (decode cL_law 233 = .ok (.aload_n 0, 1)) ∧ (decode cL_law 234 = .ok (.iload_n 3, 1)) ∧ (decode cL_law 235 = .ok (.iconst 2, 1)) := by decide +kernel
theorem dL_law_220 : decode cL_law 220 = .ok (.invokevirtual 17, 3) := gL_law_36.1
theorem dL_law_223 : decode cL_law 223 = .ok (.pop, 1) := gL_law_36.2.1
theorem dL_law_224 : decode cL_law 224 = .ok (.goto 1393, 3) := gL_law_36.2.2.1
theorem dL_law_227 : decode cL_law 227 = .ok (.aload_n 1, 1) := gL_law_36.2.2.2.1
theorem dL_law_228 : decode cL_law 228 = .ok (.aload_n 0, 1) := gL_law_36.2.2.2.2.1
theorem dL_law_229 : decode cL_law 229 = .ok (.iload_n 3, 1) := gL_law_36.2.2.2.2.2.1
theorem dL_law_230 : decode cL_law 230 = .ok (.iconst 1, 1) := gL_law_36.2.2.2.2.2.2.1
theorem dL_law_231 : decode cL_law 231 = .ok (.iadd, 1) := gL_law_36.2.2.2.2.2.2.2.1
theorem dL_law_232 : decode cL_law 232 = .ok (.iaload, 1) := gL_law_36.2.2.2.2.2.2.2.2.1
theorem dL_law_233 : decode cL_law 233 = .ok (.aload_n 0, 1) := gL_law_36.2.2.2.2.2.2.2.2.2.1
theorem dL_law_234 : decode cL_law 234 = .ok (.iload_n 3, 1) := gL_law_36.2.2.2.2.2.2.2.2.2.2.1
theorem dL_law_235 : decode cL_law 235 = .ok (.iconst 2, 1) := gL_law_36.2.2.2.2.2.2.2.2.2.2.2
theorem gL_law_48 : (decode cL_law 236 = .ok (.iadd, 1)) ∧ (decode cL_law 237 = .ok (.iaload, 1)) ∧ (decode cL_law 238 = .ok (.invokevirtual 18, 3)) ∧ (decode cL_law 241 = .ok (.aload_n 2, 1)) ∧ (decode cL_law 242 = .ok (.aload_n 0, 1)) ∧ (decode cL_law 243 = .ok (.iload_n 3, 1)) ∧ (decode cL_law 244 = .ok (.iconst 1, 1)) ∧ (decode cL_law 245 = .ok (.iadd, 1)) ∧ (decode cL_law 246 = .ok (.iaload, 1)) ∧ (decode cL_law 247 = .ok (.aload_n 0, 1)) ∧ (decode cL_law 248 = .ok (.iload_n 3, 1)) ∧ (decode cL_law 249 = .ok (.iconst 2, 1)) := by decide +kernel
theorem dL_law_236 : decode cL_law 236 = .ok (.iadd, 1) := gL_law_48.1
theorem dL_law_237 : decode cL_law 237 = .ok (.iaload, 1) := gL_law_48.2.1
theorem dL_law_238 : decode cL_law 238 = .ok (.invokevirtual 18, 3) := gL_law_48.2.2.1
theorem dL_law_241 : decode cL_law 241 = .ok (.aload_n 2, 1) := gL_law_48.2.2.2.1
theorem dL_law_242 : decode cL_law 242 = .ok (.aload_n 0, 1) := gL_law_48.2.2.2.2.1
theorem dL_law_243 : decode cL_law 243 = .ok (.iload_n 3, 1) := gL_law_48.2.2.2.2.2.1
theorem dL_law_244 : decode cL_law 244 = .ok (.iconst 1, 1) := gL_law_48.2.2.2.2.2.2.1
theorem dL_law_245 : decode cL_law 245 = .ok (.iadd, 1) := gL_law_48.2.2.2.2.2.2.2.1
theorem dL_law_246 : decode cL_law 246 = .ok (.iaload, 1) := gL_law_48.2.2.2.2.2.2.2.2.1
theorem dL_law_247 : decode cL_law 247 = .ok (.aload_n 0, 1) := gL_law_48.2.2.2.2.2.2.2.2.2.1
theorem dL_law_248 : decode cL_law 248 = .ok (.iload_n 3, 1) := gL_law_48.2.2.2.2.2.2.2.2.2.2.1
theorem dL_law_249 : decode cL_law 249 = .ok (.iconst 2, 1) := gL_law_48.2.2.2.2.2.2.2.2.2.2.2
theorem gL_law_60 : (decode cL_law 250 = .ok (.iadd, 1)) ∧ (decode cL_law 251 = .ok (.iaload, 1)) ∧ (decode cL_law 252 = .ok (.invokevirtual 22, 3)) ∧ (decode cL_law 255 = .ok (.if_icmp .eq 1362, 3)) ∧ (decode cL_law 258 = .ok (.iconst 0, 1)) ∧ (decode cL_law 259 = .ok (.ireturn, 1)) ∧ (decode cL_law 260 = .ok (.aload_n 1, 1)) ∧ (decode cL_law 261 = .ok (.aload_n 0, 1)) ∧ (decode cL_law 262 = .ok (.iload_n 3, 1)) ∧ (decode cL_law 263 = .ok (.iconst 1, 1)) ∧ (decode cL_law 264 = .ok (.iadd, 1)) ∧ (decode cL_law 265 = .ok (.iaload, 1)) := by decide +kernel
theorem dL_law_250 : decode cL_law 250 = .ok (.iadd, 1) := gL_law_60.1
theorem dL_law_251 : decode cL_law 251 = .ok (.iaload, 1) := gL_law_60.2.1
theorem dL_law_252 : decode cL_law 252 = .ok (.invokevirtual 22, 3) := gL_law_60.2.2.1
theorem dL_law_255 : decode cL_law 255 = .ok (.if_icmp .eq 1362, 3) := gL_law_60.2.2.2.1
theorem dL_law_258 : decode cL_law 258 = .ok (.iconst 0, 1) := gL_law_60.2.2.2.2.1
theorem dL_law_259 : decode cL_law 259 = .ok (.ireturn, 1) := gL_law_60.2.2.2.2.2.1
theorem dL_law_260 : decode cL_law 260 = .ok (.aload_n 1, 1) := gL_law_60.2.2.2.2.2.2.1
theorem dL_law_261 : decode cL_law 261 = .ok (.aload_n 0, 1) := gL_law_60.2.2.2.2.2.2.2.1
theorem dL_law_262 : decode cL_law 262 = .ok (.iload_n 3, 1) := gL_law_60.2.2.2.2.2.2.2.2.1
theorem dL_law_263 : decode cL_law 263 = .ok (.iconst 1, 1) := gL_law_60.2.2.2.2.2.2.2.2.2.1
theorem dL_law_264 : decode cL_law 264 = .ok (.iadd, 1) := gL_law_60.2.2.2.2.2.2.2.2.2.2.1
theorem dL_law_265 : decode cL_law 265 = .ok (.iaload, 1) := gL_law_60.2.2.2.2.2.2.2.2.2.2.2
theorem gL_law_72 : (decode cL_law 266 = .ok (.invokevirtual 23, 3)) ∧ (decode cL_law 269 = .ok (.pop, 1)) ∧ (decode cL_law 270 = .ok (.aload_n 2, 1)) ∧ (decode cL_law 271 = .ok (.aload_n 0, 1)) ∧ (decode cL_law 272 = .ok (.iload_n 3, 1)) ∧ (decode cL_law 273 = .ok (.iconst 1, 1)) ∧ (decode cL_law 274 = .ok (.iadd, 1)) ∧ (decode cL_law 275 = .ok (.iaload, 1)) ∧ (decode cL_law 276 = .ok (.invokevirtual 26, 3)) ∧ (decode cL_law 279 = .ok (.pop, 1)) ∧ (decode cL_law 280 = .ok (.goto 1337, 3)) ∧ (decode cL_law 283 = .ok (.aload_n 1, 1)) := by decide +kernel
theorem dL_law_266 : decode cL_law 266 = .ok (.invokevirtual 23, 3) := gL_law_72.1
theorem dL_law_269 : decode cL_law 269 = .ok (.pop, 1) := gL_law_72.2.1
theorem dL_law_270 : decode cL_law 270 = .ok (.aload_n 2, 1) := gL_law_72.2.2.1
theorem dL_law_271 : decode cL_law 271 = .ok (.aload_n 0, 1) := gL_law_72.2.2.2.1
theorem dL_law_272 : decode cL_law 272 = .ok (.iload_n 3, 1) := gL_law_72.2.2.2.2.1
theorem dL_law_273 : decode cL_law 273 = .ok (.iconst 1, 1) := gL_law_72.2.2.2.2.2.1
theorem dL_law_274 : decode cL_law 274 = .ok (.iadd, 1) := gL_law_72.2.2.2.2.2.2.1
theorem dL_law_275 : decode cL_law 275 = .ok (.iaload, 1) := gL_law_72.2.2.2.2.2.2.2.1
theorem dL_law_276 : decode cL_law 276 = .ok (.invokevirtual 26, 3) := gL_law_72.2.2.2.2.2.2.2.2.1
theorem dL_law_279 : decode cL_law 279 = .ok (.pop, 1) := gL_law_72.2.2.2.2.2.2.2.2.2.1
theorem dL_law_280 : decode cL_law 280 = .ok (.goto 1337, 3) := gL_law_72.2.2.2.2.2.2.2.2.2.2.1
theorem dL_law_283 : decode cL_law 283 = .ok (.aload_n 1, 1) := gL_law_72.2.2.2.2.2.2.2.2.2.2.2
theorem gL_law_84 : (decode cL_law 284 = .ok (.aload_n 0, 1)) ∧ (decode cL_law 285 = .ok (.iload_n 3, 1)) ∧ (decode cL_law 286 = .ok (.iconst 1, 1)) ∧ (decode cL_law 287 = .ok (.iadd, 1)) ∧ (decode cL_law 288 = .ok (.iaload, 1)) ∧ (decode cL_law 289 = .ok (.invokevirtual 27, 3)) ∧ (decode cL_law 292 = .ok (.pop, 1)) ∧ (decode cL_law 293 = .ok (.aload_n 2, 1)) ∧ (decode cL_law 294 = .ok (.aload_n 0, 1)) ∧ (decode cL_law 295 = .ok (.iload_n 3, 1)) ∧ (decode cL_law 296 = .ok (.iconst 1, 1)) ∧ (decode cL_law 297 = .ok (.iadd, 1)) := by decide +kernel
theorem dL_law_284 : decode cL_law 284 = .ok (.aload_n 0, 1) := gL_law_84.1
theorem dL_law_285 : decode cL_law 285 = .ok (.iload_n 3, 1) := gL_law_84.2.1
theorem dL_law_286 : decode cL_law 286 = .ok (.iconst 1, 1) := gL_law_84.2.2.1
theorem dL_law_287 : decode cL_law 287 = .ok (.iadd, 1) := gL_law_84.2.2.2.1
theorem dL_law_288 : decode cL_law 288 = .ok (.iaload, 1) := gL_law_84.2.2.2.2.1
theorem dL_law_289 : decode cL_law 289 = .ok (.invokevirtual 27, 3) := gL_law_84.2.2.2.2.2.1
theorem dL_law_292 : decode cL_law 292 = .ok (.pop, 1) := gL_law_84.2.2.2.2.2.2.1
theorem dL_law_293 : decode cL_law 293 = .ok (.aload_n 2, 1) := gL_law_84.2.2.2.2.2.2.2.1
theorem dL_law_294 : decode cL_law 294 = .ok (.aload_n 0, 1) := gL_law_84.2.2.2.2.2.2.2.2.1
theorem dL_law_295 : decode cL_law 295 = .ok (.iload_n 3, 1) := gL_law_84.2.2.2.2.2.2.2.2.2.1
theorem dL_law_296 : decode cL_law 296 = .ok (.iconst 1, 1) := gL_law_84.2.2.2.2.2.2.2.2.2.2.1
theorem dL_law_297 : decode cL_law 297 = .ok (.iadd, 1) := gL_law_84.2.2.2.2.2.2.2.2.2.2.2
theorem gL_law_96 : (decode cL_law 298 = .ok (.iaload, 1)) ∧ (decode cL_law 299 = .ok (.invokevirtual 30, 3)) ∧ (decode cL_law 302 = .ok (.pop, 1)) ∧ (decode cL_law 303 = .ok (.goto 1314, 3)) ∧ (decode cL_law 306 = .ok (.aload_n 1, 1)) ∧ (decode cL_law 307 = .ok (.aload_n 0, 1)) ∧ (decode cL_law 308 = .ok (.iload_n 3, 1)) ∧ (decode cL_law 309 = .ok (.iconst 1, 1)) ∧ (decode cL_law 310 = .ok (.iadd, 1)) ∧ (decode cL_law 311 = .ok (.iaload, 1)) ∧ (decode cL_law 312 = .ok (.aload_n 0, 1)) ∧ (decode cL_law 313 = .ok (.iload_n 3, 1)) := by decide +kernel
theorem dL_law_298 : decode cL_law 298 = .ok (.iaload, 1) := gL_law_96.1
theorem dL_law_299 : decode cL_law 299 = .ok (.invokevirtual 30, 3) := gL_law_96.2.1
theorem dL_law_302 : decode cL_law 302 = .ok (.pop, 1) := gL_law_96.2.2.1
theorem dL_law_303 : decode cL_law 303 = .ok (.goto 1314, 3) := gL_law_96.2.2.2.1
theorem dL_law_306 : decode cL_law 306 = .ok (.aload_n 1, 1) := gL_law_96.2.2.2.2.1
theorem dL_law_307 : decode cL_law 307 = .ok (.aload_n 0, 1) := gL_law_96.2.2.2.2.2.1
theorem dL_law_308 : decode cL_law 308 = .ok (.iload_n 3, 1) := gL_law_96.2.2.2.2.2.2.1
theorem dL_law_309 : decode cL_law 309 = .ok (.iconst 1, 1) := gL_law_96.2.2.2.2.2.2.2.1
theorem dL_law_310 : decode cL_law 310 = .ok (.iadd, 1) := gL_law_96.2.2.2.2.2.2.2.2.1
theorem dL_law_311 : decode cL_law 311 = .ok (.iaload, 1) := gL_law_96.2.2.2.2.2.2.2.2.2.1
theorem dL_law_312 : decode cL_law 312 = .ok (.aload_n 0, 1) := gL_law_96.2.2.2.2.2.2.2.2.2.2.1
theorem dL_law_313 : decode cL_law 313 = .ok (.iload_n 3, 1) := gL_law_96.2.2.2.2.2.2.2.2.2.2.2
theorem gL_law_108 : (decode cL_law 314 = .ok (.iconst 2, 1)) ∧ (decode cL_law 315 = .ok (.iadd, 1)) ∧ (decode cL_law 316 = .ok (.iaload, 1)) ∧ (decode cL_law 317 = .ok (.aload_n 0, 1)) ∧ (decode cL_law 318 = .ok (.iload_n 3, 1)) ∧ (decode cL_law 319 = .ok (.iconst 3, 1)) ∧ (decode cL_law 320 = .ok (.iadd, 1)) ∧ (decode cL_law 321 = .ok (.iaload, 1)) ∧ (decode cL_law 322 = .ok (.aload_n 0, 1)) ∧ (decode cL_law 323 = .ok (.iload_n 3, 1)) ∧ (decode cL_law 324 = .ok (.iconst 4, 1)) ∧ (decode cL_law 325 = .ok (.iadd, 1)) := by decide +kernel
theorem dL_law_314 : decode cL_law 314 = .ok (.iconst 2, 1) := gL_law_108.1
theorem dL_law_315 : decode cL_law 315 = .ok (.iadd, 1) := gL_law_108.2.1
theorem dL_law_316 : decode cL_law 316 = .ok (.iaload, 1) := gL_law_108.2.2.1
theorem dL_law_317 : decode cL_law 317 = .ok (.aload_n 0, 1) := gL_law_108.2.2.2.1
theorem dL_law_318 : decode cL_law 318 = .ok (.iload_n 3, 1) := gL_law_108.2.2.2.2.1
theorem dL_law_319 : decode cL_law 319 = .ok (.iconst 3, 1) := gL_law_108.2.2.2.2.2.1
theorem dL_law_320 : decode cL_law 320 = .ok (.iadd, 1) := gL_law_108.2.2.2.2.2.2.1
theorem dL_law_321 : decode cL_law 321 = .ok (.iaload, 1) := gL_law_108.2.2.2.2.2.2.2.1
theorem dL_law_322 : decode cL_law 322 = .ok (.aload_n 0, 1) := gL_law_108.2.2.2.2.2.2.2.2.1
theorem dL_law_323 : decode cL_law 323 = .ok (.iload_n 3, 1) := gL_law_108.2.2.2.2.2.2.2.2.2.1
theorem dL_law_324 : decode cL_law 324 = .ok (.iconst 4, 1) := gL_law_108.2.2.2.2.2.2.2.2.2.2.1
theorem dL_law_325 : decode cL_law 325 = .ok (.iadd, 1) := gL_law_108.2.2.2.2.2.2.2.2.2.2.2
theorem gL_law_120 : (decode cL_law 326 = .ok (.iaload, 1)) ∧ (decode cL_law 327 = .ok (.aload_n 0, 1)) ∧ (decode cL_law 328 = .ok (.iload_n 3, 1)) ∧ (decode cL_law 329 = .ok (.iconst 5, 1)) ∧ (decode cL_law 330 = .ok (.iadd, 1)) ∧ (decode cL_law 331 = .ok (.iaload, 1)) ∧ (decode cL_law 332 = .ok (.aload_n 0, 1)) ∧ (decode cL_law 333 = .ok (.iload_n 3, 1)) ∧ (decode cL_law 334 = .ok (.bipush 6, 2)) ∧ (decode cL_law 336 = .ok (.iadd, 1)) ∧ (decode cL_law 337 = .ok (.iaload, 1)) ∧ (decode cL_law 338 = .ok (.aload_n 0, 1)) := by decide +kernel
theorem dL_law_326 : decode cL_law 326 = .ok (.iaload, 1) := gL_law_120.1
theorem dL_law_327 : decode cL_law 327 = .ok (.aload_n 0, 1) := gL_law_120.2.1
theorem dL_law_328 : decode cL_law 328 = .ok (.iload_n 3, 1) := gL_law_120.2.2.1
theorem dL_law_329 : decode cL_law 329 = .ok (.iconst 5, 1) := gL_law_120.2.2.2.1
theorem dL_law_330 : decode cL_law 330 = .ok (.iadd, 1) := gL_law_120.2.2.2.2.1
theorem dL_law_331 : decode cL_law 331 = .ok (.iaload, 1) := gL_law_120.2.2.2.2.2.1
theorem dL_law_332 : decode cL_law 332 = .ok (.aload_n 0, 1) := gL_law_120.2.2.2.2.2.2.1
theorem dL_law_333 : decode cL_law 333 = .ok (.iload_n 3, 1) := gL_law_120.2.2.2.2.2.2.2.1
theorem dL_law_334 : decode cL_law 334 = .ok (.bipush 6, 2) := gL_law_120.2.2.2.2.2.2.2.2.1
theorem dL_law_336 : decode cL_law 336 = .ok (.iadd, 1) := gL_law_120.2.2.2.2.2.2.2.2.2.1
theorem dL_law_337 : decode cL_law 337 = .ok (.iaload, 1) := gL_law_120.2.2.2.2.2.2.2.2.2.2.1
theorem dL_law_338 : decode cL_law 338 = .ok (.aload_n 0, 1) := gL_law_120.2.2.2.2.2.2.2.2.2.2.2
theorem gL_law_132 : (decode cL_law 339 = .ok (.iload_n 3, 1)) ∧ (decode cL_law 340 = .ok (.bipush 7, 2)) ∧ (decode cL_law 342 = .ok (.iadd, 1)) ∧ (decode cL_law 343 = .ok (.iaload, 1)) ∧ (decode cL_law 344 = .ok (.aload_n 0, 1)) ∧ (decode cL_law 345 = .ok (.iload_n 3, 1)) ∧ (decode cL_law 346 = .ok (.bipush 8, 2)) ∧ (decode cL_law 348 = .ok (.iadd, 1)) ∧ (decode cL_law 349 = .ok (.iaload, 1)) ∧ (decode cL_law 350 = .ok (.aload_n 0, 1)) ∧ (decode cL_law 351 = .ok (.iload_n 3, 1)) ∧ (decode cL_law 352 = .ok (.bipush 9, 2)) := by decide +kernel
theorem dL_law_339 : decode cL_law 339 = .ok (.iload_n 3, 1) := gL_law_132.1
theorem dL_law_340 : decode cL_law 340 = .ok (.bipush 7, 2) := gL_law_132.2.1
theorem dL_law_342 : decode cL_law 342 = .ok (.iadd, 1) := gL_law_132.2.2.1
theorem dL_law_343 : decode cL_law 343 = .ok (.iaload, 1) := gL_law_132.2.2.2.1
theorem dL_law_344 : decode cL_law 344 = .ok (.aload_n 0, 1) := gL_law_132.2.2.2.2.1
theorem dL_law_345 : decode cL_law 345 = .ok (.iload_n 3, 1) := gL_law_132.2.2.2.2.2.1
theorem dL_law_346 : decode cL_law 346 = .ok (.bipush 8, 2) := gL_law_132.2.2.2.2.2.2.1
theorem dL_law_348 : decode cL_law 348 = .ok (.iadd, 1) := gL_law_132.2.2.2.2.2.2.2.1
theorem dL_law_349 : decode cL_law 349 = .ok (.iaload, 1) := gL_law_132.2.2.2.2.2.2.2.2.1
theorem dL_law_350 : decode cL_law 350 = .ok (.aload_n 0, 1) := gL_law_132.2.2.2.2.2.2.2.2.2.1
theorem dL_law_351 : decode cL_law 351 = .ok (.iload_n 3, 1) := gL_law_132.2.2.2.2.2.2.2.2.2.2.1
theorem dL_law_352 : decode cL_law 352 = .ok (.bipush 9, 2) := gL_law_132.2.2.2.2.2.2.2.2.2.2.2
theorem gL_law_144 : (decode cL_law 354 = .ok (.iadd, 1)) ∧ (decode cL_law 355 = .ok (.iaload, 1)) ∧ (decode cL_law 356 = .ok (.invokevirtual 31, 3)) ∧ (decode cL_law 359 = .ok (.pop, 1)) ∧ (decode cL_law 360 = .ok (.aload_n 2, 1)) ∧ (decode cL_law 361 = .ok (.aload_n 0, 1)) ∧ (decode cL_law 362 = .ok (.iload_n 3, 1)) ∧ (decode cL_law 363 = .ok (.iconst 1, 1)) ∧ (decode cL_law 364 = .ok (.iadd, 1)) ∧ (decode cL_law 365 = .ok (.iaload, 1)) ∧ (decode cL_law 366 = .ok (.aload_n 0, 1)) ∧ (decode cL_law 367 = .ok (.iload_n 3, 1)) := by decide +kernel
theorem dL_law_354 : decode cL_law 354 = .ok (.iadd, 1) := gL_law_144.1
theorem dL_law_355 : decode cL_law 355 = .ok (.iaload, 1) := gL_law_144.2.1
theorem dL_law_356 : decode cL_law 356 = .ok (.invokevirtual 31, 3) := gL_law_144.2.2.1
theorem dL_law_359 : decode cL_law 359 = .ok (.pop, 1) := gL_law_144.2.2.2.1
theorem dL_law_360 : decode cL_law 360 = .ok (.aload_n 2, 1) := gL_law_144.2.2.2.2.1
theorem dL_law_361 : decode cL_law 361 = .ok (.aload_n 0, 1) := gL_law_144.2.2.2.2.2.1
theorem dL_law_362 : decode cL_law 362 = .ok (.iload_n 3, 1) := gL_law_144.2.2.2.2.2.2.1
theorem dL_law_363 : decode cL_law 363 = .ok (.iconst 1, 1) := gL_law_144.2.2.2.2.2.2.2.1
theorem dL_law_364 : decode cL_law 364 = .ok (.iadd, 1) := gL_law_144.2.2.2.2.2.2.2.2.1
theorem dL_law_365 : decode cL_law 365 = .ok (.iaload, 1) := gL_law_144.2.2.2.2.2.2.2.2.2.1
theorem dL_law_366 : decode cL_law 366 = .ok (.aload_n 0, 1) := gL_law_144.2.2.2.2.2.2.2.2.2.2.1
theorem dL_law_367 : decode cL_law 367 = .ok (.iload_n 3, 1) := gL_law_144.2.2.2.2.2.2.2.2.2.2.2
theorem gL_law_156 : (decode cL_law 368 = .ok (.iconst 2, 1)) ∧ (decode cL_law 369 = .ok (.iadd, 1)) ∧ (decode cL_law 370 = .ok (.iaload, 1)) ∧ (decode cL_law 371 = .ok (.aload_n 0, 1)) ∧ (decode cL_law 372 = .ok (.iload_n 3, 1)) ∧ (decode cL_law 373 = .ok (.iconst 3, 1)) ∧ (decode cL_law 374 = .ok (.iadd, 1)) ∧ (decode cL_law 375 = .ok (.iaload, 1)) ∧ (decode cL_law 376 = .ok (.aload_n 0, 1)) ∧ (decode cL_law 377 = .ok (.iload_n 3, 1)) ∧ (decode cL_law 378 = .ok (.iconst 4, 1)) ∧ (decode cL_law 379 = .ok (.iadd, 1)) := by decide +kernel
theorem dL_law_368 : decode cL_law 368 = .ok (.iconst 2, 1) := gL_law_156.1
theorem dL_law_369 : decode cL_law 369 = .ok (.iadd, 1) := gL_law_156.2.1
theorem dL_law_370 : decode cL_law 370 = .ok (.iaload, 1) := gL_law_156.2.2.1
theorem dL_law_371 : decode cL_law 371 = .ok (.aload_n 0, 1) := gL_law_156.2.2.2.1
theorem dL_law_372 : decode cL_law 372 = .ok (.iload_n 3, 1) := gL_law_156.2.2.2.2.1
theorem dL_law_373 : decode cL_law 373 = .ok (.iconst 3, 1) := gL_law_156.2.2.2.2.2.1
theorem dL_law_374 : decode cL_law 374 = .ok (.iadd, 1) := gL_law_156.2.2.2.2.2.2.1
theorem dL_law_375 : decode cL_law 375 = .ok (.iaload, 1) := gL_law_156.2.2.2.2.2.2.2.1
theorem dL_law_376 : decode cL_law 376 = .ok (.aload_n 0, 1) := gL_law_156.2.2.2.2.2.2.2.2.1
theorem dL_law_377 : decode cL_law 377 = .ok (.iload_n 3, 1) := gL_law_156.2.2.2.2.2.2.2.2.2.1
theorem dL_law_378 : decode cL_law 378 = .ok (.iconst 4, 1) := gL_law_156.2.2.2.2.2.2.2.2.2.2.1
theorem dL_law_379 : decode cL_law 379 = .ok (.iadd, 1) := gL_law_156.2.2.2.2.2.2.2.2.2.2.2
theorem gL_law_168 : (decode cL_law 380 = .ok (.iaload, 1)) ∧ (decode cL_law 381 = .ok (.aload_n 0, 1)) ∧ (decode cL_law 382 = .ok (.iload_n 3, 1)) ∧ (decode cL_law 383 = .ok (.iconst 5, 1)) ∧ (decode cL_law 384 = .ok (.iadd, 1)) ∧ (decode cL_law 385 = .ok (.iaload, 1)) ∧ (decode cL_law 386 = .ok (.aload_n 0, 1)) ∧ (decode cL_law 387 = .ok (.iload_n 3, 1)) ∧ (decode cL_law 388 = .ok (.bipush 6, 2)) ∧ (decode cL_law 390 = .ok (.iadd, 1)) ∧ (decode cL_law 391 = .ok (.iaload, 1)) ∧ (decode cL_law 392 = .ok (.aload_n 0, 1)) := by decide +kernel
theorem dL_law_380 : decode cL_law 380 = .ok (.iaload, 1) := gL_law_168.1
theorem dL_law_381 : decode cL_law 381 = .ok (.aload_n 0, 1) := gL_law_168.2.1
theorem dL_law_382 : decode cL_law 382 = .ok (.iload_n 3, 1) := gL_law_168.2.2.1
theorem dL_law_383 : decode cL_law 383 = .ok (.iconst 5, 1) := gL_law_168.2.2.2.1
theorem dL_law_384 : decode cL_law 384 = .ok (.iadd, 1) := gL_law_168.2.2.2.2.1
theorem dL_law_385 : decode cL_law 385 = .ok (.iaload, 1) := gL_law_168.2.2.2.2.2.1
theorem dL_law_386 : decode cL_law 386 = .ok (.aload_n 0, 1) := gL_law_168.2.2.2.2.2.2.1
theorem dL_law_387 : decode cL_law 387 = .ok (.iload_n 3, 1) := gL_law_168.2.2.2.2.2.2.2.1
theorem dL_law_388 : decode cL_law 388 = .ok (.bipush 6, 2) := gL_law_168.2.2.2.2.2.2.2.2.1
theorem dL_law_390 : decode cL_law 390 = .ok (.iadd, 1) := gL_law_168.2.2.2.2.2.2.2.2.2.1
theorem dL_law_391 : decode cL_law 391 = .ok (.iaload, 1) := gL_law_168.2.2.2.2.2.2.2.2.2.2.1
theorem dL_law_392 : decode cL_law 392 = .ok (.aload_n 0, 1) := gL_law_168.2.2.2.2.2.2.2.2.2.2.2
theorem gL_law_180 : (decode cL_law 393 = .ok (.iload_n 3, 1)) ∧ (decode cL_law 394 = .ok (.bipush 7, 2)) ∧ (decode cL_law 396 = .ok (.iadd, 1)) ∧ (decode cL_law 397 = .ok (.iaload, 1)) ∧ (decode cL_law 398 = .ok (.aload_n 0, 1)) ∧ (decode cL_law 399 = .ok (.iload_n 3, 1)) ∧ (decode cL_law 400 = .ok (.bipush 8, 2)) ∧ (decode cL_law 402 = .ok (.iadd, 1)) ∧ (decode cL_law 403 = .ok (.iaload, 1)) ∧ (decode cL_law 404 = .ok (.aload_n 0, 1)) ∧ (decode cL_law 405 = .ok (.iload_n 3, 1)) ∧ (decode cL_law 406 = .ok (.bipush 9, 2)) := by decide +kernel
theorem dL_law_393 : decode cL_law 393 = .ok (.iload_n 3, 1) := gL_law_180.1
theorem dL_law_394 : decode cL_law 394 = .ok (.bipush 7, 2) := gL_law_180.2.1
theorem dL_law_396 : decode cL_law 396 = .ok (.iadd, 1) := gL_law_180.2.2.1
theorem dL_law_397 : decode cL_law 397 = .ok (.iaload, 1) := gL_law_180.2.2.2.1
theorem dL_law_398 : decode cL_law 398 = .ok (.aload_n 0, 1) := gL_law_180.2.2.2.2.1
theorem dL_law_399 : decode cL_law 399 = .ok (.iload_n 3, 1) := gL_law_180.2.2.2.2.2.1
theorem dL_law_400 : decode cL_law 400 = .ok (.bipush 8, 2) := gL_law_180.2.2.2.2.2.2.1
theorem dL_law_402 : decode cL_law 402 = .ok (.iadd, 1) := gL_law_180.2.2.2.2.2.2.2.1
theorem dL_law_403 : decode cL_law 403 = .ok (.iaload, 1) := gL_law_180.2.2.2.2.2.2.2.2.1
theorem dL_law_404 : decode cL_law 404 = .ok (.aload_n 0, 1) := gL_law_180.2.2.2.2.2.2.2.2.2.1
theorem dL_law_405 : decode cL_law 405 = .ok (.iload_n 3, 1) := gL_law_180.2.2.2.2.2.2.2.2.2.2.1
theorem dL_law_406 : decode cL_law 406 = .ok (.bipush 9, 2) := gL_law_180.2.2.2.2.2.2.2.2.2.2.2
theorem gL_law_192 : (decode cL_law 408 = .ok (.iadd, 1)) ∧ (decode cL_law 409 = .ok (.iaload, 1)) ∧ (decode cL_law 410 = .ok (.invokevirtual 35, 3)) ∧ (decode cL_law 413 = .ok (.pop, 1)) ∧ (decode cL_law 414 = .ok (.goto 1203, 3)) ∧ (decode cL_law 417 = .ok (.aload_n 1, 1)) ∧ (decode cL_law 418 = .ok (.aload_n 0, 1)) ∧ (decode cL_law 419 = .ok (.iload_n 3, 1)) ∧ (decode cL_law 420 = .ok (.iconst 1, 1)) ∧ (decode cL_law 421 = .ok (.iadd, 1)) ∧ (decode cL_law 422 = .ok (.iaload, 1)) ∧ (decode cL_law 423 = .ok (.aload_n 0, 1)) := by decide +kernel
theorem dL_law_408 : decode cL_law 408 = .ok (.iadd, 1) := gL_law_192.1
theorem dL_law_409 : decode cL_law 409 = .ok (.iaload, 1) := gL_law_192.2.1
theorem dL_law_410 : decode cL_law 410 = .ok (.invokevirtual 35, 3) := gL_law_192.2.2.1
theorem dL_law_413 : decode cL_law 413 = .ok (.pop, 1) := gL_law_192.2.2.2.1
theorem dL_law_414 : decode cL_law 414 = .ok (.goto 1203, 3) := gL_law_192.2.2.2.2.1
theorem dL_law_417 : decode cL_law 417 = .ok (.aload_n 1, 1) := gL_law_192.2.2.2.2.2.1
theorem dL_law_418 : decode cL_law 418 = .ok (.aload_n 0, 1) := gL_law_192.2.2.2.2.2.2.1
theorem dL_law_419 : decode cL_law 419 = .ok (.iload_n 3, 1) := gL_law_192.2.2.2.2.2.2.2.1
theorem dL_law_420 : decode cL_law 420 = .ok (.iconst 1, 1) := gL_law_192.2.2.2.2.2.2.2.2.1
theorem dL_law_421 : decode cL_law 421 = .ok (.iadd, 1) := gL_law_192.2.2.2.2.2.2.2.2.2.1
theorem dL_law_422 : decode cL_law 422 = .ok (.iaload, 1) := gL_law_192.2.2.2.2.2.2.2.2.2.2.1
theorem dL_law_423 : decode cL_law 423 = .ok (.aload_n 0, 1) := gL_law_192.2.2.2.2.2.2.2.2.2.2.2
theorem gL_law_204 : (decode cL_law 424 = .ok (.iload_n 3, 1)) ∧ (decode cL_law 425 = .ok (.iconst 2, 1)) ∧ (decode cL_law 426 = .ok (.iadd, 1)) ∧ (decode cL_law 427 = .ok (.iaload, 1)) ∧ (decode cL_law 428 = .ok (.invokevirtual 36, 3)) ∧ (decode cL_law 431 = .ok (.pop, 1)) ∧ (decode cL_law 432 = .ok (.aload_n 2, 1)) ∧ (decode cL_law 433 = .ok (.aload_n 0, 1)) ∧ (decode cL_law 434 = .ok (.iload_n 3, 1)) ∧ (decode cL_law 435 = .ok (.iconst 1, 1)) ∧ (decode cL_law 436 = .ok (.iadd, 1)) ∧ (decode cL_law 437 = .ok (.iaload, 1)) := by decide +kernel
theorem dL_law_424 : decode cL_law 424 = .ok (.iload_n 3, 1) := gL_law_204.1
theorem dL_law_425 : decode cL_law 425 = .ok (.iconst 2, 1) := gL_law_204.2.1
theorem dL_law_426 : decode cL_law 426 = .ok (.iadd, 1) := gL_law_204.2.2.1
theorem dL_law_427 : decode cL_law 427 = .ok (.iaload, 1) := gL_law_204.2.2.2.1
theorem dL_law_428 : decode cL_law 428 = .ok (.invokevirtual 36, 3) := gL_law_204.2.2.2.2.1
theorem dL_law_431 : decode cL_law 431 = .ok (.pop, 1) := gL_law_204.2.2.2.2.2.1
theorem dL_law_432 : decode cL_law 432 = .ok (.aload_n 2, 1) := gL_law_204.2.2.2.2.2.2.1
theorem dL_law_433 : decode cL_law 433 = .ok (.aload_n 0, 1) := gL_law_204.2.2.2.2.2.2.2.1
theorem dL_law_434 : decode cL_law 434 = .ok (.iload_n 3, 1) := gL_law_204.2.2.2.2.2.2.2.2.1
theorem dL_law_435 : decode cL_law 435 = .ok (.iconst 1, 1) := gL_law_204.2.2.2.2.2.2.2.2.2.1
theorem dL_law_436 : decode cL_law 436 = .ok (.iadd, 1) := gL_law_204.2.2.2.2.2.2.2.2.2.2.1
theorem dL_law_437 : decode cL_law 437 = .ok (.iaload, 1) := gL_law_204.2.2.2.2.2.2.2.2.2.2.2
theorem gL_law_216 : (decode cL_law 438 = .ok (.aload_n 0, 1)) ∧ (decode cL_law 439 = .ok (.iload_n 3, 1)) ∧ (decode cL_law 440 = .ok (.iconst 2, 1)) ∧ (decode cL_law 441 = .ok (.iadd, 1)) ∧ (decode cL_law 442 = .ok (.iaload, 1)) ∧ (decode cL_law 443 = .ok (.invokevirtual 39, 3)) ∧ (decode cL_law 446 = .ok (.pop, 1)) ∧ (decode cL_law 447 = .ok (.goto 1170, 3)) ∧ (decode cL_law 450 = .ok (.aload_n 1, 1)) ∧ (decode cL_law 451 = .ok (.aload_n 0, 1)) ∧ (decode cL_law 452 = .ok (.iload_n 3, 1)) ∧ (decode cL_law 453 = .ok (.iconst 1, 1)) := by decide +kernel
theorem dL_law_438 : decode cL_law 438 = .ok (.aload_n 0, 1) := gL_law_216.1
theorem dL_law_439 : decode cL_law 439 = .ok (.iload_n 3, 1) := gL_law_216.2.1
theorem dL_law_440 : decode cL_law 440 = .ok (.iconst 2, 1) := gL_law_216.2.2.1
theorem dL_law_441 : decode cL_law 441 = .ok (.iadd, 1) := gL_law_216.2.2.2.1
theorem dL_law_442 : decode cL_law 442 = .ok (.iaload, 1) := gL_law_216.2.2.2.2.1
theorem dL_law_443 : decode cL_law 443 = .ok (.invokevirtual 39, 3) := gL_law_216.2.2.2.2.2.1
theorem dL_law_446 : decode cL_law 446 = .ok (.pop, 1) := gL_law_216.2.2.2.2.2.2.1
theorem dL_law_447 : decode cL_law 447 = .ok (.goto 1170, 3) := gL_law_216.2.2.2.2.2.2.2.1
theorem dL_law_450 : decode cL_law 450 = .ok (.aload_n 1, 1) := gL_law_216.2.2.2.2.2.2.2.2.1
theorem dL_law_451 : decode cL_law 451 = .ok (.aload_n 0, 1) := gL_law_216.2.2.2.2.2.2.2.2.2.1
theorem dL_law_452 : decode cL_law 452 = .ok (.iload_n 3, 1) := gL_law_216.2.2.2.2.2.2.2.2.2.2.1
theorem dL_law_453 : decode cL_law 453 = .ok (.iconst 1, 1) := gL_law_216.2.2.2.2.2.2.2.2.2.2.2
theorem gL_law_228 : (decode cL_law 454 = .ok (.iadd, 1)) ∧ (decode cL_law 455 = .ok (.iaload, 1)) ∧ (decode cL_law 456 = .ok (.aload_n 0, 1)) ∧ (decode cL_law 457 = .ok (.iload_n 3, 1)) ∧ (decode cL_law 458 = .ok (.iconst 2, 1)) ∧ (decode cL_law 459 = .ok (.iadd, 1)) ∧ (decode cL_law 460 = .ok (.iaload, 1)) ∧ (decode cL_law 461 = .ok (.invokevirtual 40, 3)) ∧ (decode cL_law 464 = .ok (.pop, 1)) ∧ (decode cL_law 465 = .ok (.aload_n 2, 1)) ∧ (decode cL_law 466 = .ok (.aload_n 0, 1)) ∧ (decode cL_law 467 = .ok (.iload_n 3, 1)) := by decide +kernel
theorem dL_law_454 : decode cL_law 454 = .ok (.iadd, 1) := gL_law_228.1
theorem dL_law_455 : decode cL_law 455 = .ok (.iaload, 1) := gL_law_228.2.1
theorem dL_law_456 : decode cL_law 456 = .ok (.aload_n 0, 1) := gL_law_228.2.2.1
theorem dL_law_457 : decode cL_law 457 = .ok (.iload_n 3, 1) := gL_law_228.2.2.2.1
theorem dL_law_458 : decode cL_law 458 = .ok (.iconst 2, 1) := gL_law_228.2.2.2.2.1
theorem dL_law_459 : decode cL_law 459 = .ok (.iadd, 1) := gL_law_228.2.2.2.2.2.1
theorem dL_law_460 : decode cL_law 460 = .ok (.iaload, 1) := gL_law_228.2.2.2.2.2.2.1
theorem dL_law_461 : decode cL_law 461 = .ok (.invokevirtual 40, 3) := gL_law_228.2.2.2.2.2.2.2.1
theorem dL_law_464 : decode cL_law 464 = .ok (.pop, 1) := gL_law_228.2.2.2.2.2.2.2.2.1
theorem dL_law_465 : decode cL_law 465 = .ok (.aload_n 2, 1) := gL_law_228.2.2.2.2.2.2.2.2.2.1
theorem dL_law_466 : decode cL_law 466 = .ok (.aload_n 0, 1) := gL_law_228.2.2.2.2.2.2.2.2.2.2.1
theorem dL_law_467 : decode cL_law 467 = .ok (.iload_n 3, 1) := gL_law_228.2.2.2.2.2.2.2.2.2.2.2
theorem gL_law_240 : (decode cL_law 468 = .ok (.iconst 1, 1)) ∧ (decode cL_law 469 = .ok (.iadd, 1)) ∧ (decode cL_law 470 = .ok (.iaload, 1)) ∧ (decode cL_law 471 = .ok (.aload_n 0, 1)) ∧ (decode cL_law 472 = .ok (.iload_n 3, 1)) ∧ (decode cL_law 473 = .ok (.iconst 2, 1)) ∧ (decode cL_law 474 = .ok (.iadd, 1)) ∧ (decode cL_law 475 = .ok (.iaload, 1)) ∧ (decode cL_law 476 = .ok (.invokevirtual 43, 3)) ∧ (decode cL_law 479 = .ok (.pop, 1)) ∧ (decode cL_law 480 = .ok (.goto 1137, 3)) ∧ (decode cL_law 483 = .ok (.aload_n 1, 1)) := by decide +kernel
theorem dL_law_468 : decode cL_law 468 = .ok (.iconst 1, 1) := gL_law_240.1
theorem dL_law_469 : decode cL_law 469 = .ok (.iadd, 1) := gL_law_240.2.1
theorem dL_law_470 : decode cL_law 470 = .ok (.iaload, 1) := gL_law_240.2.2.1
theorem dL_law_471 : decode cL_law 471 = .ok (.aload_n 0, 1) := gL_law_240.2.2.2.1
theorem dL_law_472 : decode cL_law 472 = .ok (.iload_n 3, 1) := gL_law_240.2.2.2.2.1
theorem dL_law_473 : decode cL_law 473 = .ok (.iconst 2, 1) := gL_law_240.2.2.2.2.2.1
theorem dL_law_474 : decode cL_law 474 = .ok (.iadd, 1) := gL_law_240.2.2.2.2.2.2.1
theorem dL_law_475 : decode cL_law 475 = .ok (.iaload, 1) := gL_law_240.2.2.2.2.2.2.2.1
theorem dL_law_476 : decode cL_law 476 = .ok (.invokevirtual 43, 3) := gL_law_240.2.2.2.2.2.2.2.2.1
theorem dL_law_479 : decode cL_law 479 = .ok (.pop, 1) := gL_law_240.2.2.2.2.2.2.2.2.2.1
theorem dL_law_480 : decode cL_law 480 = .ok (.goto 1137, 3) := gL_law_240.2.2.2.2.2.2.2.2.2.2.1
theorem dL_law_483 : decode cL_law 483 = .ok (.aload_n 1, 1) := gL_law_240.2.2.2.2.2.2.2.2.2.2.2
theorem gL_law_252 : (decode cL_law 484 = .ok (.aload_n 0, 1)) ∧ (decode cL_law 485 = .ok (.iload_n 3, 1)) ∧ (decode cL_law 486 = .ok (.iconst 1, 1)) ∧ (decode cL_law 487 = .ok (.iadd, 1)) ∧ (decode cL_law 488 = .ok (.iaload, 1)) ∧ (decode cL_law 489 = .ok (.aload_n 0, 1)) ∧ (decode cL_law 490 = .ok (.iload_n 3, 1)) ∧ (decode cL_law 491 = .ok (.iconst 2, 1)) ∧ (decode cL_law 492 = .ok (.iadd, 1)) ∧ (decode cL_law 493 = .ok (.iaload, 1)) ∧ (decode cL_law 494 = .ok (.invokevirtual 44, 3)) ∧ (decode cL_law 497 = .ok (.pop, 1)) := by decide +kernel
theorem dL_law_484 : decode cL_law 484 = .ok (.aload_n 0, 1) := gL_law_252.1
theorem dL_law_485 : decode cL_law 485 = .ok (.iload_n 3, 1) := gL_law_252.2.1
theorem dL_law_486 : decode cL_law 486 = .ok (.iconst 1, 1) := gL_law_252.2.2.1
theorem dL_law_487 : decode cL_law 487 = .ok (.iadd, 1) := gL_law_252.2.2.2.1
theorem dL_law_488 : decode cL_law 488 = .ok (.iaload, 1) := gL_law_252.2.2.2.2.1
theorem dL_law_489 : decode cL_law 489 = .ok (.aload_n 0, 1) := gL_law_252.2.2.2.2.2.1
theorem dL_law_490 : decode cL_law 490 = .ok (.iload_n 3, 1) := gL_law_252.2.2.2.2.2.2.1
theorem dL_law_491 : decode cL_law 491 = .ok (.iconst 2, 1) := gL_law_252.2.2.2.2.2.2.2.1
theorem dL_law_492 : decode cL_law 492 = .ok (.iadd, 1) := gL_law_252.2.2.2.2.2.2.2.2.1
theorem dL_law_493 : decode cL_law 493 = .ok (.iaload, 1) := gL_law_252.2.2.2.2.2.2.2.2.2.1
theorem dL_law_494 : decode cL_law 494 = .ok (.invokevirtual 44, 3) := gL_law_252.2.2.2.2.2.2.2.2.2.2.1
theorem dL_law_497 : decode cL_law 497 = .ok (.pop, 1) := gL_law_252.2.2.2.2.2.2.2.2.2.2.2
theorem gL_law_264 : (decode cL_law 498 = .ok (.aload_n 2, 1)) ∧ (decode cL_law 499 = .ok (.aload_n 0, 1)) ∧ (decode cL_law 500 = .ok (.iload_n 3, 1)) ∧ (decode cL_law 501 = .ok (.iconst 1, 1)) ∧ (decode cL_law 502 = .ok (.iadd, 1)) ∧ (decode cL_law 503 = .ok (.iaload, 1)) ∧ (decode cL_law 504 = .ok (.aload_n 0, 1)) ∧ (decode cL_law 505 = .ok (.iload_n 3, 1)) ∧ (decode cL_law 506 = .ok (.iconst 2, 1)) ∧ (decode cL_law 507 = .ok (.iadd, 1)) ∧ (decode cL_law 508 = .ok (.iaload, 1)) ∧ (decode cL_law 509 = .ok (.invokevirtual 47, 3)) := by decide +kernel
theorem dL_law_498 : decode cL_law 498 = .ok (.aload_n 2, 1) := gL_law_264.1
theorem dL_law_499 : decode cL_law 499 = .ok (.aload_n 0, 1) := gL_law_264.2.1
theorem dL_law_500 : decode cL_law 500 = .ok (.iload_n 3, 1) := gL_law_264.2.2.1
theorem dL_law_501 : decode cL_law 501 = .ok (.iconst 1, 1) := gL_law_264.2.2.2.1
theorem dL_law_502 : decode cL_law 502 = .ok (.iadd, 1) := gL_law_264.2.2.2.2.1
theorem dL_law_503 : decode cL_law 503 = .ok (.iaload, 1) := gL_law_264.2.2.2.2.2.1
theorem dL_law_504 : decode cL_law 504 = .ok (.aload_n 0, 1) := gL_law_264.2.2.2.2.2.2.1
theorem dL_law_505 : decode cL_law 505 = .ok (.iload_n 3, 1) := gL_law_264.2.2.2.2.2.2.2.1
theorem dL_law_506 : decode cL_law 506 = .ok (.iconst 2, 1) := gL_law_264.2.2.2.2.2.2.2.2.1
theorem dL_law_507 : decode cL_law 507 = .ok (.iadd, 1) := gL_law_264.2.2.2.2.2.2.2.2.2.1
theorem dL_law_508 : decode cL_law 508 = .ok (.iaload, 1) := gL_law_264.2.2.2.2.2.2.2.2.2.2.1
theorem dL_law_509 : decode cL_law 509 = .ok (.invokevirtual 47, 3) := gL_law_264.2.2.2.2.2.2.2.2.2.2.2
theorem gL_law_276 : (decode cL_law 512 = .ok (.pop, 1)) ∧ (decode cL_law 513 = .ok (.goto 1104, 3)) ∧ (decode cL_law 516 = .ok (.aload_n 1, 1)) ∧ (decode cL_law 517 = .ok (.aload_n 0, 1)) ∧ (decode cL_law 518 = .ok (.iload_n 3, 1)) ∧ (decode cL_law 519 = .ok (.iconst 1, 1)) ∧ (decode cL_law 520 = .ok (.iadd, 1)) ∧ (decode cL_law 521 = .ok (.iaload, 1)) ∧ (decode cL_law 522 = .ok (.aload_n 0, 1)) ∧ (decode cL_law 523 = .ok (.iload_n 3, 1)) ∧ (decode cL_law 524 = .ok (.iconst 2, 1)) ∧ (decode cL_law 525 = .ok (.iadd, 1)) := by decide +kernel
theorem dL_law_512 : decode cL_law 512 = .ok (.pop, 1) := gL_law_276.1
theorem dL_law_513 : decode cL_law 513 = .ok (.goto 1104, 3) := gL_law_276.2.1
theorem dL_law_516 : decode cL_law 516 = .ok (.aload_n 1, 1) := gL_law_276.2.2.1
theorem dL_law_517 : decode cL_law 517 = .ok (.aload_n 0, 1) := gL_law_276.2.2.2.1
theorem dL_law_518 : decode cL_law 518 = .ok (.iload_n 3, 1) := gL_law_276.2.2.2.2.1
theorem dL_law_519 : decode cL_law 519 = .ok (.iconst 1, 1) := gL_law_276.2.2.2.2.2.1
theorem dL_law_520 : decode cL_law 520 = .ok (.iadd, 1) := gL_law_276.2.2.2.2.2.2.1
theorem dL_law_521 : decode cL_law 521 = .ok (.iaload, 1) := gL_law_276.2.2.2.2.2.2.2.1
theorem dL_law_522 : decode cL_law 522 = .ok (.aload_n 0, 1) := gL_law_276.2.2.2.2.2.2.2.2.1
theorem dL_law_523 : decode cL_law 523 = .ok (.iload_n 3, 1) := gL_law_276.2.2.2.2.2.2.2.2.2.1
theorem dL_law_524 : decode cL_law 524 = .ok (.iconst 2, 1) := gL_law_276.2.2.2.2.2.2.2.2.2.2.1
theorem dL_law_525 : decode cL_law 525 = .ok (.iadd, 1) := gL_law_276.2.2.2.2.2.2.2.2.2.2.2
theorem gL_law_288 : (decode cL_law 526 = .ok (.iaload, 1)) ∧ (decode cL_law 527 = .ok (.aload_n 0, 1)) ∧ (decode cL_law 528 = .ok (.iload_n 3, 1)) ∧ (decode cL_law 529 = .ok (.iconst 3, 1)) ∧ (decode cL_law 530 = .ok (.iadd, 1)) ∧ (decode cL_law 531 = .ok (.iaload, 1)) ∧ (decode cL_law 532 = .ok (.aload_n 0, 1)) ∧ (decode cL_law 533 = .ok (.iload_n 3, 1)) ∧ (decode cL_law 534 = .ok (.iconst 4, 1)) ∧ (decode cL_law 535 = .ok (.iadd, 1)) ∧ (decode cL_law 536 = .ok (.iaload, 1)) ∧ (decode cL_law 537 = .ok (.invokevirtual 48, 3)) := by decide +kernel
theorem dL_law_526 : decode cL_law 526 = .ok (.iaload, 1) := gL_law_288.1
theorem dL_law_527 : decode cL_law 527 = .ok (.aload_n 0, 1) := gL_law_288.2.1
theorem dL_law_528 : decode cL_law 528 = .ok (.iload_n 3, 1) := gL_law_288.2.2.1
theorem dL_law_529 : decode cL_law 529 = .ok (.iconst 3, 1) := gL_law_288.2.2.2.1
theorem dL_law_530 : decode cL_law 530 = .ok (.iadd, 1) := gL_law_288.2.2.2.2.1
theorem dL_law_531 : decode cL_law 531 = .ok (.iaload, 1) := gL_law_288.2.2.2.2.2.1
theorem dL_law_532 : decode cL_law 532 = .ok (.aload_n 0, 1) := gL_law_288.2.2.2.2.2.2.1
theorem dL_law_533 : decode cL_law 533 = .ok (.iload_n 3, 1) := gL_law_288.2.2.2.2.2.2.2.1
theorem dL_law_534 : decode cL_law 534 = .ok (.iconst 4, 1) := gL_law_288.2.2.2.2.2.2.2.2.1
theorem dL_law_535 : decode cL_law 535 = .ok (.iadd, 1) := gL_law_288.2.2.2.2.2.2.2.2.2.1
theorem dL_law_536 : decode cL_law 536 = .ok (.iaload, 1) := gL_law_288.2.2.2.2.2.2.2.2.2.2.1
theorem dL_law_537 : decode cL_law 537 = .ok (.invokevirtual 48, 3) := gL_law_288.2.2.2.2.2.2.2.2.2.2.2
theorem gL_law_300 : (decode cL_law 540 = .ok (.pop, 1)) ∧ (decode cL_law 541 = .ok (.aload_n 2, 1)) ∧ (decode cL_law 542 = .ok (.aload_n 0, 1)) ∧ (decode cL_law 543 = .ok (.iload_n 3, 1)) ∧ (decode cL_law 544 = .ok (.iconst 1, 1)) ∧ (decode cL_law 545 = .ok (.iadd, 1)) ∧ (decode cL_law 546 = .ok (.iaload, 1)) ∧ (decode cL_law 547 = .ok (.aload_n 0, 1)) ∧ (decode cL_law 548 = .ok (.iload_n 3, 1)) ∧ (decode cL_law 549 = .ok (.iconst 2, 1)) ∧ (decode cL_law 550 = .ok (.iadd, 1)) ∧ (decode cL_law 551 = .ok (.iaload, 1)) := by decide +kernel
theorem dL_law_540 : decode cL_law 540 = .ok (.pop, 1) := gL_law_300.1
theorem dL_law_541 : decode cL_law 541 = .ok (.aload_n 2, 1) := gL_law_300.2.1
theorem dL_law_542 : decode cL_law 542 = .ok (.aload_n 0, 1) := gL_law_300.2.2.1
theorem dL_law_543 : decode cL_law 543 = .ok (.iload_n 3, 1) := gL_law_300.2.2.2.1
theorem dL_law_544 : decode cL_law 544 = .ok (.iconst 1, 1) := gL_law_300.2.2.2.2.1
theorem dL_law_545 : decode cL_law 545 = .ok (.iadd, 1) := gL_law_300.2.2.2.2.2.1
theorem dL_law_546 : decode cL_law 546 = .ok (.iaload, 1) := gL_law_300.2.2.2.2.2.2.1
theorem dL_law_547 : decode cL_law 547 = .ok (.aload_n 0, 1) := gL_law_300.2.2.2.2.2.2.2.1
theorem dL_law_548 : decode cL_law 548 = .ok (.iload_n 3, 1) := gL_law_300.2.2.2.2.2.2.2.2.1
theorem dL_law_549 : decode cL_law 549 = .ok (.iconst 2, 1) := gL_law_300.2.2.2.2.2.2.2.2.2.1
theorem dL_law_550 : decode cL_law 550 = .ok (.iadd, 1) := gL_law_300.2.2.2.2.2.2.2.2.2.2.1
theorem dL_law_551 : decode cL_law 551 = .ok (.iaload, 1) := gL_law_300.2.2.2.2.2.2.2.2.2.2.2
theorem gL_law_312 : (decode cL_law 552 = .ok (.aload_n 0, 1)) ∧ (decode cL_law 553 = .ok (.iload_n 3, 1)) ∧ (decode cL_law 554 = .ok (.iconst 3, 1)) ∧ (decode cL_law 555 = .ok (.iadd, 1)) ∧ (decode cL_law 556 = .ok (.iaload, 1)) ∧ (decode cL_law 557 = .ok (.aload_n 0, 1)) ∧ (decode cL_law 558 = .ok (.iload_n 3, 1)) ∧ (decode cL_law 559 = .ok (.iconst 4, 1)) ∧ (decode cL_law 560 = .ok (.iadd, 1)) ∧ (decode cL_law 561 = .ok (.iaload, 1)) ∧ (decode cL_law 562 = .ok (.invokevirtual 52, 3)) ∧ (decode cL_law 565 = .ok (.pop, 1)) := by decide +kernel
theorem dL_law_552 : decode cL_law 552 = .ok (.aload_n 0, 1) := gL_law_312.1
theorem dL_law_553 : decode cL_law 553 = .ok (.iload_n 3, 1) := gL_law_312.2.1
theorem dL_law_554 : decode cL_law 554 = .ok (.iconst 3, 1) := gL_law_312.2.2.1
theorem dL_law_555 : decode cL_law 555 = .ok (.iadd, 1) := gL_law_312.2.2.2.1
theorem dL_law_556 : decode cL_law 556 = .ok (.iaload, 1) := gL_law_312.2.2.2.2.1
theorem dL_law_557 : decode cL_law 557 = .ok (.aload_n 0, 1) := gL_law_312.2.2.2.2.2.1
theorem dL_law_558 : decode cL_law 558 = .ok (.iload_n 3, 1) := gL_law_312.2.2.2.2.2.2.1
theorem dL_law_559 : decode cL_law 559 = .ok (.iconst 4, 1) := gL_law_312.2.2.2.2.2.2.2.1
theorem dL_law_560 : decode cL_law 560 = .ok (.iadd, 1) := gL_law_312.2.2.2.2.2.2.2.2.1
theorem dL_law_561 : decode cL_law 561 = .ok (.iaload, 1) := gL_law_312.2.2.2.2.2.2.2.2.2.1
theorem dL_law_562 : decode cL_law 562 = .ok (.invokevirtual 52, 3) := gL_law_312.2.2.2.2.2.2.2.2.2.2.1
theorem dL_law_565 : decode cL_law 565 = .ok (.pop, 1) := gL_law_312.2.2.2.2.2.2.2.2.2.2.2
theorem gL_law_324 : (decode cL_law 566 = .ok (.goto 1051, 3)) ∧ (decode cL_law 569 = .ok (.aload_n 1, 1)) ∧ (decode cL_law 570 = .ok (.aload_n 0, 1)) ∧ (decode cL_law 571 = .ok (.iload_n 3, 1)) ∧ (decode cL_law 572 = .ok (.iconst 1, 1)) ∧ (decode cL_law 573 = .ok (.iadd, 1)) ∧ (decode cL_law 574 = .ok (.iaload, 1)) ∧ (decode cL_law 575 = .ok (.aload_n 0, 1)) ∧ (decode cL_law 576 = .ok (.iload_n 3, 1)) ∧ (decode cL_law 577 = .ok (.iconst 2, 1)) ∧ (decode cL_law 578 = .ok (.iadd, 1)) ∧ (decode cL_law 579 = .ok (.iaload, 1)) := by decide +kernel
theorem dL_law_566 : decode cL_law 566 = .ok (.goto 1051, 3) := gL_law_324.1
theorem dL_law_569 : decode cL_law 569 = .ok (.aload_n 1, 1) := gL_law_324.2.1
theorem dL_law_570 : decode cL_law 570 = .ok (.aload_n 0, 1) := gL_law_324.2.2.1
theorem dL_law_571 : decode cL_law 571 = .ok (.iload_n 3, 1) := gL_law_324.2.2.2.1
theorem dL_law_572 : decode cL_law 572 = .ok (.iconst 1, 1) := gL_law_324.2.2.2.2.1
theorem dL_law_573 : decode cL_law 573 = .ok (.iadd, 1) := gL_law_324.2.2.2.2.2.1
theorem dL_law_574 : decode cL_law 574 = .ok (.iaload, 1) := gL_law_324.2.2.2.2.2.2.1
theorem dL_law_575 : decode cL_law 575 = .ok (.aload_n 0, 1) := gL_law_324.2.2.2.2.2.2.2.1
theorem dL_law_576 : decode cL_law 576 = .ok (.iload_n 3, 1) := gL_law_324.2.2.2.2.2.2.2.2.1
theorem dL_law_577 : decode cL_law 577 = .ok (.iconst 2, 1) := gL_law_324.2.2.2.2.2.2.2.2.2.1
theorem dL_law_578 : decode cL_law 578 = .ok (.iadd, 1) := gL_law_324.2.2.2.2.2.2.2.2.2.2.1
theorem dL_law_579 : decode cL_law 579 = .ok (.iaload, 1) := gL_law_324.2.2.2.2.2.2.2.2.2.2.2
theorem gL_law_336 : (decode cL_law 580 = .ok (.aload_n 0, 1)) ∧ (decode cL_law 581 = .ok (.iload_n 3, 1)) ∧ (decode cL_law 582 = .ok (.iconst 3, 1)) ∧ (decode cL_law 583 = .ok (.iadd, 1)) ∧ (decode cL_law 584 = .ok (.iaload, 1)) ∧ (decode cL_law 585 = .ok (.ifCond .eq 7, 3)) ∧ (decode cL_law 588 = .ok (.iconst 1, 1)) ∧ (decode cL_law 589 = .ok (.goto 4, 3)) ∧ (decode cL_law 592 = .ok (.iconst 0, 1)) ∧ (decode cL_law 593 = .ok (.invokevirtual 53, 3)) ∧ (decode cL_law 596 = .ok (.pop, 1)) ∧ (decode cL_law 597 = .ok (.aload_n 2, 1)) := by decide +kernel
theorem dL_law_580 : decode cL_law 580 = .ok (.aload_n 0, 1) := gL_law_336.1
theorem dL_law_581 : decode cL_law 581 = .ok (.iload_n 3, 1) := gL_law_336.2.1
theorem dL_law_582 : decode cL_law 582 = .ok (.iconst 3, 1) := gL_law_336.2.2.1
theorem dL_law_583 : decode cL_law 583 = .ok (.iadd, 1) := gL_law_336.2.2.2.1
theorem dL_law_584 : decode cL_law 584 = .ok (.iaload, 1) := gL_law_336.2.2.2.2.1
theorem dL_law_585 : decode cL_law 585 = .ok (.ifCond .eq 7, 3) := gL_law_336.2.2.2.2.2.1
theorem dL_law_588 : decode cL_law 588 = .ok (.iconst 1, 1) := gL_law_336.2.2.2.2.2.2.1
theorem dL_law_589 : decode cL_law 589 = .ok (.goto 4, 3) := gL_law_336.2.2.2.2.2.2.2.1
theorem dL_law_592 : decode cL_law 592 = .ok (.iconst 0, 1) := gL_law_336.2.2.2.2.2.2.2.2.1
theorem dL_law_593 : decode cL_law 593 = .ok (.invokevirtual 53, 3) := gL_law_336.2.2.2.2.2.2.2.2.2.1
theorem dL_law_596 : decode cL_law 596 = .ok (.pop, 1) := gL_law_336.2.2.2.2.2.2.2.2.2.2.1
theorem dL_law_597 : decode cL_law 597 = .ok (.aload_n 2, 1) := gL_law_336.2.2.2.2.2.2.2.2.2.2.2
theorem gL_law_348 : (decode cL_law 598 = .ok (.aload_n 0, 1)) ∧ (decode cL_law 599 = .ok (.iload_n 3, 1)) ∧ (decode cL_law 600 = .ok (.iconst 1, 1)) ∧ (decode cL_law 601 = .ok (.iadd, 1)) ∧ (decode cL_law 602 = .ok (.iaload, 1)) ∧ (decode cL_law 603 = .ok (.aload_n 0, 1)) ∧ (decode cL_law 604 = .ok (.iload_n 3, 1)) ∧ (decode cL_law 605 = .ok (.iconst 2, 1)) ∧ (decode cL_law 606 = .ok (.iadd, 1)) ∧ (decode cL_law 607 = .ok (.iaload, 1)) ∧ (decode cL_law 608 = .ok (.aload_n 0, 1)) ∧ (decode cL_law 609 = .ok (.iload_n 3, 1)) := by decide +kernel
theorem dL_law_598 : decode cL_law 598 = .ok (.aload_n 0, 1) := gL_law_348.1
theorem dL_law_599 : decode cL_law 599 = .ok (.iload_n 3, 1) := gL_law_348.2.1
theorem dL_law_600 : decode cL_law 600 = .ok (.iconst 1, 1) := gL_law_348.2.2.1
theorem dL_law_601 : decode cL_law 601 = .ok (.iadd, 1) := gL_law_348.2.2.2.1
theorem dL_law_602 : decode cL_law 602 = .ok (.iaload, 1) := gL_law_348.2.2.2.2.1
theorem dL_law_603 : decode cL_law 603 = .ok (.aload_n 0, 1) := gL_law_348.2.2.2.2.2.1
theorem dL_law_604 : decode cL_law 604 = .ok (.iload_n 3, 1) := gL_law_348.2.2.2.2.2.2.1
theorem dL_law_605 : decode cL_law 605 = .ok (.iconst 2, 1) := gL_law_348.2.2.2.2.2.2.2.1
theorem dL_law_606 : decode cL_law 606 = .ok (.iadd, 1) := gL_law_348.2.2.2.2.2.2.2.2.1
theorem dL_law_607 : decode cL_law 607 = .ok (.iaload, 1) := gL_law_348.2.2.2.2.2.2.2.2.2.1
theorem dL_law_608 : decode cL_law 608 = .ok (.aload_n 0, 1) := gL_law_348.2.2.2.2.2.2.2.2.2.2.1
theorem dL_law_609 : decode cL_law 609 = .ok (.iload_n 3, 1) := gL_law_348.2.2.2.2.2.2.2.2.2.2.2
theorem gL_law_360 : (decode cL_law 610 = .ok (.iconst 3, 1)) ∧ (decode cL_law 611 = .ok (.iadd, 1)) ∧ (decode cL_law 612 = .ok (.iaload, 1)) ∧ (decode cL_law 613 = .ok (.ifCond .eq 7, 3)) ∧ (decode cL_law 616 = .ok (.iconst 1, 1)) ∧ (decode cL_law 617 = .ok (.goto 4, 3)) ∧ (decode cL_law 620 = .ok (.iconst 0, 1)) ∧ (decode cL_law 621 = .ok (.invokevirtual 57, 3)) ∧ (decode cL_law 624 = .ok (.pop, 1)) ∧ (decode cL_law 625 = .ok (.goto 992, 3)) ∧ (decode cL_law 628 = .ok (.aload_n 1, 1)) ∧ (decode cL_law 629 = .ok (.aload_n 0, 1)) := by decide +kernel
theorem dL_law_610 : decode cL_law 610 = .ok (.iconst 3, 1) := gL_law_360.1
theorem dL_law_611 : decode cL_law 611 = .ok (.iadd, 1) := gL_law_360.2.1
theorem dL_law_612 : decode cL_law 612 = .ok (.iaload, 1) := gL_law_360.2.2.1
theorem dL_law_613 : decode cL_law 613 = .ok (.ifCond .eq 7, 3) := gL_law_360.2.2.2.1
theorem dL_law_616 : decode cL_law 616 = .ok (.iconst 1, 1) := gL_law_360.2.2.2.2.1
theorem dL_law_617 : decode cL_law 617 = .ok (.goto 4, 3) := gL_law_360.2.2.2.2.2.1
theorem dL_law_620 : decode cL_law 620 = .ok (.iconst 0, 1) := gL_law_360.2.2.2.2.2.2.1
theorem dL_law_621 : decode cL_law 621 = .ok (.invokevirtual 57, 3) := gL_law_360.2.2.2.2.2.2.2.1
theorem dL_law_624 : decode cL_law 624 = .ok (.pop, 1) := gL_law_360.2.2.2.2.2.2.2.2.1
theorem dL_law_625 : decode cL_law 625 = .ok (.goto 992, 3) := gL_law_360.2.2.2.2.2.2.2.2.2.1
theorem dL_law_628 : decode cL_law 628 = .ok (.aload_n 1, 1) := gL_law_360.2.2.2.2.2.2.2.2.2.2.1
theorem dL_law_629 : decode cL_law 629 = .ok (.aload_n 0, 1) := gL_law_360.2.2.2.2.2.2.2.2.2.2.2
theorem gL_law_372 : (decode cL_law 630 = .ok (.iload_n 3, 1)) ∧ (decode cL_law 631 = .ok (.iconst 1, 1)) ∧ (decode cL_law 632 = .ok (.iadd, 1)) ∧ (decode cL_law 633 = .ok (.iaload, 1)) ∧ (decode cL_law 634 = .ok (.aload_n 0, 1)) ∧ (decode cL_law 635 = .ok (.iload_n 3, 1)) ∧ (decode cL_law 636 = .ok (.iconst 2, 1)) ∧ (decode cL_law 637 = .ok (.iadd, 1)) ∧ (decode cL_law 638 = .ok (.iaload, 1)) ∧ (decode cL_law 639 = .ok (.aload_n 0, 1)) ∧ (decode cL_law 640 = .ok (.iload_n 3, 1)) ∧ (decode cL_law 641 = .ok (.iconst 3, 1)) := by decide +kernel
theorem dL_law_630 : decode cL_law 630 = .ok (.iload_n 3, 1) := gL_law_372.1
theorem dL_law_631 : decode cL_law 631 = .ok (.iconst 1, 1) := gL_law_372.2.1
theorem dL_law_632 : decode cL_law 632 = .ok (.iadd, 1) := gL_law_372.2.2.1
theorem dL_law_633 : decode cL_law 633 = .ok (.iaload, 1) := gL_law_372.2.2.2.1
theorem dL_law_634 : decode cL_law 634 = .ok (.aload_n 0, 1) := gL_law_372.2.2.2.2.1
theorem dL_law_635 : decode cL_law 635 = .ok (.iload_n 3, 1) := gL_law_372.2.2.2.2.2.1
theorem dL_law_636 : decode cL_law 636 = .ok (.iconst 2, 1) := gL_law_372.2.2.2.2.2.2.1
theorem dL_law_637 : decode cL_law 637 = .ok (.iadd, 1) := gL_law_372.2.2.2.2.2.2.2.1
theorem dL_law_638 : decode cL_law 638 = .ok (.iaload, 1) := gL_law_372.2.2.2.2.2.2.2.2.1
theorem dL_law_639 : decode cL_law 639 = .ok (.aload_n 0, 1) := gL_law_372.2.2.2.2.2.2.2.2.2.1
theorem dL_law_640 : decode cL_law 640 = .ok (.iload_n 3, 1) := gL_law_372.2.2.2.2.2.2.2.2.2.2.1
theorem dL_law_641 : decode cL_law 641 = .ok (.iconst 3, 1) := gL_law_372.2.2.2.2.2.2.2.2.2.2.2
theorem gL_law_384 : (decode cL_law 642 = .ok (.iadd, 1)) ∧ (decode cL_law 643 = .ok (.iaload, 1)) ∧ (decode cL_law 644 = .ok (.invokevirtual 58, 3)) ∧ (decode cL_law 647 = .ok (.pop, 1)) ∧ (decode cL_law 648 = .ok (.aload_n 2, 1)) ∧ (decode cL_law 649 = .ok (.aload_n 0, 1)) ∧ (decode cL_law 650 = .ok (.iload_n 3, 1)) ∧ (decode cL_law 651 = .ok (.iconst 1, 1)) ∧ (decode cL_law 652 = .ok (.iadd, 1)) ∧ (decode cL_law 653 = .ok (.iaload, 1)) ∧ (decode cL_law 654 = .ok (.aload_n 0, 1)) ∧ (decode cL_law 655 = .ok (.iload_n 3, 1)) := by decide +kernel
theorem dL_law_642 : decode cL_law 642 = .ok (.iadd, 1) := gL_law_384.1
theorem dL_law_643 : decode cL_law 643 = .ok (.iaload, 1) := gL_law_384.2.1
theorem dL_law_644 : decode cL_law 644 = .ok (.invokevirtual 58, 3) := gL_law_384.2.2.1
theorem dL_law_647 : decode cL_law 647 = .ok (.pop, 1) := gL_law_384.2.2.2.1
theorem dL_law_648 : decode cL_law 648 = .ok (.aload_n 2, 1) := gL_law_384.2.2.2.2.1
theorem dL_law_649 : decode cL_law 649 = .ok (.aload_n 0, 1) := gL_law_384.2.2.2.2.2.1
theorem dL_law_650 : decode cL_law 650 = .ok (.iload_n 3, 1) := gL_law_384.2.2.2.2.2.2.1
theorem dL_law_651 : decode cL_law 651 = .ok (.iconst 1, 1) := gL_law_384.2.2.2.2.2.2.2.1
theorem dL_law_652 : decode cL_law 652 = .ok (.iadd, 1) := gL_law_384.2.2.2.2.2.2.2.2.1
theorem dL_law_653 : decode cL_law 653 = .ok (.iaload, 1) := gL_law_384.2.2.2.2.2.2.2.2.2.1
theorem dL_law_654 : decode cL_law 654 = .ok (.aload_n 0, 1) := gL_law_384.2.2.2.2.2.2.2.2.2.2.1
theorem dL_law_655 : decode cL_law 655 = .ok (.iload_n 3, 1) := gL_law_384.2.2.2.2.2.2.2.2.2.2.2
theorem gL_law_396 : (decode cL_law 656 = .ok (.iconst 2, 1)) ∧ (decode cL_law 657 = .ok (.iadd, 1)) ∧ (decode cL_law 658 = .ok (.iaload, 1)) ∧ (decode cL_law 659 = .ok (.aload_n 0, 1)) ∧ (decode cL_law 660 = .ok (.iload_n 3, 1)) ∧ (decode cL_law 661 = .ok (.iconst 3, 1)) ∧ (decode cL_law 662 = .ok (.iadd, 1)) ∧ (decode cL_law 663 = .ok (.iaload, 1)) ∧ (decode cL_law 664 = .ok (.invokevirtual 62, 3)) ∧ (decode cL_law 667 = .ok (.pop, 1)) ∧ (decode cL_law 668 = .ok (.goto 949, 3)) ∧ (decode cL_law 671 = .ok (.aload_n 1, 1)) := by decide +kernel
theorem dL_law_656 : decode cL_law 656 = .ok (.iconst 2, 1) := gL_law_396.1
theorem dL_law_657 : decode cL_law 657 = .ok (.iadd, 1) := gL_law_396.2.1
theorem dL_law_658 : decode cL_law 658 = .ok (.iaload, 1) := gL_law_396.2.2.1
theorem dL_law_659 : decode cL_law 659 = .ok (.aload_n 0, 1) := gL_law_396.2.2.2.1
theorem dL_law_660 : decode cL_law 660 = .ok (.iload_n 3, 1) := gL_law_396.2.2.2.2.1
theorem dL_law_661 : decode cL_law 661 = .ok (.iconst 3, 1) := gL_law_396.2.2.2.2.2.1
theorem dL_law_662 : decode cL_law 662 = .ok (.iadd, 1) := gL_law_396.2.2.2.2.2.2.1
theorem dL_law_663 : decode cL_law 663 = .ok (.iaload, 1) := gL_law_396.2.2.2.2.2.2.2.1
theorem dL_law_664 : decode cL_law 664 = .ok (.invokevirtual 62, 3) := gL_law_396.2.2.2.2.2.2.2.2.1
theorem dL_law_667 : decode cL_law 667 = .ok (.pop, 1) := gL_law_396.2.2.2.2.2.2.2.2.2.1
theorem dL_law_668 : decode cL_law 668 = .ok (.goto 949, 3) := gL_law_396.2.2.2.2.2.2.2.2.2.2.1
theorem dL_law_671 : decode cL_law 671 = .ok (.aload_n 1, 1) := gL_law_396.2.2.2.2.2.2.2.2.2.2.2
theorem gL_law_408 : (decode cL_law 672 = .ok (.aload_n 0, 1)) ∧ (decode cL_law 673 = .ok (.iload_n 3, 1)) ∧ (decode cL_law 674 = .ok (.iconst 1, 1)) ∧ (decode cL_law 675 = .ok (.iadd, 1)) ∧ (decode cL_law 676 = .ok (.iaload, 1)) ∧ (decode cL_law 677 = .ok (.aload_n 0, 1)) ∧ (decode cL_law 678 = .ok (.iload_n 3, 1)) ∧ (decode cL_law 679 = .ok (.iconst 2, 1)) ∧ (decode cL_law 680 = .ok (.iadd, 1)) ∧ (decode cL_law 681 = .ok (.iaload, 1)) ∧ (decode cL_law 682 = .ok (.i2l, 1)) ∧ (decode cL_law 683 = .ok (.bipush 32, 2)) := by decide +kernel
theorem dL_law_672 : decode cL_law 672 = .ok (.aload_n 0, 1) := gL_law_408.1
theorem dL_law_673 : decode cL_law 673 = .ok (.iload_n 3, 1) := gL_law_408.2.1
theorem dL_law_674 : decode cL_law 674 = .ok (.iconst 1, 1) := gL_law_408.2.2.1
theorem dL_law_675 : decode cL_law 675 = .ok (.iadd, 1) := gL_law_408.2.2.2.1
theorem dL_law_676 : decode cL_law 676 = .ok (.iaload, 1) := gL_law_408.2.2.2.2.1
theorem dL_law_677 : decode cL_law 677 = .ok (.aload_n 0, 1) := gL_law_408.2.2.2.2.2.1
theorem dL_law_678 : decode cL_law 678 = .ok (.iload_n 3, 1) := gL_law_408.2.2.2.2.2.2.1
theorem dL_law_679 : decode cL_law 679 = .ok (.iconst 2, 1) := gL_law_408.2.2.2.2.2.2.2.1
theorem dL_law_680 : decode cL_law 680 = .ok (.iadd, 1) := gL_law_408.2.2.2.2.2.2.2.2.1
theorem dL_law_681 : decode cL_law 681 = .ok (.iaload, 1) := gL_law_408.2.2.2.2.2.2.2.2.2.1
theorem dL_law_682 : decode cL_law 682 = .ok (.i2l, 1) := gL_law_408.2.2.2.2.2.2.2.2.2.2.1
theorem dL_law_683 : decode cL_law 683 = .ok (.bipush 32, 2) := gL_law_408.2.2.2.2.2.2.2.2.2.2.2
theorem gL_law_420 : (decode cL_law 685 = .ok (.lshl, 1)) ∧ (decode cL_law 686 = .ok (.aload_n 0, 1)) ∧ (decode cL_law 687 = .ok (.iload_n 3, 1)) ∧ (decode cL_law 688 = .ok (.iconst 3, 1)) ∧ (decode cL_law 689 = .ok (.iadd, 1)) ∧ (decode cL_law 690 = .ok (.iaload, 1)) ∧ (decode cL_law 691 = .ok (.i2l, 1)) ∧ (decode cL_law 692 = .ok (.ldc2_w 63, 3)) ∧ (decode cL_law 695 = .ok (.land, 1)) ∧ (decode cL_law 696 = .ok (.lor, 1)) ∧ (decode cL_law 697 = .ok (.invokevirtual 65, 3)) ∧ (decode cL_law 700 = .ok (.pop, 1)) := by decide +kernel
theorem dL_law_685 : decode cL_law 685 = .ok (.lshl, 1) := gL_law_420.1
theorem dL_law_686 : decode cL_law 686 = .ok (.aload_n 0, 1) := gL_law_420.2.1
theorem dL_law_687 : decode cL_law 687 = .ok (.iload_n 3, 1) := gL_law_420.2.2.1
theorem dL_law_688 : decode cL_law 688 = .ok (.iconst 3, 1) := gL_law_420.2.2.2.1
theorem dL_law_689 : decode cL_law 689 = .ok (.iadd, 1) := gL_law_420.2.2.2.2.1
theorem dL_law_690 : decode cL_law 690 = .ok (.iaload, 1) := gL_law_420.2.2.2.2.2.1
theorem dL_law_691 : decode cL_law 691 = .ok (.i2l, 1) := gL_law_420.2.2.2.2.2.2.1
theorem dL_law_692 : decode cL_law 692 = .ok (.ldc2_w 63, 3) := gL_law_420.2.2.2.2.2.2.2.1
theorem dL_law_695 : decode cL_law 695 = .ok (.land, 1) := gL_law_420.2.2.2.2.2.2.2.2.1
theorem dL_law_696 : decode cL_law 696 = .ok (.lor, 1) := gL_law_420.2.2.2.2.2.2.2.2.2.1
theorem dL_law_697 : decode cL_law 697 = .ok (.invokevirtual 65, 3) := gL_law_420.2.2.2.2.2.2.2.2.2.2.1
theorem dL_law_700 : decode cL_law 700 = .ok (.pop, 1) := gL_law_420.2.2.2.2.2.2.2.2.2.2.2
theorem gL_law_432 : (decode cL_law 701 = .ok (.aload_n 2, 1)) ∧ (decode cL_law 702 = .ok (.aload_n 0, 1)) ∧ (decode cL_law 703 = .ok (.iload_n 3, 1)) ∧ (decode cL_law 704 = .ok (.iconst 1, 1)) ∧ (decode cL_law 705 = .ok (.iadd, 1)) ∧ (decode cL_law 706 = .ok (.iaload, 1)) ∧ (decode cL_law 707 = .ok (.aload_n 0, 1)) ∧ (decode cL_law 708 = .ok (.iload_n 3, 1)) ∧ (decode cL_law 709 = .ok (.iconst 2, 1)) ∧ (decode cL_law 710 = .ok (.iadd, 1)) ∧ (decode cL_law 711 = .ok (.iaload, 1)) ∧ (decode cL_law 712 = .ok (.i2l, 1)) := by decide +kernel
theorem dL_law_701 : decode cL_law 701 = .ok (.aload_n 2, 1) := gL_law_432.1
theorem dL_law_702 : decode cL_law 702 = .ok (.aload_n 0, 1) := gL_law_432.2.1
theorem dL_law_703 : decode cL_law 703 = .ok (.iload_n 3, 1) := gL_law_432.2.2.1
theorem dL_law_704 : decode cL_law 704 = .ok (.iconst 1, 1) := gL_law_432.2.2.2.1
theorem dL_law_705 : decode cL_law 705 = .ok (.iadd, 1) := gL_law_432.2.2.2.2.1
theorem dL_law_706 : decode cL_law 706 = .ok (.iaload, 1) := gL_law_432.2.2.2.2.2.1
theorem dL_law_707 : decode cL_law 707 = .ok (.aload_n 0, 1) := gL_law_432.2.2.2.2.2.2.1
theorem dL_law_708 : decode cL_law 708 = .ok (.iload_n 3, 1) := gL_law_432.2.2.2.2.2.2.2.1
theorem dL_law_709 : decode cL_law 709 = .ok (.iconst 2, 1) := gL_law_432.2.2.2.2.2.2.2.2.1
theorem dL_law_710 : decode cL_law 710 = .ok (.iadd, 1) := gL_law_432.2.2.2.2.2.2.2.2.2.1
theorem dL_law_711 : decode cL_law 711 = .ok (.iaload, 1) := gL_law_432.2.2.2.2.2.2.2.2.2.2.1
theorem dL_law_712 : decode cL_law 712 = .ok (.i2l, 1) := gL_law_432.2.2.2.2.2.2.2.2.2.2.2
theorem gL_law_444 : (decode cL_law 713 = .ok (.bipush 32, 2)) ∧ (decode cL_law 715 = .ok (.lshl, 1)) ∧ (decode cL_law 716 = .ok (.aload_n 0, 1)) ∧ (decode cL_law 717 = .ok (.iload_n 3, 1)) ∧ (decode cL_law 718 = .ok (.iconst 3, 1)) ∧ (decode cL_law 719 = .ok (.iadd, 1)) ∧ (decode cL_law 720 = .ok (.iaload, 1)) ∧ (decode cL_law 721 = .ok (.i2l, 1)) ∧ (decode cL_law 722 = .ok (.ldc2_w 63, 3)) ∧ (decode cL_law 725 = .ok (.land, 1)) ∧ (decode cL_law 726 = .ok (.lor, 1)) ∧ (decode cL_law 727 = .ok (.invokevirtual 69, 3)) := by decide +kernel
theorem dL_law_713 : decode cL_law 713 = .ok (.bipush 32, 2) := gL_law_444.1
theorem dL_law_715 : decode cL_law 715 = .ok (.lshl, 1) := gL_law_444.2.1
theorem dL_law_716 : decode cL_law 716 = .ok (.aload_n 0, 1) := gL_law_444.2.2.1
theorem dL_law_717 : decode cL_law 717 = .ok (.iload_n 3, 1) := gL_law_444.2.2.2.1
theorem dL_law_718 : decode cL_law 718 = .ok (.iconst 3, 1) := gL_law_444.2.2.2.2.1
theorem dL_law_719 : decode cL_law 719 = .ok (.iadd, 1) := gL_law_444.2.2.2.2.2.1
theorem dL_law_720 : decode cL_law 720 = .ok (.iaload, 1) := gL_law_444.2.2.2.2.2.2.1
theorem dL_law_721 : decode cL_law 721 = .ok (.i2l, 1) := gL_law_444.2.2.2.2.2.2.2.1
theorem dL_law_722 : decode cL_law 722 = .ok (.ldc2_w 63, 3) := gL_law_444.2.2.2.2.2.2.2.2.1
theorem dL_law_725 : decode cL_law 725 = .ok (.land, 1) := gL_law_444.2.2.2.2.2.2.2.2.2.1
theorem dL_law_726 : decode cL_law 726 = .ok (.lor, 1) := gL_law_444.2.2.2.2.2.2.2.2.2.2.1
theorem dL_law_727 : decode cL_law 727 = .ok (.invokevirtual 69, 3) := gL_law_444.2.2.2.2.2.2.2.2.2.2.2
theorem gL_law_456 : (decode cL_law 730 = .ok (.pop, 1)) ∧ (decode cL_law 731 = .ok (.goto 886, 3)) ∧ (decode cL_law 734 = .ok (.aload_n 1, 1)) ∧ (decode cL_law 735 = .ok (.invokevirtual 70, 3)) ∧ (decode cL_law 738 = .ok (.pop, 1)) ∧ (decode cL_law 739 = .ok (.aload_n 2, 1)) ∧ (decode cL_law 740 = .ok (.invokevirtual 74, 3)) ∧ (decode cL_law 743 = .ok (.pop, 1)) ∧ (decode cL_law 744 = .ok (.goto 873, 3)) ∧ (decode cL_law 747 = .ok (.aload_n 1, 1)) ∧ (decode cL_law 748 = .ok (.aload_n 0, 1)) ∧ (decode cL_law 749 = .ok (.iload_n 3, 1)) := by decide +kernel
theorem dL_law_730 : decode cL_law 730 = .ok (.pop, 1) := gL_law_456.1
theorem dL_law_731 : decode cL_law 731 = .ok (.goto 886, 3) := gL_law_456.2.1
theorem dL_law_734 : decode cL_law 734 = .ok (.aload_n 1, 1) := gL_law_456.2.2.1
theorem dL_law_735 : decode cL_law 735 = .ok (.invokevirtual 70, 3) := gL_law_456.2.2.2.1
theorem dL_law_738 : decode cL_law 738 = .ok (.pop, 1) := gL_law_456.2.2.2.2.1
theorem dL_law_739 : decode cL_law 739 = .ok (.aload_n 2, 1) := gL_law_456.2.2.2.2.2.1
theorem dL_law_740 : decode cL_law 740 = .ok (.invokevirtual 74, 3) := gL_law_456.2.2.2.2.2.2.1
theorem dL_law_743 : decode cL_law 743 = .ok (.pop, 1) := gL_law_456.2.2.2.2.2.2.2.1
theorem dL_law_744 : decode cL_law 744 = .ok (.goto 873, 3) := gL_law_456.2.2.2.2.2.2.2.2.1
theorem dL_law_747 : decode cL_law 747 = .ok (.aload_n 1, 1) := gL_law_456.2.2.2.2.2.2.2.2.2.1
theorem dL_law_748 : decode cL_law 748 = .ok (.aload_n 0, 1) := gL_law_456.2.2.2.2.2.2.2.2.2.2.1
theorem dL_law_749 : decode cL_law 749 = .ok (.iload_n 3, 1) := gL_law_456.2.2.2.2.2.2.2.2.2.2.2
theorem gL_law_468 : (decode cL_law 750 = .ok (.iconst 1, 1)) ∧ (decode cL_law 751 = .ok (.iadd, 1)) ∧ (decode cL_law 752 = .ok (.iaload, 1)) ∧ (decode cL_law 753 = .ok (.aload_n 0, 1)) ∧ (decode cL_law 754 = .ok (.iload_n 3, 1)) ∧ (decode cL_law 755 = .ok (.iconst 2, 1)) ∧ (decode cL_law 756 = .ok (.iadd, 1)) ∧ (decode cL_law 757 = .ok (.iaload, 1)) ∧ (decode cL_law 758 = .ok (.aload_n 0, 1)) ∧ (decode cL_law 759 = .ok (.iload_n 3, 1)) ∧ (decode cL_law 760 = .ok (.iconst 3, 1)) ∧ (decode cL_law 761 = .ok (.iadd, 1)) := by decide +kernel
theorem dL_law_750 : decode cL_law 750 = .ok (.iconst 1, 1) := gL_law_468.1
theorem dL_law_751 : decode cL_law 751 = .ok (.iadd, 1) := gL_law_468.2.1
theorem dL_law_752 : decode cL_law 752 = .ok (.iaload, 1) := gL_law_468.2.2.1
theorem dL_law_753 : decode cL_law 753 = .ok (.aload_n 0, 1) := gL_law_468.2.2.2.1
theorem dL_law_754 : decode cL_law 754 = .ok (.iload_n 3, 1) := gL_law_468.2.2.2.2.1
theorem dL_law_755 : decode cL_law 755 = .ok (.iconst 2, 1) := gL_law_468.2.2.2.2.2.1
theorem dL_law_756 : decode cL_law 756 = .ok (.iadd, 1) := gL_law_468.2.2.2.2.2.2.1
theorem dL_law_757 : decode cL_law 757 = .ok (.iaload, 1) := gL_law_468.2.2.2.2.2.2.2.1
theorem dL_law_758 : decode cL_law 758 = .ok (.aload_n 0, 1) := gL_law_468.2.2.2.2.2.2.2.2.1
theorem dL_law_759 : decode cL_law 759 = .ok (.iload_n 3, 1) := gL_law_468.2.2.2.2.2.2.2.2.2.1
theorem dL_law_760 : decode cL_law 760 = .ok (.iconst 3, 1) := gL_law_468.2.2.2.2.2.2.2.2.2.2.1
theorem dL_law_761 : decode cL_law 761 = .ok (.iadd, 1) := gL_law_468.2.2.2.2.2.2.2.2.2.2.2
theorem gL_law_480 : (decode cL_law 762 = .ok (.iaload, 1)) ∧ (decode cL_law 763 = .ok (.invokevirtual 75, 3)) ∧ (decode cL_law 766 = .ok (.pop2, 1)) ∧ (decode cL_law 767 = .ok (.aload_n 2, 1)) ∧ (decode cL_law 768 = .ok (.aload_n 0, 1)) ∧ (decode cL_law 769 = .ok (.iload_n 3, 1)) ∧ (decode cL_law 770 = .ok (.iconst 1, 1)) ∧ (decode cL_law 771 = .ok (.iadd, 1)) ∧ (decode cL_law 772 = .ok (.iaload, 1)) ∧ (decode cL_law 773 = .ok (.aload_n 0, 1)) ∧ (decode cL_law 774 = .ok (.iload_n 3, 1)) ∧ (decode cL_law 775 = .ok (.iconst 2, 1)) := by decide +kernel
theorem dL_law_762 : decode cL_law 762 = .ok (.iaload, 1) := gL_law_480.1
theorem dL_law_763 : decode cL_law 763 = .ok (.invokevirtual 75, 3) := gL_law_480.2.1
theorem dL_law_766 : decode cL_law 766 = .ok (.pop2, 1) := gL_law_480.2.2.1
theorem dL_law_767 : decode cL_law 767 = .ok (.aload_n 2, 1) := gL_law_480.2.2.2.1
theorem dL_law_768 : decode cL_law 768 = .ok (.aload_n 0, 1) := gL_law_480.2.2.2.2.1
theorem dL_law_769 : decode cL_law 769 = .ok (.iload_n 3, 1) := gL_law_480.2.2.2.2.2.1
theorem dL_law_770 : decode cL_law 770 = .ok (.iconst 1, 1) := gL_law_480.2.2.2.2.2.2.1
theorem dL_law_771 : decode cL_law 771 = .ok (.iadd, 1) := gL_law_480.2.2.2.2.2.2.2.1
theorem dL_law_772 : decode cL_law 772 = .ok (.iaload, 1) := gL_law_480.2.2.2.2.2.2.2.2.1
theorem dL_law_773 : decode cL_law 773 = .ok (.aload_n 0, 1) := gL_law_480.2.2.2.2.2.2.2.2.2.1
theorem dL_law_774 : decode cL_law 774 = .ok (.iload_n 3, 1) := gL_law_480.2.2.2.2.2.2.2.2.2.2.1
theorem dL_law_775 : decode cL_law 775 = .ok (.iconst 2, 1) := gL_law_480.2.2.2.2.2.2.2.2.2.2.2
theorem gL_law_492 : (decode cL_law 776 = .ok (.iadd, 1)) ∧ (decode cL_law 777 = .ok (.iaload, 1)) ∧ (decode cL_law 778 = .ok (.aload_n 0, 1)) ∧ (decode cL_law 779 = .ok (.iload_n 3, 1)) ∧ (decode cL_law 780 = .ok (.iconst 3, 1)) ∧ (decode cL_law 781 = .ok (.iadd, 1)) ∧ (decode cL_law 782 = .ok (.iaload, 1)) ∧ (decode cL_law 783 = .ok (.invokevirtual 79, 3)) ∧ (decode cL_law 786 = .ok (.pop2, 1)) ∧ (decode cL_law 787 = .ok (.goto 830, 3)) ∧ (decode cL_law 790 = .ok (.aload_n 1, 1)) ∧ (decode cL_law 791 = .ok (.aload_n 0, 1)) := by decide +kernel
theorem dL_law_776 : decode cL_law 776 = .ok (.iadd, 1) := gL_law_492.1
theorem dL_law_777 : decode cL_law 777 = .ok (.iaload, 1) := gL_law_492.2.1
theorem dL_law_778 : decode cL_law 778 = .ok (.aload_n 0, 1) := gL_law_492.2.2.1
theorem dL_law_779 : decode cL_law 779 = .ok (.iload_n 3, 1) := gL_law_492.2.2.2.1
theorem dL_law_780 : decode cL_law 780 = .ok (.iconst 3, 1) := gL_law_492.2.2.2.2.1
theorem dL_law_781 : decode cL_law 781 = .ok (.iadd, 1) := gL_law_492.2.2.2.2.2.1
theorem dL_law_782 : decode cL_law 782 = .ok (.iaload, 1) := gL_law_492.2.2.2.2.2.2.1
theorem dL_law_783 : decode cL_law 783 = .ok (.invokevirtual 79, 3) := gL_law_492.2.2.2.2.2.2.2.1
theorem dL_law_786 : decode cL_law 786 = .ok (.pop2, 1) := gL_law_492.2.2.2.2.2.2.2.2.1
theorem dL_law_787 : decode cL_law 787 = .ok (.goto 830, 3) := gL_law_492.2.2.2.2.2.2.2.2.2.1
theorem dL_law_790 : decode cL_law 790 = .ok (.aload_n 1, 1) := gL_law_492.2.2.2.2.2.2.2.2.2.2.1
theorem dL_law_791 : decode cL_law 791 = .ok (.aload_n 0, 1) := gL_law_492.2.2.2.2.2.2.2.2.2.2.2
theorem gL_law_504 : (decode cL_law 792 = .ok (.iload_n 3, 1)) ∧ (decode cL_law 793 = .ok (.iconst 1, 1)) ∧ (decode cL_law 794 = .ok (.iadd, 1)) ∧ (decode cL_law 795 = .ok (.iaload, 1)) ∧ (decode cL_law 796 = .ok (.aload_n 0, 1)) ∧ (decode cL_law 797 = .ok (.iload_n 3, 1)) ∧ (decode cL_law 798 = .ok (.iconst 2, 1)) ∧ (decode cL_law 799 = .ok (.iadd, 1)) ∧ (decode cL_law 800 = .ok (.iaload, 1)) ∧ (decode cL_law 801 = .ok (.invokevirtual 80, 3)) ∧ (decode cL_law 804 = .ok (.pop, 1)) ∧ (decode cL_law 805 = .ok (.aload_n 2, 1)) := by decide +kernel
theorem dL_law_792 : decode cL_law 792 = .ok (.iload_n 3, 1) := gL_law_504.1
theorem dL_law_793 : decode cL_law 793 = .ok (.iconst 1, 1) := gL_law_504.2.1
theorem dL_law_794 : decode cL_law 794 = .ok (.iadd, 1) := gL_law_504.2.2.1
theorem dL_law_795 : decode cL_law 795 = .ok (.iaload, 1) := gL_law_504.2.2.2.1
theorem dL_law_796 : decode cL_law 796 = .ok (.aload_n 0, 1) := gL_law_504.2.2.2.2.1
theorem dL_law_797 : decode cL_law 797 = .ok (.iload_n 3, 1) := gL_law_504.2.2.2.2.2.1
theorem dL_law_798 : decode cL_law 798 = .ok (.iconst 2, 1) := gL_law_504.2.2.2.2.2.2.1
theorem dL_law_799 : decode cL_law 799 = .ok (.iadd, 1) := gL_law_504.2.2.2.2.2.2.2.1
theorem dL_law_800 : decode cL_law 800 = .ok (.iaload, 1) := gL_law_504.2.2.2.2.2.2.2.2.1
theorem dL_law_801 : decode cL_law 801 = .ok (.invokevirtual 80, 3) := gL_law_504.2.2.2.2.2.2.2.2.2.1
theorem dL_law_804 : decode cL_law 804 = .ok (.pop, 1) := gL_law_504.2.2.2.2.2.2.2.2.2.2.1
theorem dL_law_805 : decode cL_law 805 = .ok (.aload_n 2, 1) := gL_law_504.2.2.2.2.2.2.2.2.2.2.2
theorem gL_law_516 : (decode cL_law 806 = .ok (.aload_n 0, 1)) ∧ (decode cL_law 807 = .ok (.iload_n 3, 1)) ∧ (decode cL_law 808 = .ok (.iconst 1, 1)) ∧ (decode cL_law 809 = .ok (.iadd, 1)) ∧ (decode cL_law 810 = .ok (.iaload, 1)) ∧ (decode cL_law 811 = .ok (.aload_n 0, 1)) ∧ (decode cL_law 812 = .ok (.iload_n 3, 1)) ∧ (decode cL_law 813 = .ok (.iconst 2, 1)) ∧ (decode cL_law 814 = .ok (.iadd, 1)) ∧ (decode cL_law 815 = .ok (.iaload, 1)) ∧ (decode cL_law 816 = .ok (.invokevirtual 83, 3)) ∧ (decode cL_law 819 = .ok (.pop, 1)) := by decide +kernel
theorem dL_law_806 : decode cL_law 806 = .ok (.aload_n 0, 1) := gL_law_516.1
theorem dL_law_807 : decode cL_law 807 = .ok (.iload_n 3, 1) := gL_law_516.2.1
theorem dL_law_808 : decode cL_law 808 = .ok (.iconst 1, 1) := gL_law_516.2.2.1
theorem dL_law_809 : decode cL_law 809 = .ok (.iadd, 1) := gL_law_516.2.2.2.1
theorem dL_law_810 : decode cL_law 810 = .ok (.iaload, 1) := gL_law_516.2.2.2.2.1
theorem dL_law_811 : decode cL_law 811 = .ok (.aload_n 0, 1) := gL_law_516.2.2.2.2.2.1
theorem dL_law_812 : decode cL_law 812 = .ok (.iload_n 3, 1) := gL_law_516.2.2.2.2.2.2.1
theorem dL_law_813 : decode cL_law 813 = .ok (.iconst 2, 1) := gL_law_516.2.2.2.2.2.2.2.1
theorem dL_law_814 : decode cL_law 814 = .ok (.iadd, 1) := gL_law_516.2.2.2.2.2.2.2.2.1
theorem dL_law_815 : decode cL_law 815 = .ok (.iaload, 1) := gL_law_516.2.2.2.2.2.2.2.2.2.1
theorem dL_law_816 : decode cL_law 816 = .ok (.invokevirtual 83, 3) := gL_law_516.2.2.2.2.2.2.2.2.2.2.1
theorem dL_law_819 : decode cL_law 819 = .ok (.pop, 1) := gL_law_516.2.2.2.2.2.2.2.2.2.2.2
theorem gL_law_528 : (decode cL_law 820 = .ok (.goto 797, 3)) ∧ (decode cL_law 823 = .ok (.aload_n 1, 1)) ∧ (decode cL_law 824 = .ok (.aload_n 0, 1)) ∧ (decode cL_law 825 = .ok (.iload_n 3, 1)) ∧ (decode cL_law 826 = .ok (.iconst 1, 1)) ∧ (decode cL_law 827 = .ok (.iadd, 1)) ∧ (decode cL_law 828 = .ok (.iaload, 1)) ∧ (decode cL_law 829 = .ok (.aload_n 0, 1)) ∧ (decode cL_law 830 = .ok (.iload_n 3, 1)) ∧ (decode cL_law 831 = .ok (.iconst 2, 1)) ∧ (decode cL_law 832 = .ok (.iadd, 1)) ∧ (decode cL_law 833 = .ok (.iaload, 1)) := by decide +kernel
theorem dL_law_820 : decode cL_law 820 = .ok (.goto 797, 3) := gL_law_528.1
theorem dL_law_823 : decode cL_law 823 = .ok (.aload_n 1, 1) := gL_law_528.2.1
theorem dL_law_824 : decode cL_law 824 = .ok (.aload_n 0, 1) := gL_law_528.2.2.1
theorem dL_law_825 : decode cL_law 825 = .ok (.iload_n 3, 1) := gL_law_528.2.2.2.1
theorem dL_law_826 : decode cL_law 826 = .ok (.iconst 1, 1) := gL_law_528.2.2.2.2.1
theorem dL_law_827 : decode cL_law 827 = .ok (.iadd, 1) := gL_law_528.2.2.2.2.2.1
theorem dL_law_828 : decode cL_law 828 = .ok (.iaload, 1) := gL_law_528.2.2.2.2.2.2.1
theorem dL_law_829 : decode cL_law 829 = .ok (.aload_n 0, 1) := gL_law_528.2.2.2.2.2.2.2.1
theorem dL_law_830 : decode cL_law 830 = .ok (.iload_n 3, 1) := gL_law_528.2.2.2.2.2.2.2.2.1
theorem dL_law_831 : decode cL_law 831 = .ok (.iconst 2, 1) := gL_law_528.2.2.2.2.2.2.2.2.2.1
theorem dL_law_832 : decode cL_law 832 = .ok (.iadd, 1) := gL_law_528.2.2.2.2.2.2.2.2.2.2.1
theorem dL_law_833 : decode cL_law 833 = .ok (.iaload, 1) := gL_law_528.2.2.2.2.2.2.2.2.2.2.2
theorem gL_law_540 : (decode cL_law 834 = .ok (.aload_n 0, 1)) ∧ (decode cL_law 835 = .ok (.iload_n 3, 1)) ∧ (decode cL_law 836 = .ok (.iconst 3, 1)) ∧ (decode cL_law 837 = .ok (.iadd, 1)) ∧ (decode cL_law 838 = .ok (.iaload, 1)) ∧ (decode cL_law 839 = .ok (.aload_n 0, 1)) ∧ (decode cL_law 840 = .ok (.iload_n 3, 1)) ∧ (decode cL_law 841 = .ok (.iconst 4, 1)) ∧ (decode cL_law 842 = .ok (.iadd, 1)) ∧ (decode cL_law 843 = .ok (.iaload, 1)) ∧ (decode cL_law 844 = .ok (.invokevirtual 84, 3)) ∧ (decode cL_law 847 = .ok (.pop2, 1)) := by decide +kernel
theorem dL_law_834 : decode cL_law 834 = .ok (.aload_n 0, 1) := gL_law_540.1
theorem dL_law_835 : decode cL_law 835 = .ok (.iload_n 3, 1) := gL_law_540.2.1
theorem dL_law_836 : decode cL_law 836 = .ok (.iconst 3, 1) := gL_law_540.2.2.1
theorem dL_law_837 : decode cL_law 837 = .ok (.iadd, 1) := gL_law_540.2.2.2.1
theorem dL_law_838 : decode cL_law 838 = .ok (.iaload, 1) := gL_law_540.2.2.2.2.1
theorem dL_law_839 : decode cL_law 839 = .ok (.aload_n 0, 1) := gL_law_540.2.2.2.2.2.1
theorem dL_law_840 : decode cL_law 840 = .ok (.iload_n 3, 1) := gL_law_540.2.2.2.2.2.2.1
theorem dL_law_841 : decode cL_law 841 = .ok (.iconst 4, 1) := gL_law_540.2.2.2.2.2.2.2.1
theorem dL_law_842 : decode cL_law 842 = .ok (.iadd, 1) := gL_law_540.2.2.2.2.2.2.2.2.1
theorem dL_law_843 : decode cL_law 843 = .ok (.iaload, 1) := gL_law_540.2.2.2.2.2.2.2.2.2.1
theorem dL_law_844 : decode cL_law 844 = .ok (.invokevirtual 84, 3) := gL_law_540.2.2.2.2.2.2.2.2.2.2.1
theorem dL_law_847 : decode cL_law 847 = .ok (.pop2, 1) := gL_law_540.2.2.2.2.2.2.2.2.2.2.2
theorem gL_law_552 : (decode cL_law 848 = .ok (.aload_n 2, 1)) ∧ (decode cL_law 849 = .ok (.aload_n 0, 1)) ∧ (decode cL_law 850 = .ok (.iload_n 3, 1)) ∧ (decode cL_law 851 = .ok (.iconst 1, 1)) ∧ (decode cL_law 852 = .ok (.iadd, 1)) ∧ (decode cL_law 853 = .ok (.iaload, 1)) ∧ (decode cL_law 854 = .ok (.aload_n 0, 1)) ∧ (decode cL_law 855 = .ok (.iload_n 3, 1)) ∧ (decode cL_law 856 = .ok (.iconst 2, 1)) ∧ (decode cL_law 857 = .ok (.iadd, 1)) ∧ (decode cL_law 858 = .ok (.iaload, 1)) ∧ (decode cL_law 859 = .ok (.aload_n 0, 1)) := by decide +kernel
theorem dL_law_848 : decode cL_law 848 = .ok (.aload_n 2, 1) := gL_law_552.1
theorem dL_law_849 : decode cL_law 849 = .ok (.aload_n 0, 1) := gL_law_552.2.1
theorem dL_law_850 : decode cL_law 850 = .ok (.iload_n 3, 1) := gL_law_552.2.2.1
theorem dL_law_851 : decode cL_law 851 = .ok (.iconst 1, 1) := gL_law_552.2.2.2.1
theorem dL_law_852 : decode cL_law 852 = .ok (.iadd, 1) := gL_law_552.2.2.2.2.1
theorem dL_law_853 : decode cL_law 853 = .ok (.iaload, 1) := gL_law_552.2.2.2.2.2.1
theorem dL_law_854 : decode cL_law 854 = .ok (.aload_n 0, 1) := gL_law_552.2.2.2.2.2.2.1
theorem dL_law_855 : decode cL_law 855 = .ok (.iload_n 3, 1) := gL_law_552.2.2.2.2.2.2.2.1
theorem dL_law_856 : decode cL_law 856 = .ok (.iconst 2, 1) := gL_law_552.2.2.2.2.2.2.2.2.1
theorem dL_law_857 : decode cL_law 857 = .ok (.iadd, 1) := gL_law_552.2.2.2.2.2.2.2.2.2.1
theorem dL_law_858 : decode cL_law 858 = .ok (.iaload, 1) := gL_law_552.2.2.2.2.2.2.2.2.2.2.1
theorem dL_law_859 : decode cL_law 859 = .ok (.aload_n 0, 1) := gL_law_552.2.2.2.2.2.2.2.2.2.2.2
theorem gL_law_564 : (decode cL_law 860 = .ok (.iload_n 3, 1)) ∧ (decode cL_law 861 = .ok (.iconst 3, 1)) ∧ (decode cL_law 862 = .ok (.iadd, 1)) ∧ (decode cL_law 863 = .ok (.iaload, 1)) ∧ (decode cL_law 864 = .ok (.aload_n 0, 1)) ∧ (decode cL_law 865 = .ok (.iload_n 3, 1)) ∧ (decode cL_law 866 = .ok (.iconst 4, 1)) ∧ (decode cL_law 867 = .ok (.iadd, 1)) ∧ (decode cL_law 868 = .ok (.iaload, 1)) ∧ (decode cL_law 869 = .ok (.invokevirtual 88, 3)) ∧ (decode cL_law 872 = .ok (.pop2, 1)) ∧ (decode cL_law 873 = .ok (.goto 744, 3)) := by decide +kernel
theorem dL_law_860 : decode cL_law 860 = .ok (.iload_n 3, 1) := gL_law_564.1
theorem dL_law_861 : decode cL_law 861 = .ok (.iconst 3, 1) := gL_law_564.2.1
theorem dL_law_862 : decode cL_law 862 = .ok (.iadd, 1) := gL_law_564.2.2.1
theorem dL_law_863 : decode cL_law 863 = .ok (.iaload, 1) := gL_law_564.2.2.2.1
theorem dL_law_864 : decode cL_law 864 = .ok (.aload_n 0, 1) := gL_law_564.2.2.2.2.1
theorem dL_law_865 : decode cL_law 865 = .ok (.iload_n 3, 1) := gL_law_564.2.2.2.2.2.1
theorem dL_law_866 : decode cL_law 866 = .ok (.iconst 4, 1) := gL_law_564.2.2.2.2.2.2.1
theorem dL_law_867 : decode cL_law 867 = .ok (.iadd, 1) := gL_law_564.2.2.2.2.2.2.2.1
theorem dL_law_868 : decode cL_law 868 = .ok (.iaload, 1) := gL_law_564.2.2.2.2.2.2.2.2.1
theorem dL_law_869 : decode cL_law 869 = .ok (.invokevirtual 88, 3) := gL_law_564.2.2.2.2.2.2.2.2.2.1
theorem dL_law_872 : decode cL_law 872 = .ok (.pop2, 1) := gL_law_564.2.2.2.2.2.2.2.2.2.2.1
theorem dL_law_873 : decode cL_law 873 = .ok (.goto 744, 3) := gL_law_564.2.2.2.2.2.2.2.2.2.2.2
theorem gL_law_576 : (decode cL_law 876 = .ok (.aload_n 1, 1)) ∧ (decode cL_law 877 = .ok (.aload_n 0, 1)) ∧ (decode cL_law 878 = .ok (.iload_n 3, 1)) ∧ (decode cL_law 879 = .ok (.iconst 1, 1)) ∧ (decode cL_law 880 = .ok (.iadd, 1)) ∧ (decode cL_law 881 = .ok (.iaload, 1)) ∧ (decode cL_law 882 = .ok (.aload_n 0, 1)) ∧ (decode cL_law 883 = .ok (.iload_n 3, 1)) ∧ (decode cL_law 884 = .ok (.iconst 2, 1)) ∧ (decode cL_law 885 = .ok (.iadd, 1)) ∧ (decode cL_law 886 = .ok (.iaload, 1)) ∧ (decode cL_law 887 = .ok (.aload_n 0, 1)) := by decide +kernel
theorem dL_law_876 : decode cL_law 876 = .ok (.aload_n 1, 1) := gL_law_576.1
theorem dL_law_877 : decode cL_law 877 = .ok (.aload_n 0, 1) := gL_law_576.2.1
theorem dL_law_878 : decode cL_law 878 = .ok (.iload_n 3, 1) := gL_law_576.2.2.1
theorem dL_law_879 : decode cL_law 879 = .ok (.iconst 1, 1) := gL_law_576.2.2.2.1
theorem dL_law_880 : decode cL_law 880 = .ok (.iadd, 1) := gL_law_576.2.2.2.2.1
theorem dL_law_881 : decode cL_law 881 = .ok (.iaload, 1) := gL_law_576.2.2.2.2.2.1
theorem dL_law_882 : decode cL_law 882 = .ok (.aload_n 0, 1) := gL_law_576.2.2.2.2.2.2.1
theorem dL_law_883 : decode cL_law 883 = .ok (.iload_n 3, 1) := gL_law_576.2.2.2.2.2.2.2.1
theorem dL_law_884 : decode cL_law 884 = .ok (.iconst 2, 1) := gL_law_576.2.2.2.2.2.2.2.2.1
theorem dL_law_885 : decode cL_law 885 = .ok (.iadd, 1) := gL_law_576.2.2.2.2.2.2.2.2.2.1
theorem dL_law_886 : decode cL_law 886 = .ok (.iaload, 1) := gL_law_576.2.2.2.2.2.2.2.2.2.2.1
theorem dL_law_887 : decode cL_law 887 = .ok (.aload_n 0, 1) := gL_law_576.2.2.2.2.2.2.2.2.2.2.2
theorem gL_law_588 : (decode cL_law 888 = .ok (.iload_n 3, 1)) ∧ (decode cL_law 889 = .ok (.iconst 3, 1)) ∧ (decode cL_law 890 = .ok (.iadd, 1)) ∧ (decode cL_law 891 = .ok (.iaload, 1)) ∧ (decode cL_law 892 = .ok (.invokevirtual 89, 3)) ∧ (decode cL_law 895 = .ok (.pop, 1)) ∧ (decode cL_law 896 = .ok (.aload_n 2, 1)) ∧ (decode cL_law 897 = .ok (.aload_n 0, 1)) ∧ (decode cL_law 898 = .ok (.iload_n 3, 1)) ∧ (decode cL_law 899 = .ok (.iconst 1, 1)) ∧ (decode cL_law 900 = .ok (.iadd, 1)) ∧ (decode cL_law 901 = .ok (.iaload, 1)) := by decide +kernel
theorem dL_law_888 : decode cL_law 888 = .ok (.iload_n 3, 1) := gL_law_588.1
theorem dL_law_889 : decode cL_law 889 = .ok (.iconst 3, 1) := gL_law_588.2.1
theorem dL_law_890 : decode cL_law 890 = .ok (.iadd, 1) := gL_law_588.2.2.1
theorem dL_law_891 : decode cL_law 891 = .ok (.iaload, 1) := gL_law_588.2.2.2.1
theorem dL_law_892 : decode cL_law 892 = .ok (.invokevirtual 89, 3) := gL_law_588.2.2.2.2.1
theorem dL_law_895 : decode cL_law 895 = .ok (.pop, 1) := gL_law_588.2.2.2.2.2.1
theorem dL_law_896 : decode cL_law 896 = .ok (.aload_n 2, 1) := gL_law_588.2.2.2.2.2.2.1
theorem dL_law_897 : decode cL_law 897 = .ok (.aload_n 0, 1) := gL_law_588.2.2.2.2.2.2.2.1
theorem dL_law_898 : decode cL_law 898 = .ok (.iload_n 3, 1) := gL_law_588.2.2.2.2.2.2.2.2.1
theorem dL_law_899 : decode cL_law 899 = .ok (.iconst 1, 1) := gL_law_588.2.2.2.2.2.2.2.2.2.1
theorem dL_law_900 : decode cL_law 900 = .ok (.iadd, 1) := gL_law_588.2.2.2.2.2.2.2.2.2.2.1
theorem dL_law_901 : decode cL_law 901 = .ok (.iaload, 1) := gL_law_588.2.2.2.2.2.2.2.2.2.2.2
theorem gL_law_600 : (decode cL_law 902 = .ok (.aload_n 0, 1)) ∧ (decode cL_law 903 = .ok (.iload_n 3, 1)) ∧ (decode cL_law 904 = .ok (.iconst 2, 1)) ∧ (decode cL_law 905 = .ok (.iadd, 1)) ∧ (decode cL_law 906 = .ok (.iaload, 1)) ∧ (decode cL_law 907 = .ok (.aload_n 0, 1)) ∧ (decode cL_law 908 = .ok (.iload_n 3, 1)) ∧ (decode cL_law 909 = .ok (.iconst 3, 1)) ∧ (decode cL_law 910 = .ok (.iadd, 1)) ∧ (decode cL_law 911 = .ok (.iaload, 1)) ∧ (decode cL_law 912 = .ok (.invokevirtual 92, 3)) ∧ (decode cL_law 915 = .ok (.pop, 1)) := by decide +kernel
theorem dL_law_902 : decode cL_law 902 = .ok (.aload_n 0, 1) := gL_law_600.1
theorem dL_law_903 : decode cL_law 903 = .ok (.iload_n 3, 1) := gL_law_600.2.1
theorem dL_law_904 : decode cL_law 904 = .ok (.iconst 2, 1) := gL_law_600.2.2.1
theorem dL_law_905 : decode cL_law 905 = .ok (.iadd, 1) := gL_law_600.2.2.2.1
theorem dL_law_906 : decode cL_law 906 = .ok (.iaload, 1) := gL_law_600.2.2.2.2.1
theorem dL_law_907 : decode cL_law 907 = .ok (.aload_n 0, 1) := gL_law_600.2.2.2.2.2.1
theorem dL_law_908 : decode cL_law 908 = .ok (.iload_n 3, 1) := gL_law_600.2.2.2.2.2.2.1
theorem dL_law_909 : decode cL_law 909 = .ok (.iconst 3, 1) := gL_law_600.2.2.2.2.2.2.2.1
theorem dL_law_910 : decode cL_law 910 = .ok (.iadd, 1) := gL_law_600.2.2.2.2.2.2.2.2.1
theorem dL_law_911 : decode cL_law 911 = .ok (.iaload, 1) := gL_law_600.2.2.2.2.2.2.2.2.2.1
theorem dL_law_912 : decode cL_law 912 = .ok (.invokevirtual 92, 3) := gL_law_600.2.2.2.2.2.2.2.2.2.2.1
theorem dL_law_915 : decode cL_law 915 = .ok (.pop, 1) := gL_law_600.2.2.2.2.2.2.2.2.2.2.2
theorem gL_law_612 : (decode cL_law 916 = .ok (.goto 701, 3)) ∧ (decode cL_law 919 = .ok (.aload_n 1, 1)) ∧ (decode cL_law 920 = .ok (.aload_n 0, 1)) ∧ (decode cL_law 921 = .ok (.iload_n 3, 1)) ∧ (decode cL_law 922 = .ok (.iconst 1, 1)) ∧ (decode cL_law 923 = .ok (.iadd, 1)) ∧ (decode cL_law 924 = .ok (.iaload, 1)) ∧ (decode cL_law 925 = .ok (.aload_n 0, 1)) ∧ (decode cL_law 926 = .ok (.iload_n 3, 1)) ∧ (decode cL_law 927 = .ok (.iconst 2, 1)) ∧ (decode cL_law 928 = .ok (.iadd, 1)) ∧ (decode cL_law 929 = .ok (.iaload, 1)) := by decide +kernel
theorem dL_law_916 : decode cL_law 916 = .ok (.goto 701, 3) := gL_law_612.1
theorem dL_law_919 : decode cL_law 919 = .ok (.aload_n 1, 1) := gL_law_612.2.1
theorem dL_law_920 : decode cL_law 920 = .ok (.aload_n 0, 1) := gL_law_612.2.2.1
theorem dL_law_921 : decode cL_law 921 = .ok (.iload_n 3, 1) := gL_law_612.2.2.2.1
theorem dL_law_922 : decode cL_law 922 = .ok (.iconst 1, 1) := gL_law_612.2.2.2.2.1
theorem dL_law_923 : decode cL_law 923 = .ok (.iadd, 1) := gL_law_612.2.2.2.2.2.1
theorem dL_law_924 : decode cL_law 924 = .ok (.iaload, 1) := gL_law_612.2.2.2.2.2.2.1
theorem dL_law_925 : decode cL_law 925 = .ok (.aload_n 0, 1) := gL_law_612.2.2.2.2.2.2.2.1
theorem dL_law_926 : decode cL_law 926 = .ok (.iload_n 3, 1) := gL_law_612.2.2.2.2.2.2.2.2.1
theorem dL_law_927 : decode cL_law 927 = .ok (.iconst 2, 1) := gL_law_612.2.2.2.2.2.2.2.2.2.1
theorem dL_law_928 : decode cL_law 928 = .ok (.iadd, 1) := gL_law_612.2.2.2.2.2.2.2.2.2.2.1
theorem dL_law_929 : decode cL_law 929 = .ok (.iaload, 1) := gL_law_612.2.2.2.2.2.2.2.2.2.2.2
theorem gL_law_624 : (decode cL_law 930 = .ok (.invokevirtual 93, 3)) ∧ (decode cL_law 933 = .ok (.pop, 1)) ∧ (decode cL_law 934 = .ok (.aload_n 2, 1)) ∧ (decode cL_law 935 = .ok (.aload_n 0, 1)) ∧ (decode cL_law 936 = .ok (.iload_n 3, 1)) ∧ (decode cL_law 937 = .ok (.iconst 1, 1)) ∧ (decode cL_law 938 = .ok (.iadd, 1)) ∧ (decode cL_law 939 = .ok (.iaload, 1)) ∧ (decode cL_law 940 = .ok (.aload_n 0, 1)) ∧ (decode cL_law 941 = .ok (.iload_n 3, 1)) ∧ (decode cL_law 942 = .ok (.iconst 2, 1)) ∧ (decode cL_law 943 = .ok (.iadd, 1)) := by decide +kernel
theorem dL_law_930 : decode cL_law 930 = .ok (.invokevirtual 93, 3) := gL_law_624.1
theorem dL_law_933 : decode cL_law 933 = .ok (.pop, 1) := gL_law_624.2.1
theorem dL_law_934 : decode cL_law 934 = .ok (.aload_n 2, 1) := gL_law_624.2.2.1
theorem dL_law_935 : decode cL_law 935 = .ok (.aload_n 0, 1) := gL_law_624.2.2.2.1
theorem dL_law_936 : decode cL_law 936 = .ok (.iload_n 3, 1) := gL_law_624.2.2.2.2.1
theorem dL_law_937 : decode cL_law 937 = .ok (.iconst 1, 1) := gL_law_624.2.2.2.2.2.1
theorem dL_law_938 : decode cL_law 938 = .ok (.iadd, 1) := gL_law_624.2.2.2.2.2.2.1
theorem dL_law_939 : decode cL_law 939 = .ok (.iaload, 1) := gL_law_624.2.2.2.2.2.2.2.1
theorem dL_law_940 : decode cL_law 940 = .ok (.aload_n 0, 1) := gL_law_624.2.2.2.2.2.2.2.2.1
theorem dL_law_941 : decode cL_law 941 = .ok (.iload_n 3, 1) := gL_law_624.2.2.2.2.2.2.2.2.2.1
theorem dL_law_942 : decode cL_law 942 = .ok (.iconst 2, 1) := gL_law_624.2.2.2.2.2.2.2.2.2.2.1
theorem dL_law_943 : decode cL_law 943 = .ok (.iadd, 1) := gL_law_624.2.2.2.2.2.2.2.2.2.2.2
theorem gL_law_636 : (decode cL_law 944 = .ok (.iaload, 1)) ∧ (decode cL_law 945 = .ok (.invokevirtual 96, 3)) ∧ (decode cL_law 948 = .ok (.pop, 1)) ∧ (decode cL_law 949 = .ok (.goto 668, 3)) ∧ (decode cL_law 952 = .ok (.aload_n 1, 1)) ∧ (decode cL_law 953 = .ok (.aload_n 0, 1)) ∧ (decode cL_law 954 = .ok (.iload_n 3, 1)) ∧ (decode cL_law 955 = .ok (.iconst 1, 1)) ∧ (decode cL_law 956 = .ok (.iadd, 1)) ∧ (decode cL_law 957 = .ok (.iaload, 1)) ∧ (decode cL_law 958 = .ok (.aload_n 0, 1)) ∧ (decode cL_law 959 = .ok (.iload_n 3, 1)) := by decide +kernel
theorem dL_law_944 : decode cL_law 944 = .ok (.iaload, 1) := gL_law_636.1
theorem dL_law_945 : decode cL_law 945 = .ok (.invokevirtual 96, 3) := gL_law_636.2.1
theorem dL_law_948 : decode cL_law 948 = .ok (.pop, 1) := gL_law_636.2.2.1
theorem dL_law_949 : decode cL_law 949 = .ok (.goto 668, 3) := gL_law_636.2.2.2.1
theorem dL_law_952 : decode cL_law 952 = .ok (.aload_n 1, 1) := gL_law_636.2.2.2.2.1
theorem dL_law_953 : decode cL_law 953 = .ok (.aload_n 0, 1) := gL_law_636.2.2.2.2.2.1
theorem dL_law_954 : decode cL_law 954 = .ok (.iload_n 3, 1) := gL_law_636.2.2.2.2.2.2.1
theorem dL_law_955 : decode cL_law 955 = .ok (.iconst 1, 1) := gL_law_636.2.2.2.2.2.2.2.1
theorem dL_law_956 : decode cL_law 956 = .ok (.iadd, 1) := gL_law_636.2.2.2.2.2.2.2.2.1
theorem dL_law_957 : decode cL_law 957 = .ok (.iaload, 1) := gL_law_636.2.2.2.2.2.2.2.2.2.1
theorem dL_law_958 : decode cL_law 958 = .ok (.aload_n 0, 1) := gL_law_636.2.2.2.2.2.2.2.2.2.2.1
theorem dL_law_959 : decode cL_law 959 = .ok (.iload_n 3, 1) := gL_law_636.2.2.2.2.2.2.2.2.2.2.2
theorem gL_law_648 : (decode cL_law 960 = .ok (.iconst 2, 1)) ∧ (decode cL_law 961 = .ok (.iadd, 1)) ∧ (decode cL_law 962 = .ok (.iaload, 1)) ∧ (decode cL_law 963 = .ok (.aload_n 0, 1)) ∧ (decode cL_law 964 = .ok (.iload_n 3, 1)) ∧ (decode cL_law 965 = .ok (.iconst 3, 1)) ∧ (decode cL_law 966 = .ok (.iadd, 1)) ∧ (decode cL_law 967 = .ok (.iaload, 1)) ∧ (decode cL_law 968 = .ok (.invokevirtual 97, 3)) ∧ (decode cL_law 971 = .ok (.pop, 1)) ∧ (decode cL_law 972 = .ok (.aload_n 2, 1)) ∧ (decode cL_law 973 = .ok (.aload_n 0, 1)) := by decide +kernel
theorem dL_law_960 : decode cL_law 960 = .ok (.iconst 2, 1) := gL_law_648.1
theorem dL_law_961 : decode cL_law 961 = .ok (.iadd, 1) := gL_law_648.2.1
theorem dL_law_962 : decode cL_law 962 = .ok (.iaload, 1) := gL_law_648.2.2.1
theorem dL_law_963 : decode cL_law 963 = .ok (.aload_n 0, 1) := gL_law_648.2.2.2.1
theorem dL_law_964 : decode cL_law 964 = .ok (.iload_n 3, 1) := gL_law_648.2.2.2.2.1
theorem dL_law_965 : decode cL_law 965 = .ok (.iconst 3, 1) := gL_law_648.2.2.2.2.2.1
theorem dL_law_966 : decode cL_law 966 = .ok (.iadd, 1) := gL_law_648.2.2.2.2.2.2.1
theorem dL_law_967 : decode cL_law 967 = .ok (.iaload, 1) := gL_law_648.2.2.2.2.2.2.2.1
theorem dL_law_968 : decode cL_law 968 = .ok (.invokevirtual 97, 3) := gL_law_648.2.2.2.2.2.2.2.2.1
theorem dL_law_971 : decode cL_law 971 = .ok (.pop, 1) := gL_law_648.2.2.2.2.2.2.2.2.2.1
theorem dL_law_972 : decode cL_law 972 = .ok (.aload_n 2, 1) := gL_law_648.2.2.2.2.2.2.2.2.2.2.1
theorem dL_law_973 : decode cL_law 973 = .ok (.aload_n 0, 1) := gL_law_648.2.2.2.2.2.2.2.2.2.2.2
theorem gL_law_660 : (decode cL_law 974 = .ok (.iload_n 3, 1)) ∧ (decode cL_law 975 = .ok (.iconst 1, 1)) ∧ (decode cL_law 976 = .ok (.iadd, 1)) ∧ (decode cL_law 977 = .ok (.iaload, 1)) ∧ (decode cL_law 978 = .ok (.aload_n 0, 1)) ∧ (decode cL_law 979 = .ok (.iload_n 3, 1)) ∧ (decode cL_law 980 = .ok (.iconst 2, 1)) ∧ (decode cL_law 981 = .ok (.iadd, 1)) ∧ (decode cL_law 982 = .ok (.iaload, 1)) ∧ (decode cL_law 983 = .ok (.aload_n 0, 1)) ∧ (decode cL_law 984 = .ok (.iload_n 3, 1)) ∧ (decode cL_law 985 = .ok (.iconst 3, 1)) := by decide +kernel
theorem dL_law_974 : decode cL_law 974 = .ok (.iload_n 3, 1) := gL_law_660.1
theorem dL_law_975 : decode cL_law 975 = .ok (.iconst 1, 1) := gL_law_660.2.1
theorem dL_law_976 : decode cL_law 976 = .ok (.iadd, 1) := gL_law_660.2.2.1
theorem dL_law_977 : decode cL_law 977 = .ok (.iaload, 1) := gL_law_660.2.2.2.1
theorem dL_law_978 : decode cL_law 978 = .ok (.aload_n 0, 1) := gL_law_660.2.2.2.2.1
theorem dL_law_979 : decode cL_law 979 = .ok (.iload_n 3, 1) := gL_law_660.2.2.2.2.2.1
theorem dL_law_980 : decode cL_law 980 = .ok (.iconst 2, 1) := gL_law_660.2.2.2.2.2.2.1
theorem dL_law_981 : decode cL_law 981 = .ok (.iadd, 1) := gL_law_660.2.2.2.2.2.2.2.1
theorem dL_law_982 : decode cL_law 982 = .ok (.iaload, 1) := gL_law_660.2.2.2.2.2.2.2.2.1
theorem dL_law_983 : decode cL_law 983 = .ok (.aload_n 0, 1) := gL_law_660.2.2.2.2.2.2.2.2.2.1
theorem dL_law_984 : decode cL_law 984 = .ok (.iload_n 3, 1) := gL_law_660.2.2.2.2.2.2.2.2.2.2.1
theorem dL_law_985 : decode cL_law 985 = .ok (.iconst 3, 1) := gL_law_660.2.2.2.2.2.2.2.2.2.2.2
theorem gL_law_672 : (decode cL_law 986 = .ok (.iadd, 1)) ∧ (decode cL_law 987 = .ok (.iaload, 1)) ∧ (decode cL_law 988 = .ok (.invokevirtual 100, 3)) ∧ (decode cL_law 991 = .ok (.pop, 1)) ∧ (decode cL_law 992 = .ok (.goto 625, 3)) ∧ (decode cL_law 995 = .ok (.aload_n 1, 1)) ∧ (decode cL_law 996 = .ok (.aload_n 0, 1)) ∧ (decode cL_law 997 = .ok (.iload_n 3, 1)) ∧ (decode cL_law 998 = .ok (.iconst 1, 1)) ∧ (decode cL_law 999 = .ok (.iadd, 1)) ∧ (decode cL_law 1000 = .ok (.iaload, 1)) ∧ (decode cL_law 1001 = .ok (.aload_n 0, 1)) := by decide +kernel
theorem dL_law_986 : decode cL_law 986 = .ok (.iadd, 1) := gL_law_672.1
theorem dL_law_987 : decode cL_law 987 = .ok (.iaload, 1) := gL_law_672.2.1
theorem dL_law_988 : decode cL_law 988 = .ok (.invokevirtual 100, 3) := gL_law_672.2.2.1
theorem dL_law_991 : decode cL_law 991 = .ok (.pop, 1) := gL_law_672.2.2.2.1
theorem dL_law_992 : decode cL_law 992 = .ok (.goto 625, 3) := gL_law_672.2.2.2.2.1
theorem dL_law_995 : decode cL_law 995 = .ok (.aload_n 1, 1) := gL_law_672.2.2.2.2.2.1
theorem dL_law_996 : decode cL_law 996 = .ok (.aload_n 0, 1) := gL_law_672.2.2.2.2.2.2.1
theorem dL_law_997 : decode cL_law 997 = .ok (.iload_n 3, 1) := gL_law_672.2.2.2.2.2.2.2.1
theorem dL_law_998 : decode cL_law 998 = .ok (.iconst 1, 1) := gL_law_672.2.2.2.2.2.2.2.2.1
theorem dL_law_999 : decode cL_law 999 = .ok (.iadd, 1) := gL_law_672.2.2.2.2.2.2.2.2.2.1
theorem dL_law_1000 : decode cL_law 1000 = .ok (.iaload, 1) := gL_law_672.2.2.2.2.2.2.2.2.2.2.1
theorem dL_law_1001 : decode cL_law 1001 = .ok (.aload_n 0, 1) := gL_law_672.2.2.2.2.2.2.2.2.2.2.2
theorem gL_law_684 : (decode cL_law 1002 = .ok (.iload_n 3, 1)) ∧ (decode cL_law 1003 = .ok (.iconst 2, 1)) ∧ (decode cL_law 1004 = .ok (.iadd, 1)) ∧ (decode cL_law 1005 = .ok (.iaload, 1)) ∧ (decode cL_law 1006 = .ok (.invokevirtual 101, 3)) ∧ (decode cL_law 1009 = .ok (.pop, 1)) ∧ (decode cL_law 1010 = .ok (.aload_n 2, 1)) ∧ (decode cL_law 1011 = .ok (.aload_n 0, 1)) ∧ (decode cL_law 1012 = .ok (.iload_n 3, 1)) ∧ (decode cL_law 1013 = .ok (.iconst 1, 1)) ∧ (decode cL_law 1014 = .ok (.iadd, 1)) ∧ (decode cL_law 1015 = .ok (.iaload, 1)) := by decide +kernel
theorem dL_law_1002 : decode cL_law 1002 = .ok (.iload_n 3, 1) := gL_law_684.1
theorem dL_law_1003 : decode cL_law 1003 = .ok (.iconst 2, 1) := gL_law_684.2.1
theorem dL_law_1004 : decode cL_law 1004 = .ok (.iadd, 1) := gL_law_684.2.2.1
theorem dL_law_1005 : decode cL_law 1005 = .ok (.iaload, 1) := gL_law_684.2.2.2.1
theorem dL_law_1006 : decode cL_law 1006 = .ok (.invokevirtual 101, 3) := gL_law_684.2.2.2.2.1
theorem dL_law_1009 : decode cL_law 1009 = .ok (.pop, 1) := gL_law_684.2.2.2.2.2.1
theorem dL_law_1010 : decode cL_law 1010 = .ok (.aload_n 2, 1) := gL_law_684.2.2.2.2.2.2.1
theorem dL_law_1011 : decode cL_law 1011 = .ok (.aload_n 0, 1) := gL_law_684.2.2.2.2.2.2.2.1
theorem dL_law_1012 : decode cL_law 1012 = .ok (.iload_n 3, 1) := gL_law_684.2.2.2.2.2.2.2.2.1
theorem dL_law_1013 : decode cL_law 1013 = .ok (.iconst 1, 1) := gL_law_684.2.2.2.2.2.2.2.2.2.1
theorem dL_law_1014 : decode cL_law 1014 = .ok (.iadd, 1) := gL_law_684.2.2.2.2.2.2.2.2.2.2.1
theorem dL_law_1015 : decode cL_law 1015 = .ok (.iaload, 1) := gL_law_684.2.2.2.2.2.2.2.2.2.2.2
theorem gL_law_696 : (decode cL_law 1016 = .ok (.aload_n 0, 1)) ∧ (decode cL_law 1017 = .ok (.iload_n 3, 1)) ∧ (decode cL_law 1018 = .ok (.iconst 2, 1)) ∧ (decode cL_law 1019 = .ok (.iadd, 1)) ∧ (decode cL_law 1020 = .ok (.iaload, 1)) ∧ (decode cL_law 1021 = .ok (.invokevirtual 104, 3)) ∧ (decode cL_law 1024 = .ok (.pop, 1)) ∧ (decode cL_law 1025 = .ok (.goto 592, 3)) ∧ (decode cL_law 1028 = .ok (.aload_n 1, 1)) ∧ (decode cL_law 1029 = .ok (.aload_n 0, 1)) ∧ (decode cL_law 1030 = .ok (.iload_n 3, 1)) ∧ (decode cL_law 1031 = .ok (.iconst 1, 1)) := by decide +kernel
theorem dL_law_1016 : decode cL_law 1016 = .ok (.aload_n 0, 1) := gL_law_696.1
theorem dL_law_1017 : decode cL_law 1017 = .ok (.iload_n 3, 1) := gL_law_696.2.1
theorem dL_law_1018 : decode cL_law 1018 = .ok (.iconst 2, 1) := gL_law_696.2.2.1
theorem dL_law_1019 : decode cL_law 1019 = .ok (.iadd, 1) := gL_law_696.2.2.2.1
theorem dL_law_1020 : decode cL_law 1020 = .ok (.iaload, 1) := gL_law_696.2.2.2.2.1
theorem dL_law_1021 : decode cL_law 1021 = .ok (.invokevirtual 104, 3) := gL_law_696.2.2.2.2.2.1
theorem dL_law_1024 : decode cL_law 1024 = .ok (.pop, 1) := gL_law_696.2.2.2.2.2.2.1
theorem dL_law_1025 : decode cL_law 1025 = .ok (.goto 592, 3) := gL_law_696.2.2.2.2.2.2.2.1
theorem dL_law_1028 : decode cL_law 1028 = .ok (.aload_n 1, 1) := gL_law_696.2.2.2.2.2.2.2.2.1
theorem dL_law_1029 : decode cL_law 1029 = .ok (.aload_n 0, 1) := gL_law_696.2.2.2.2.2.2.2.2.2.1
theorem dL_law_1030 : decode cL_law 1030 = .ok (.iload_n 3, 1) := gL_law_696.2.2.2.2.2.2.2.2.2.2.1
theorem dL_law_1031 : decode cL_law 1031 = .ok (.iconst 1, 1) := gL_law_696.2.2.2.2.2.2.2.2.2.2.2
theorem gL_law_708 : (decode cL_law 1032 = .ok (.iadd, 1)) ∧ (decode cL_law 1033 = .ok (.iaload, 1)) ∧ (decode cL_law 1034 = .ok (.aload_n 0, 1)) ∧ (decode cL_law 1035 = .ok (.iload_n 3, 1)) ∧ (decode cL_law 1036 = .ok (.iconst 2, 1)) ∧ (decode cL_law 1037 = .ok (.iadd, 1)) ∧ (decode cL_law 1038 = .ok (.iaload, 1)) ∧ (decode cL_law 1039 = .ok (.aload_n 0, 1)) ∧ (decode cL_law 1040 = .ok (.iload_n 3, 1)) ∧ (decode cL_law 1041 = .ok (.iconst 3, 1)) ∧ (decode cL_law 1042 = .ok (.iadd, 1)) ∧ (decode cL_law 1043 = .ok (.iaload, 1)) := by decide +kernel
theorem dL_law_1032 : decode cL_law 1032 = .ok (.iadd, 1) := gL_law_708.1
theorem dL_law_1033 : decode cL_law 1033 = .ok (.iaload, 1) := gL_law_708.2.1
theorem dL_law_1034 : decode cL_law 1034 = .ok (.aload_n 0, 1) := gL_law_708.2.2.1
theorem dL_law_1035 : decode cL_law 1035 = .ok (.iload_n 3, 1) := gL_law_708.2.2.2.1
theorem dL_law_1036 : decode cL_law 1036 = .ok (.iconst 2, 1) := gL_law_708.2.2.2.2.1
theorem dL_law_1037 : decode cL_law 1037 = .ok (.iadd, 1) := gL_law_708.2.2.2.2.2.1
theorem dL_law_1038 : decode cL_law 1038 = .ok (.iaload, 1) := gL_law_708.2.2.2.2.2.2.1
theorem dL_law_1039 : decode cL_law 1039 = .ok (.aload_n 0, 1) := gL_law_708.2.2.2.2.2.2.2.1
theorem dL_law_1040 : decode cL_law 1040 = .ok (.iload_n 3, 1) := gL_law_708.2.2.2.2.2.2.2.2.1
theorem dL_law_1041 : decode cL_law 1041 = .ok (.iconst 3, 1) := gL_law_708.2.2.2.2.2.2.2.2.2.1
theorem dL_law_1042 : decode cL_law 1042 = .ok (.iadd, 1) := gL_law_708.2.2.2.2.2.2.2.2.2.2.1
theorem dL_law_1043 : decode cL_law 1043 = .ok (.iaload, 1) := gL_law_708.2.2.2.2.2.2.2.2.2.2.2
theorem gL_law_720 : (decode cL_law 1044 = .ok (.ifCond .eq 7, 3)) ∧ (decode cL_law 1047 = .ok (.iconst 1, 1)) ∧ (decode cL_law 1048 = .ok (.goto 4, 3)) ∧ (decode cL_law 1051 = .ok (.iconst 0, 1)) ∧ (decode cL_law 1052 = .ok (.invokevirtual 105, 3)) ∧ (decode cL_law 1055 = .ok (.pop, 1)) ∧ (decode cL_law 1056 = .ok (.aload_n 2, 1)) ∧ (decode cL_law 1057 = .ok (.aload_n 0, 1)) ∧ (decode cL_law 1058 = .ok (.iload_n 3, 1)) ∧ (decode cL_law 1059 = .ok (.iconst 1, 1)) ∧ (decode cL_law 1060 = .ok (.iadd, 1)) ∧ (decode cL_law 1061 = .ok (.iaload, 1)) := by decide +kernel
theorem dL_law_1044 : decode cL_law 1044 = .ok (.ifCond .eq 7, 3) := gL_law_720.1
theorem dL_law_1047 : decode cL_law 1047 = .ok (.iconst 1, 1) := gL_law_720.2.1
theorem dL_law_1048 : decode cL_law 1048 = .ok (.goto 4, 3) := gL_law_720.2.2.1
theorem dL_law_1051 : decode cL_law 1051 = .ok (.iconst 0, 1) := gL_law_720.2.2.2.1
theorem dL_law_1052 : decode cL_law 1052 = .ok (.invokevirtual 105, 3) := gL_law_720.2.2.2.2.1
theorem dL_law_1055 : decode cL_law 1055 = .ok (.pop, 1) := gL_law_720.2.2.2.2.2.1
theorem dL_law_1056 : decode cL_law 1056 = .ok (.aload_n 2, 1) := gL_law_720.2.2.2.2.2.2.1
theorem dL_law_1057 : decode cL_law 1057 = .ok (.aload_n 0, 1) := gL_law_720.2.2.2.2.2.2.2.1
theorem dL_law_1058 : decode cL_law 1058 = .ok (.iload_n 3, 1) := gL_law_720.2.2.2.2.2.2.2.2.1
theorem dL_law_1059 : decode cL_law 1059 = .ok (.iconst 1, 1) := gL_law_720.2.2.2.2.2.2.2.2.2.1
theorem dL_law_1060 : decode cL_law 1060 = .ok (.iadd, 1) := gL_law_720.2.2.2.2.2.2.2.2.2.2.1
theorem dL_law_1061 : decode cL_law 1061 = .ok (.iaload, 1) := gL_law_720.2.2.2.2.2.2.2.2.2.2.2
theorem gL_law_732 : (decode cL_law 1062 = .ok (.aload_n 0, 1)) ∧ (decode cL_law 1063 = .ok (.iload_n 3, 1)) ∧ (decode cL_law 1064 = .ok (.iconst 2, 1)) ∧ (decode cL_law 1065 = .ok (.iadd, 1)) ∧ (decode cL_law 1066 = .ok (.iaload, 1)) ∧ (decode cL_law 1067 = .ok (.aload_n 0, 1)) ∧ (decode cL_law 1068 = .ok (.iload_n 3, 1)) ∧ (decode cL_law 1069 = .ok (.iconst 3, 1)) ∧ (decode cL_law 1070 = .ok (.iadd, 1)) ∧ (decode cL_law 1071 = .ok (.iaload, 1)) ∧ (decode cL_law 1072 = .ok (.ifCond .eq 7, 3)) ∧ (decode cL_law 1075 = .ok (.iconst 1, 1)) := by decide +kernel
theorem dL_law_1062 : decode cL_law 1062 = .ok (.aload_n 0, 1) := gL_law_732.1
theorem dL_law_1063 : decode cL_law 1063 = .ok (.iload_n 3, 1) := gL_law_732.2.1
theorem dL_law_1064 : decode cL_law 1064 = .ok (.iconst 2, 1) := gL_law_732.2.2.1
theorem dL_law_1065 : decode cL_law 1065 = .ok (.iadd, 1) := gL_law_732.2.2.2.1
theorem dL_law_1066 : decode cL_law 1066 = .ok (.iaload, 1) := gL_law_732.2.2.2.2.1
theorem dL_law_1067 : decode cL_law 1067 = .ok (.aload_n 0, 1) := gL_law_732.2.2.2.2.2.1
theorem dL_law_1068 : decode cL_law 1068 = .ok (.iload_n 3, 1) := gL_law_732.2.2.2.2.2.2.1
theorem dL_law_1069 : decode cL_law 1069 = .ok (.iconst 3, 1) := gL_law_732.2.2.2.2.2.2.2.1
theorem dL_law_1070 : decode cL_law 1070 = .ok (.iadd, 1) := gL_law_732.2.2.2.2.2.2.2.2.1
theorem dL_law_1071 : decode cL_law 1071 = .ok (.iaload, 1) := gL_law_732.2.2.2.2.2.2.2.2.2.1
theorem dL_law_1072 : decode cL_law 1072 = .ok (.ifCond .eq 7, 3) := gL_law_732.2.2.2.2.2.2.2.2.2.2.1
theorem dL_law_1075 : decode cL_law 1075 = .ok (.iconst 1, 1) := gL_law_732.2.2.2.2.2.2.2.2.2.2.2
theorem gL_law_744 : (decode cL_law 1076 = .ok (.goto 4, 3)) ∧ (decode cL_law 1079 = .ok (.iconst 0, 1)) ∧ (decode cL_law 1080 = .ok (.invokevirtual 108, 3)) ∧ (decode cL_law 1083 = .ok (.pop, 1)) ∧ (decode cL_law 1084 = .ok (.goto 533, 3)) ∧ (decode cL_law 1087 = .ok (.aload_n 1, 1)) ∧ (decode cL_law 1088 = .ok (.aload_n 0, 1)) ∧ (decode cL_law 1089 = .ok (.iload_n 3, 1)) ∧ (decode cL_law 1090 = .ok (.iconst 1, 1)) ∧ (decode cL_law 1091 = .ok (.iadd, 1)) ∧ (decode cL_law 1092 = .ok (.iaload, 1)) ∧ (decode cL_law 1093 = .ok (.aload_n 0, 1)) := by decide +kernel
theorem dL_law_1076 : decode cL_law 1076 = .ok (.goto 4, 3) := gL_law_744.1
theorem dL_law_1079 : decode cL_law 1079 = .ok (.iconst 0, 1) := gL_law_744.2.1
theorem dL_law_1080 : decode cL_law 1080 = .ok (.invokevirtual 108, 3) := gL_law_744.2.2.1
theorem dL_law_1083 : decode cL_law 1083 = .ok (.pop, 1) := gL_law_744.2.2.2.1
theorem dL_law_1084 : decode cL_law 1084 = .ok (.goto 533, 3) := gL_law_744.2.2.2.2.1
theorem dL_law_1087 : decode cL_law 1087 = .ok (.aload_n 1, 1) := gL_law_744.2.2.2.2.2.1
theorem dL_law_1088 : decode cL_law 1088 = .ok (.aload_n 0, 1) := gL_law_744.2.2.2.2.2.2.1
theorem dL_law_1089 : decode cL_law 1089 = .ok (.iload_n 3, 1) := gL_law_744.2.2.2.2.2.2.2.1
theorem dL_law_1090 : decode cL_law 1090 = .ok (.iconst 1, 1) := gL_law_744.2.2.2.2.2.2.2.2.1
theorem dL_law_1091 : decode cL_law 1091 = .ok (.iadd, 1) := gL_law_744.2.2.2.2.2.2.2.2.2.1
theorem dL_law_1092 : decode cL_law 1092 = .ok (.iaload, 1) := gL_law_744.2.2.2.2.2.2.2.2.2.2.1
theorem dL_law_1093 : decode cL_law 1093 = .ok (.aload_n 0, 1) := gL_law_744.2.2.2.2.2.2.2.2.2.2.2
theorem gL_law_756 : (decode cL_law 1094 = .ok (.iload_n 3, 1)) ∧ (decode cL_law 1095 = .ok (.iconst 2, 1)) ∧ (decode cL_law 1096 = .ok (.iadd, 1)) ∧ (decode cL_law 1097 = .ok (.iaload, 1)) ∧ (decode cL_law 1098 = .ok (.invokevirtual 109, 3)) ∧ (decode cL_law 1101 = .ok (.pop, 1)) ∧ (decode cL_law 1102 = .ok (.aload_n 2, 1)) ∧ (decode cL_law 1103 = .ok (.aload_n 0, 1)) ∧ (decode cL_law 1104 = .ok (.iload_n 3, 1)) ∧ (decode cL_law 1105 = .ok (.iconst 1, 1)) ∧ (decode cL_law 1106 = .ok (.iadd, 1)) ∧ (decode cL_law 1107 = .ok (.iaload, 1)) := by decide +kernel
theorem dL_law_1094 : decode cL_law 1094 = .ok (.iload_n 3, 1) := gL_law_756.1
theorem dL_law_1095 : decode cL_law 1095 = .ok (.iconst 2, 1) := gL_law_756.2.1
theorem dL_law_1096 : decode cL_law 1096 = .ok (.iadd, 1) := gL_law_756.2.2.1
theorem dL_law_1097 : decode cL_law 1097 = .ok (.iaload, 1) := gL_law_756.2.2.2.1
theorem dL_law_1098 : decode cL_law 1098 = .ok (.invokevirtual 109, 3) := gL_law_756.2.2.2.2.1
theorem dL_law_1101 : decode cL_law 1101 = .ok (.pop, 1) := gL_law_756.2.2.2.2.2.1
theorem dL_law_1102 : decode cL_law 1102 = .ok (.aload_n 2, 1) := gL_law_756.2.2.2.2.2.2.1
theorem dL_law_1103 : decode cL_law 1103 = .ok (.aload_n 0, 1) := gL_law_756.2.2.2.2.2.2.2.1
theorem dL_law_1104 : decode cL_law 1104 = .ok (.iload_n 3, 1) := gL_law_756.2.2.2.2.2.2.2.2.1
theorem dL_law_1105 : decode cL_law 1105 = .ok (.iconst 1, 1) := gL_law_756.2.2.2.2.2.2.2.2.2.1
theorem dL_law_1106 : decode cL_law 1106 = .ok (.iadd, 1) := gL_law_756.2.2.2.2.2.2.2.2.2.2.1
theorem dL_law_1107 : decode cL_law 1107 = .ok (.iaload, 1) := gL_law_756.2.2.2.2.2.2.2.2.2.2.2
theorem gL_law_768 : (decode cL_law 1108 = .ok (.aload_n 0, 1)) ∧ (decode cL_law 1109 = .ok (.iload_n 3, 1)) ∧ (decode cL_law 1110 = .ok (.iconst 2, 1)) ∧ (decode cL_law 1111 = .ok (.iadd, 1)) ∧ (decode cL_law 1112 = .ok (.iaload, 1)) ∧ (decode cL_law 1113 = .ok (.invokevirtual 112, 3)) ∧ (decode cL_law 1116 = .ok (.pop, 1)) ∧ (decode cL_law 1117 = .ok (.goto 500, 3)) ∧ (decode cL_law 1120 = .ok (.aload_n 1, 1)) ∧ (decode cL_law 1121 = .ok (.aload_n 0, 1)) ∧ (decode cL_law 1122 = .ok (.iload_n 3, 1)) ∧ (decode cL_law 1123 = .ok (.iconst 1, 1)) := by decide +kernel
theorem dL_law_1108 : decode cL_law 1108 = .ok (.aload_n 0, 1) := gL_law_768.1
theorem dL_law_1109 : decode cL_law 1109 = .ok (.iload_n 3, 1) := gL_law_768.2.1
theorem dL_law_1110 : decode cL_law 1110 = .ok (.iconst 2, 1) := gL_law_768.2.2.1
theorem dL_law_1111 : decode cL_law 1111 = .ok (.iadd, 1) := gL_law_768.2.2.2.1
theorem dL_law_1112 : decode cL_law 1112 = .ok (.iaload, 1) := gL_law_768.2.2.2.2.1
theorem dL_law_1113 : decode cL_law 1113 = .ok (.invokevirtual 112, 3) := gL_law_768.2.2.2.2.2.1
theorem dL_law_1116 : decode cL_law 1116 = .ok (.pop, 1) := gL_law_768.2.2.2.2.2.2.1
theorem dL_law_1117 : decode cL_law 1117 = .ok (.goto 500, 3) := gL_law_768.2.2.2.2.2.2.2.1
theorem dL_law_1120 : decode cL_law 1120 = .ok (.aload_n 1, 1) := gL_law_768.2.2.2.2.2.2.2.2.1
theorem dL_law_1121 : decode cL_law 1121 = .ok (.aload_n 0, 1) := gL_law_768.2.2.2.2.2.2.2.2.2.1
theorem dL_law_1122 : decode cL_law 1122 = .ok (.iload_n 3, 1) := gL_law_768.2.2.2.2.2.2.2.2.2.2.1
theorem dL_law_1123 : decode cL_law 1123 = .ok (.iconst 1, 1) := gL_law_768.2.2.2.2.2.2.2.2.2.2.2
theorem gL_law_780 : (decode cL_law 1124 = .ok (.iadd, 1)) ∧ (decode cL_law 1125 = .ok (.iaload, 1)) ∧ (decode cL_law 1126 = .ok (.aload_n 0, 1)) ∧ (decode cL_law 1127 = .ok (.iload_n 3, 1)) ∧ (decode cL_law 1128 = .ok (.iconst 2, 1)) ∧ (decode cL_law 1129 = .ok (.iadd, 1)) ∧ (decode cL_law 1130 = .ok (.iaload, 1)) ∧ (decode cL_law 1131 = .ok (.aload_n 0, 1)) ∧ (decode cL_law 1132 = .ok (.iload_n 3, 1)) ∧ (decode cL_law 1133 = .ok (.iconst 3, 1)) ∧ (decode cL_law 1134 = .ok (.iadd, 1)) ∧ (decode cL_law 1135 = .ok (.iaload, 1)) := by decide +kernel
theorem dL_law_1124 : decode cL_law 1124 = .ok (.iadd, 1) := gL_law_780.1
theorem dL_law_1125 : decode cL_law 1125 = .ok (.iaload, 1) := gL_law_780.2.1
theorem dL_law_1126 : decode cL_law 1126 = .ok (.aload_n 0, 1) := gL_law_780.2.2.1
theorem dL_law_1127 : decode cL_law 1127 = .ok (.iload_n 3, 1) := gL_law_780.2.2.2.1
theorem dL_law_1128 : decode cL_law 1128 = .ok (.iconst 2, 1) := gL_law_780.2.2.2.2.1
theorem dL_law_1129 : decode cL_law 1129 = .ok (.iadd, 1) := gL_law_780.2.2.2.2.2.1
theorem dL_law_1130 : decode cL_law 1130 = .ok (.iaload, 1) := gL_law_780.2.2.2.2.2.2.1
theorem dL_law_1131 : decode cL_law 1131 = .ok (.aload_n 0, 1) := gL_law_780.2.2.2.2.2.2.2.1
theorem dL_law_1132 : decode cL_law 1132 = .ok (.iload_n 3, 1) := gL_law_780.2.2.2.2.2.2.2.2.1
theorem dL_law_1133 : decode cL_law 1133 = .ok (.iconst 3, 1) := gL_law_780.2.2.2.2.2.2.2.2.2.1
theorem dL_law_1134 : decode cL_law 1134 = .ok (.iadd, 1) := gL_law_780.2.2.2.2.2.2.2.2.2.2.1
theorem dL_law_1135 : decode cL_law 1135 = .ok (.iaload, 1) := gL_law_780.2.2.2.2.2.2.2.2.2.2.2
theorem gL_law_792 : (decode cL_law 1136 = .ok (.invokevirtual 113, 3)) ∧ (decode cL_law 1139 = .ok (.pop, 1)) ∧ (decode cL_law 1140 = .ok (.aload_n 2, 1)) ∧ (decode cL_law 1141 = .ok (.aload_n 0, 1)) ∧ (decode cL_law 1142 = .ok (.iload_n 3, 1)) ∧ (decode cL_law 1143 = .ok (.iconst 1, 1)) ∧ (decode cL_law 1144 = .ok (.iadd, 1)) ∧ (decode cL_law 1145 = .ok (.iaload, 1)) ∧ (decode cL_law 1146 = .ok (.aload_n 0, 1)) ∧ (decode cL_law 1147 = .ok (.iload_n 3, 1)) ∧ (decode cL_law 1148 = .ok (.iconst 2, 1)) ∧ (decode cL_law 1149 = .ok (.iadd, 1)) := by decide +kernel
theorem dL_law_1136 : decode cL_law 1136 = .ok (.invokevirtual 113, 3) := gL_law_792.1
theorem dL_law_1139 : decode cL_law 1139 = .ok (.pop, 1) := gL_law_792.2.1
theorem dL_law_1140 : decode cL_law 1140 = .ok (.aload_n 2, 1) := gL_law_792.2.2.1
theorem dL_law_1141 : decode cL_law 1141 = .ok (.aload_n 0, 1) := gL_law_792.2.2.2.1
theorem dL_law_1142 : decode cL_law 1142 = .ok (.iload_n 3, 1) := gL_law_792.2.2.2.2.1
theorem dL_law_1143 : decode cL_law 1143 = .ok (.iconst 1, 1) := gL_law_792.2.2.2.2.2.1
theorem dL_law_1144 : decode cL_law 1144 = .ok (.iadd, 1) := gL_law_792.2.2.2.2.2.2.1
theorem dL_law_1145 : decode cL_law 1145 = .ok (.iaload, 1) := gL_law_792.2.2.2.2.2.2.2.1
theorem dL_law_1146 : decode cL_law 1146 = .ok (.aload_n 0, 1) := gL_law_792.2.2.2.2.2.2.2.2.1
theorem dL_law_1147 : decode cL_law 1147 = .ok (.iload_n 3, 1) := gL_law_792.2.2.2.2.2.2.2.2.2.1
theorem dL_law_1148 : decode cL_law 1148 = .ok (.iconst 2, 1) := gL_law_792.2.2.2.2.2.2.2.2.2.2.1
theorem dL_law_1149 : decode cL_law 1149 = .ok (.iadd, 1) := gL_law_792.2.2.2.2.2.2.2.2.2.2.2
theorem gL_law_804 : (decode cL_law 1150 = .ok (.iaload, 1)) ∧ (decode cL_law 1151 = .ok (.aload_n 0, 1)) ∧ (decode cL_law 1152 = .ok (.iload_n 3, 1)) ∧ (decode cL_law 1153 = .ok (.iconst 3, 1)) ∧ (decode cL_law 1154 = .ok (.iadd, 1)) ∧ (decode cL_law 1155 = .ok (.iaload, 1)) ∧ (decode cL_law 1156 = .ok (.invokevirtual 116, 3)) ∧ (decode cL_law 1159 = .ok (.pop, 1)) ∧ (decode cL_law 1160 = .ok (.goto 457, 3)) ∧ (decode cL_law 1163 = .ok (.aload_n 1, 1)) ∧ (decode cL_law 1164 = .ok (.aload_n 0, 1)) ∧ (decode cL_law 1165 = .ok (.iload_n 3, 1)) := by decide +kernel
theorem dL_law_1150 : decode cL_law 1150 = .ok (.iaload, 1) := gL_law_804.1
theorem dL_law_1151 : decode cL_law 1151 = .ok (.aload_n 0, 1) := gL_law_804.2.1
theorem dL_law_1152 : decode cL_law 1152 = .ok (.iload_n 3, 1) := gL_law_804.2.2.1
theorem dL_law_1153 : decode cL_law 1153 = .ok (.iconst 3, 1) := gL_law_804.2.2.2.1
theorem dL_law_1154 : decode cL_law 1154 = .ok (.iadd, 1) := gL_law_804.2.2.2.2.1
theorem dL_law_1155 : decode cL_law 1155 = .ok (.iaload, 1) := gL_law_804.2.2.2.2.2.1
theorem dL_law_1156 : decode cL_law 1156 = .ok (.invokevirtual 116, 3) := gL_law_804.2.2.2.2.2.2.1
theorem dL_law_1159 : decode cL_law 1159 = .ok (.pop, 1) := gL_law_804.2.2.2.2.2.2.2.1
theorem dL_law_1160 : decode cL_law 1160 = .ok (.goto 457, 3) := gL_law_804.2.2.2.2.2.2.2.2.1
theorem dL_law_1163 : decode cL_law 1163 = .ok (.aload_n 1, 1) := gL_law_804.2.2.2.2.2.2.2.2.2.1
theorem dL_law_1164 : decode cL_law 1164 = .ok (.aload_n 0, 1) := gL_law_804.2.2.2.2.2.2.2.2.2.2.1
theorem dL_law_1165 : decode cL_law 1165 = .ok (.iload_n 3, 1) := gL_law_804.2.2.2.2.2.2.2.2.2.2.2
theorem gL_law_816 : (decode cL_law 1166 = .ok (.iconst 1, 1)) ∧ (decode cL_law 1167 = .ok (.iadd, 1)) ∧ (decode cL_law 1168 = .ok (.iaload, 1)) ∧ (decode cL_law 1169 = .ok (.invokevirtual 117, 3)) ∧ (decode cL_law 1172 = .ok (.pop, 1)) ∧ (decode cL_law 1173 = .ok (.aload_n 2, 1)) ∧ (decode cL_law 1174 = .ok (.aload_n 0, 1)) ∧ (decode cL_law 1175 = .ok (.iload_n 3, 1)) ∧ (decode cL_law 1176 = .ok (.iconst 1, 1)) ∧ (decode cL_law 1177 = .ok (.iadd, 1)) ∧ (decode cL_law 1178 = .ok (.iaload, 1)) ∧ (decode cL_law 1179 = .ok (.invokevirtual 120, 3)) := by decide +kernel
theorem dL_law_1166 : decode cL_law 1166 = .ok (.iconst 1, 1) := gL_law_816.1
theorem dL_law_1167 : decode cL_law 1167 = .ok (.iadd, 1) := gL_law_816.2.1
theorem dL_law_1168 : decode cL_law 1168 = .ok (.iaload, 1) := gL_law_816.2.2.1
theorem dL_law_1169 : decode cL_law 1169 = .ok (.invokevirtual 117, 3) := gL_law_816.2.2.2.1
theorem dL_law_1172 : decode cL_law 1172 = .ok (.pop, 1) := gL_law_816.2.2.2.2.1
theorem dL_law_1173 : decode cL_law 1173 = .ok (.aload_n 2, 1) := gL_law_816.2.2.2.2.2.1
theorem dL_law_1174 : decode cL_law 1174 = .ok (.aload_n 0, 1) := gL_law_816.2.2.2.2.2.2.1
theorem dL_law_1175 : decode cL_law 1175 = .ok (.iload_n 3, 1) := gL_law_816.2.2.2.2.2.2.2.1
theorem dL_law_1176 : decode cL_law 1176 = .ok (.iconst 1, 1) := gL_law_816.2.2.2.2.2.2.2.2.1
theorem dL_law_1177 : decode cL_law 1177 = .ok (.iadd, 1) := gL_law_816.2.2.2.2.2.2.2.2.2.1
theorem dL_law_1178 : decode cL_law 1178 = .ok (.iaload, 1) := gL_law_816.2.2.2.2.2.2.2.2.2.2.1
theorem dL_law_1179 : decode cL_law 1179 = .ok (.invokevirtual 120, 3) := gL_law_816.2.2.2.2.2.2.2.2.2.2.2
theorem gL_law_828 : (decode cL_law 1182 = .ok (.pop, 1)) ∧ (decode cL_law 1183 = .ok (.goto 434, 3)) ∧ (decode cL_law 1186 = .ok (.aload_n 1, 1)) ∧ (decode cL_law 1187 = .ok (.aload_n 0, 1)) ∧ (decode cL_law 1188 = .ok (.iload_n 3, 1)) ∧ (decode cL_law 1189 = .ok (.iconst 1, 1)) ∧ (decode cL_law 1190 = .ok (.iadd, 1)) ∧ (decode cL_law 1191 = .ok (.iaload, 1)) ∧ (decode cL_law 1192 = .ok (.invokevirtual 121, 3)) ∧ (decode cL_law 1195 = .ok (.pop, 1)) ∧ (decode cL_law 1196 = .ok (.aload_n 2, 1)) ∧ (decode cL_law 1197 = .ok (.aload_n 0, 1)) := by decide +kernel
theorem dL_law_1182 : decode cL_law 1182 = .ok (.pop, 1) := gL_law_828.1
theorem dL_law_1183 : decode cL_law 1183 = .ok (.goto 434, 3) := gL_law_828.2.1
theorem dL_law_1186 : decode cL_law 1186 = .ok (.aload_n 1, 1) := gL_law_828.2.2.1
theorem dL_law_1187 : decode cL_law 1187 = .ok (.aload_n 0, 1) := gL_law_828.2.2.2.1
theorem dL_law_1188 : decode cL_law 1188 = .ok (.iload_n 3, 1) := gL_law_828.2.2.2.2.1
theorem dL_law_1189 : decode cL_law 1189 = .ok (.iconst 1, 1) := gL_law_828.2.2.2.2.2.1
theorem dL_law_1190 : decode cL_law 1190 = .ok (.iadd, 1) := gL_law_828.2.2.2.2.2.2.1
theorem dL_law_1191 : decode cL_law 1191 = .ok (.iaload, 1) := gL_law_828.2.2.2.2.2.2.2.1
theorem dL_law_1192 : decode cL_law 1192 = .ok (.invokevirtual 121, 3) := gL_law_828.2.2.2.2.2.2.2.2.1
theorem dL_law_1195 : decode cL_law 1195 = .ok (.pop, 1) := gL_law_828.2.2.2.2.2.2.2.2.2.1
theorem dL_law_1196 : decode cL_law 1196 = .ok (.aload_n 2, 1) := gL_law_828.2.2.2.2.2.2.2.2.2.2.1
theorem dL_law_1197 : decode cL_law 1197 = .ok (.aload_n 0, 1) := gL_law_828.2.2.2.2.2.2.2.2.2.2.2
theorem gL_law_840 : (decode cL_law 1198 = .ok (.iload_n 3, 1)) ∧ (decode cL_law 1199 = .ok (.iconst 1, 1)) ∧ (decode cL_law 1200 = .ok (.iadd, 1)) ∧ (decode cL_law 1201 = .ok (.iaload, 1)) ∧ (decode cL_law 1202 = .ok (.invokevirtual 124, 3)) ∧ (decode cL_law 1205 = .ok (.pop, 1)) ∧ (decode cL_law 1206 = .ok (.goto 411, 3)) ∧ (decode cL_law 1209 = .ok (.aload_n 1, 1)) ∧ (decode cL_law 1210 = .ok (.aload_n 0, 1)) ∧ (decode cL_law 1211 = .ok (.iload_n 3, 1)) ∧ (decode cL_law 1212 = .ok (.iconst 1, 1)) ∧ (decode cL_law 1213 = .ok (.iadd, 1)) := by decide +kernel
theorem dL_law_1198 : decode cL_law 1198 = .ok (.iload_n 3, 1) := gL_law_840.1
theorem dL_law_1199 : decode cL_law 1199 = .ok (.iconst 1, 1) := gL_law_840.2.1
theorem dL_law_1200 : decode cL_law 1200 = .ok (.iadd, 1) := gL_law_840.2.2.1
theorem dL_law_1201 : decode cL_law 1201 = .ok (.iaload, 1) := gL_law_840.2.2.2.1
theorem dL_law_1202 : decode cL_law 1202 = .ok (.invokevirtual 124, 3) := gL_law_840.2.2.2.2.1
theorem dL_law_1205 : decode cL_law 1205 = .ok (.pop, 1) := gL_law_840.2.2.2.2.2.1
theorem dL_law_1206 : decode cL_law 1206 = .ok (.goto 411, 3) := gL_law_840.2.2.2.2.2.2.1
theorem dL_law_1209 : decode cL_law 1209 = .ok (.aload_n 1, 1) := gL_law_840.2.2.2.2.2.2.2.1
theorem dL_law_1210 : decode cL_law 1210 = .ok (.aload_n 0, 1) := gL_law_840.2.2.2.2.2.2.2.2.1
theorem dL_law_1211 : decode cL_law 1211 = .ok (.iload_n 3, 1) := gL_law_840.2.2.2.2.2.2.2.2.2.1
theorem dL_law_1212 : decode cL_law 1212 = .ok (.iconst 1, 1) := gL_law_840.2.2.2.2.2.2.2.2.2.2.1
theorem dL_law_1213 : decode cL_law 1213 = .ok (.iadd, 1) := gL_law_840.2.2.2.2.2.2.2.2.2.2.2
theorem gL_law_852 : (decode cL_law 1214 = .ok (.iaload, 1)) ∧ (decode cL_law 1215 = .ok (.invokevirtual 125, 3)) ∧ (decode cL_law 1218 = .ok (.pop, 1)) ∧ (decode cL_law 1219 = .ok (.aload_n 2, 1)) ∧ (decode cL_law 1220 = .ok (.aload_n 0, 1)) ∧ (decode cL_law 1221 = .ok (.iload_n 3, 1)) ∧ (decode cL_law 1222 = .ok (.iconst 1, 1)) ∧ (decode cL_law 1223 = .ok (.iadd, 1)) ∧ (decode cL_law 1224 = .ok (.iaload, 1)) ∧ (decode cL_law 1225 = .ok (.invokevirtual 128, 3)) ∧ (decode cL_law 1228 = .ok (.pop, 1)) ∧ (decode cL_law 1229 = .ok (.goto 388, 3)) := by decide +kernel
theorem dL_law_1214 : decode cL_law 1214 = .ok (.iaload, 1) := gL_law_852.1
theorem dL_law_1215 : decode cL_law 1215 = .ok (.invokevirtual 125, 3) := gL_law_852.2.1
theorem dL_law_1218 : decode cL_law 1218 = .ok (.pop, 1) := gL_law_852.2.2.1
theorem dL_law_1219 : decode cL_law 1219 = .ok (.aload_n 2, 1) := gL_law_852.2.2.2.1
theorem dL_law_1220 : decode cL_law 1220 = .ok (.aload_n 0, 1) := gL_law_852.2.2.2.2.1
theorem dL_law_1221 : decode cL_law 1221 = .ok (.iload_n 3, 1) := gL_law_852.2.2.2.2.2.1
theorem dL_law_1222 : decode cL_law 1222 = .ok (.iconst 1, 1) := gL_law_852.2.2.2.2.2.2.1
theorem dL_law_1223 : decode cL_law 1223 = .ok (.iadd, 1) := gL_law_852.2.2.2.2.2.2.2.1
theorem dL_law_1224 : decode cL_law 1224 = .ok (.iaload, 1) := gL_law_852.2.2.2.2.2.2.2.2.1
theorem dL_law_1225 : decode cL_law 1225 = .ok (.invokevirtual 128, 3) := gL_law_852.2.2.2.2.2.2.2.2.2.1
theorem dL_law_1228 : decode cL_law 1228 = .ok (.pop, 1) := gL_law_852.2.2.2.2.2.2.2.2.2.2.1
theorem dL_law_1229 : decode cL_law 1229 = .ok (.goto 388, 3) := gL_law_852.2.2.2.2.2.2.2.2.2.2.2
theorem gL_law_864 : (decode cL_law 1232 = .ok (.aload_n 1, 1)) ∧ (decode cL_law 1233 = .ok (.aload_n 0, 1)) ∧ (decode cL_law 1234 = .ok (.iload_n 3, 1)) ∧ (decode cL_law 1235 = .ok (.iconst 1, 1)) ∧ (decode cL_law 1236 = .ok (.iadd, 1)) ∧ (decode cL_law 1237 = .ok (.iaload, 1)) ∧ (decode cL_law 1238 = .ok (.invokevirtual 129, 3)) ∧ (decode cL_law 1241 = .ok (.pop, 1)) ∧ (decode cL_law 1242 = .ok (.aload_n 2, 1)) ∧ (decode cL_law 1243 = .ok (.aload_n 0, 1)) ∧ (decode cL_law 1244 = .ok (.iload_n 3, 1)) ∧ (decode cL_law 1245 = .ok (.iconst 1, 1)) := by decide +kernel
theorem dL_law_1232 : decode cL_law 1232 = .ok (.aload_n 1, 1) := gL_law_864.1
theorem dL_law_1233 : decode cL_law 1233 = .ok (.aload_n 0, 1) := gL_law_864.2.1
theorem dL_law_1234 : decode cL_law 1234 = .ok (.iload_n 3, 1) := gL_law_864.2.2.1
theorem dL_law_1235 : decode cL_law 1235 = .ok (.iconst 1, 1) := gL_law_864.2.2.2.1
theorem dL_law_1236 : decode cL_law 1236 = .ok (.iadd, 1) := gL_law_864.2.2.2.2.1
theorem dL_law_1237 : decode cL_law 1237 = .ok (.iaload, 1) := gL_law_864.2.2.2.2.2.1
theorem dL_law_1238 : decode cL_law 1238 = .ok (.invokevirtual 129, 3) := gL_law_864.2.2.2.2.2.2.1
theorem dL_law_1241 : decode cL_law 1241 = .ok (.pop, 1) := gL_law_864.2.2.2.2.2.2.2.1
theorem dL_law_1242 : decode cL_law 1242 = .ok (.aload_n 2, 1) := gL_law_864.2.2.2.2.2.2.2.2.1
theorem dL_law_1243 : decode cL_law 1243 = .ok (.aload_n 0, 1) := gL_law_864.2.2.2.2.2.2.2.2.2.1
theorem dL_law_1244 : decode cL_law 1244 = .ok (.iload_n 3, 1) := gL_law_864.2.2.2.2.2.2.2.2.2.2.1
theorem dL_law_1245 : decode cL_law 1245 = .ok (.iconst 1, 1) := gL_law_864.2.2.2.2.2.2.2.2.2.2.2
theorem gL_law_876 : (decode cL_law 1246 = .ok (.iadd, 1)) ∧ (decode cL_law 1247 = .ok (.iaload, 1)) ∧ (decode cL_law 1248 = .ok (.invokevirtual 132, 3)) ∧ (decode cL_law 1251 = .ok (.pop, 1)) ∧ (decode cL_law 1252 = .ok (.goto 365, 3)) ∧ (decode cL_law 1255 = .ok (.aload_n 1, 1)) ∧ (decode cL_law 1256 = .ok (.aload_n 0, 1)) ∧ (decode cL_law 1257 = .ok (.iload_n 3, 1)) ∧ (decode cL_law 1258 = .ok (.iconst 1, 1)) ∧ (decode cL_law 1259 = .ok (.iadd, 1)) ∧ (decode cL_law 1260 = .ok (.iaload, 1)) ∧ (decode cL_law 1261 = .ok (.aload_n 0, 1)) := by decide +kernel
theorem dL_law_1246 : decode cL_law 1246 = .ok (.iadd, 1) := gL_law_876.1
theorem dL_law_1247 : decode cL_law 1247 = .ok (.iaload, 1) := gL_law_876.2.1
theorem dL_law_1248 : decode cL_law 1248 = .ok (.invokevirtual 132, 3) := gL_law_876.2.2.1
theorem dL_law_1251 : decode cL_law 1251 = .ok (.pop, 1) := gL_law_876.2.2.2.1
theorem dL_law_1252 : decode cL_law 1252 = .ok (.goto 365, 3) := gL_law_876.2.2.2.2.1
theorem dL_law_1255 : decode cL_law 1255 = .ok (.aload_n 1, 1) := gL_law_876.2.2.2.2.2.1
theorem dL_law_1256 : decode cL_law 1256 = .ok (.aload_n 0, 1) := gL_law_876.2.2.2.2.2.2.1
theorem dL_law_1257 : decode cL_law 1257 = .ok (.iload_n 3, 1) := gL_law_876.2.2.2.2.2.2.2.1
theorem dL_law_1258 : decode cL_law 1258 = .ok (.iconst 1, 1) := gL_law_876.2.2.2.2.2.2.2.2.1
theorem dL_law_1259 : decode cL_law 1259 = .ok (.iadd, 1) := gL_law_876.2.2.2.2.2.2.2.2.2.1
theorem dL_law_1260 : decode cL_law 1260 = .ok (.iaload, 1) := gL_law_876.2.2.2.2.2.2.2.2.2.2.1
theorem dL_law_1261 : decode cL_law 1261 = .ok (.aload_n 0, 1) := gL_law_876.2.2.2.2.2.2.2.2.2.2.2
theorem gL_law_888 : (decode cL_law 1262 = .ok (.iload_n 3, 1)) ∧ (decode cL_law 1263 = .ok (.iconst 2, 1)) ∧ (decode cL_law 1264 = .ok (.iadd, 1)) ∧ (decode cL_law 1265 = .ok (.iaload, 1)) ∧ (decode cL_law 1266 = .ok (.invokevirtual 133, 3)) ∧ (decode cL_law 1269 = .ok (.pop, 1)) ∧ (decode cL_law 1270 = .ok (.aload_n 2, 1)) ∧ (decode cL_law 1271 = .ok (.aload_n 0, 1)) ∧ (decode cL_law 1272 = .ok (.iload_n 3, 1)) ∧ (decode cL_law 1273 = .ok (.iconst 1, 1)) ∧ (decode cL_law 1274 = .ok (.iadd, 1)) ∧ (decode cL_law 1275 = .ok (.iaload, 1)) := by decide +kernel
theorem dL_law_1262 : decode cL_law 1262 = .ok (.iload_n 3, 1) := gL_law_888.1
theorem dL_law_1263 : decode cL_law 1263 = .ok (.iconst 2, 1) := gL_law_888.2.1
theorem dL_law_1264 : decode cL_law 1264 = .ok (.iadd, 1) := gL_law_888.2.2.1
theorem dL_law_1265 : decode cL_law 1265 = .ok (.iaload, 1) := gL_law_888.2.2.2.1
theorem dL_law_1266 : decode cL_law 1266 = .ok (.invokevirtual 133, 3) := gL_law_888.2.2.2.2.1
theorem dL_law_1269 : decode cL_law 1269 = .ok (.pop, 1) := gL_law_888.2.2.2.2.2.1
theorem dL_law_1270 : decode cL_law 1270 = .ok (.aload_n 2, 1) := gL_law_888.2.2.2.2.2.2.1
theorem dL_law_1271 : decode cL_law 1271 = .ok (.aload_n 0, 1) := gL_law_888.2.2.2.2.2.2.2.1
theorem dL_law_1272 : decode cL_law 1272 = .ok (.iload_n 3, 1) := gL_law_888.2.2.2.2.2.2.2.2.1
theorem dL_law_1273 : decode cL_law 1273 = .ok (.iconst 1, 1) := gL_law_888.2.2.2.2.2.2.2.2.2.1
theorem dL_law_1274 : decode cL_law 1274 = .ok (.iadd, 1) := gL_law_888.2.2.2.2.2.2.2.2.2.2.1
theorem dL_law_1275 : decode cL_law 1275 = .ok (.iaload, 1) := gL_law_888.2.2.2.2.2.2.2.2.2.2.2
theorem gL_law_900 : (decode cL_law 1276 = .ok (.aload_n 0, 1)) ∧ (decode cL_law 1277 = .ok (.iload_n 3, 1)) ∧ (decode cL_law 1278 = .ok (.iconst 2, 1)) ∧ (decode cL_law 1279 = .ok (.iadd, 1)) ∧ (decode cL_law 1280 = .ok (.iaload, 1)) ∧ (decode cL_law 1281 = .ok (.invokevirtual 136, 3)) ∧ (decode cL_law 1284 = .ok (.pop, 1)) ∧ (decode cL_law 1285 = .ok (.goto 332, 3)) ∧ (decode cL_law 1288 = .ok (.aload_n 1, 1)) ∧ (decode cL_law 1289 = .ok (.aload_n 0, 1)) ∧ (decode cL_law 1290 = .ok (.iload_n 3, 1)) ∧ (decode cL_law 1291 = .ok (.iconst 1, 1)) := by decide +kernel
theorem dL_law_1276 : decode cL_law 1276 = .ok (.aload_n 0, 1) := gL_law_900.1
theorem dL_law_1277 : decode cL_law 1277 = .ok (.iload_n 3, 1) := gL_law_900.2.1
theorem dL_law_1278 : decode cL_law 1278 = .ok (.iconst 2, 1) := gL_law_900.2.2.1
theorem dL_law_1279 : decode cL_law 1279 = .ok (.iadd, 1) := gL_law_900.2.2.2.1
theorem dL_law_1280 : decode cL_law 1280 = .ok (.iaload, 1) := gL_law_900.2.2.2.2.1
theorem dL_law_1281 : decode cL_law 1281 = .ok (.invokevirtual 136, 3) := gL_law_900.2.2.2.2.2.1
theorem dL_law_1284 : decode cL_law 1284 = .ok (.pop, 1) := gL_law_900.2.2.2.2.2.2.1
theorem dL_law_1285 : decode cL_law 1285 = .ok (.goto 332, 3) := gL_law_900.2.2.2.2.2.2.2.1
theorem dL_law_1288 : decode cL_law 1288 = .ok (.aload_n 1, 1) := gL_law_900.2.2.2.2.2.2.2.2.1
theorem dL_law_1289 : decode cL_law 1289 = .ok (.aload_n 0, 1) := gL_law_900.2.2.2.2.2.2.2.2.2.1
theorem dL_law_1290 : decode cL_law 1290 = .ok (.iload_n 3, 1) := gL_law_900.2.2.2.2.2.2.2.2.2.2.1
theorem dL_law_1291 : decode cL_law 1291 = .ok (.iconst 1, 1) := gL_law_900.2.2.2.2.2.2.2.2.2.2.2
theorem gL_law_912 : (decode cL_law 1292 = .ok (.iadd, 1)) ∧ (decode cL_law 1293 = .ok (.iaload, 1)) ∧ (decode cL_law 1294 = .ok (.aload_n 0, 1)) ∧ (decode cL_law 1295 = .ok (.iload_n 3, 1)) ∧ (decode cL_law 1296 = .ok (.iconst 2, 1)) ∧ (decode cL_law 1297 = .ok (.iadd, 1)) ∧ (decode cL_law 1298 = .ok (.iaload, 1)) ∧ (decode cL_law 1299 = .ok (.ifCond .eq 7, 3)) ∧ (decode cL_law 1302 = .ok (.iconst 1, 1)) ∧ (decode cL_law 1303 = .ok (.goto 4, 3)) ∧ (decode cL_law 1306 = .ok (.iconst 0, 1)) ∧ (decode cL_law 1307 = .ok (.invokevirtual 137, 3)) := by decide +kernel
theorem dL_law_1292 : decode cL_law 1292 = .ok (.iadd, 1) := gL_law_912.1
theorem dL_law_1293 : decode cL_law 1293 = .ok (.iaload, 1) := gL_law_912.2.1
theorem dL_law_1294 : decode cL_law 1294 = .ok (.aload_n 0, 1) := gL_law_912.2.2.1
theorem dL_law_1295 : decode cL_law 1295 = .ok (.iload_n 3, 1) := gL_law_912.2.2.2.1
theorem dL_law_1296 : decode cL_law 1296 = .ok (.iconst 2, 1) := gL_law_912.2.2.2.2.1
theorem dL_law_1297 : decode cL_law 1297 = .ok (.iadd, 1) := gL_law_912.2.2.2.2.2.1
theorem dL_law_1298 : decode cL_law 1298 = .ok (.iaload, 1) := gL_law_912.2.2.2.2.2.2.1
theorem dL_law_1299 : decode cL_law 1299 = .ok (.ifCond .eq 7, 3) := gL_law_912.2.2.2.2.2.2.2.1
theorem dL_law_1302 : decode cL_law 1302 = .ok (.iconst 1, 1) := gL_law_912.2.2.2.2.2.2.2.2.1
theorem dL_law_1303 : decode cL_law 1303 = .ok (.goto 4, 3) := gL_law_912.2.2.2.2.2.2.2.2.2.1
theorem dL_law_1306 : decode cL_law 1306 = .ok (.iconst 0, 1) := gL_law_912.2.2.2.2.2.2.2.2.2.2.1
theorem dL_law_1307 : decode cL_law 1307 = .ok (.invokevirtual 137, 3) := gL_law_912.2.2.2.2.2.2.2.2.2.2.2
theorem gL_law_924 : (decode cL_law 1310 = .ok (.pop, 1)) ∧ (decode cL_law 1311 = .ok (.aload_n 2, 1)) ∧ (decode cL_law 1312 = .ok (.aload_n 0, 1)) ∧ (decode cL_law 1313 = .ok (.iload_n 3, 1)) ∧ (decode cL_law 1314 = .ok (.iconst 1, 1)) ∧ (decode cL_law 1315 = .ok (.iadd, 1)) ∧ (decode cL_law 1316 = .ok (.iaload, 1)) ∧ (decode cL_law 1317 = .ok (.aload_n 0, 1)) ∧ (decode cL_law 1318 = .ok (.iload_n 3, 1)) ∧ (decode cL_law 1319 = .ok (.iconst 2, 1)) ∧ (decode cL_law 1320 = .ok (.iadd, 1)) ∧ (decode cL_law 1321 = .ok (.iaload, 1)) := by decide +kernel
theorem dL_law_1310 : decode cL_law 1310 = .ok (.pop, 1) := gL_law_924.1
theorem dL_law_1311 : decode cL_law 1311 = .ok (.aload_n 2, 1) := gL_law_924.2.1
theorem dL_law_1312 : decode cL_law 1312 = .ok (.aload_n 0, 1) := gL_law_924.2.2.1
theorem dL_law_1313 : decode cL_law 1313 = .ok (.iload_n 3, 1) := gL_law_924.2.2.2.1
theorem dL_law_1314 : decode cL_law 1314 = .ok (.iconst 1, 1) := gL_law_924.2.2.2.2.1
theorem dL_law_1315 : decode cL_law 1315 = .ok (.iadd, 1) := gL_law_924.2.2.2.2.2.1
theorem dL_law_1316 : decode cL_law 1316 = .ok (.iaload, 1) := gL_law_924.2.2.2.2.2.2.1
theorem dL_law_1317 : decode cL_law 1317 = .ok (.aload_n 0, 1) := gL_law_924.2.2.2.2.2.2.2.1
theorem dL_law_1318 : decode cL_law 1318 = .ok (.iload_n 3, 1) := gL_law_924.2.2.2.2.2.2.2.2.1
theorem dL_law_1319 : decode cL_law 1319 = .ok (.iconst 2, 1) := gL_law_924.2.2.2.2.2.2.2.2.2.1
theorem dL_law_1320 : decode cL_law 1320 = .ok (.iadd, 1) := gL_law_924.2.2.2.2.2.2.2.2.2.2.1
theorem dL_law_1321 : decode cL_law 1321 = .ok (.iaload, 1) := gL_law_924.2.2.2.2.2.2.2.2.2.2.2
theorem gL_law_936 : (decode cL_law 1322 = .ok (.ifCond .eq 7, 3)) ∧ (decode cL_law 1325 = .ok (.iconst 1, 1)) ∧ (decode cL_law 1326 = .ok (.goto 4, 3)) ∧ (decode cL_law 1329 = .ok (.iconst 0, 1)) ∧ (decode cL_law 1330 = .ok (.invokevirtual 141, 3)) ∧ (decode cL_law 1333 = .ok (.pop, 1)) ∧ (decode cL_law 1334 = .ok (.goto 283, 3)) ∧ (decode cL_law 1337 = .ok (.aload_n 1, 1)) ∧ (decode cL_law 1338 = .ok (.invokevirtual 142, 3)) ∧ (decode cL_law 1341 = .ok (.pop, 1)) ∧ (decode cL_law 1342 = .ok (.aload_n 2, 1)) ∧ (decode cL_law 1343 = .ok (.invokevirtual 145, 3)) := by decide +kernel
theorem dL_law_1322 : decode cL_law 1322 = .ok (.ifCond .eq 7, 3) := gL_law_936.1
theorem dL_law_1325 : decode cL_law 1325 = .ok (.iconst 1, 1) := gL_law_936.2.1
theorem dL_law_1326 : decode cL_law 1326 = .ok (.goto 4, 3) := gL_law_936.2.2.1
theorem dL_law_1329 : decode cL_law 1329 = .ok (.iconst 0, 1) := gL_law_936.2.2.2.1
theorem dL_law_1330 : decode cL_law 1330 = .ok (.invokevirtual 141, 3) := gL_law_936.2.2.2.2.1
theorem dL_law_1333 : decode cL_law 1333 = .ok (.pop, 1) := gL_law_936.2.2.2.2.2.1
theorem dL_law_1334 : decode cL_law 1334 = .ok (.goto 283, 3) := gL_law_936.2.2.2.2.2.2.1
theorem dL_law_1337 : decode cL_law 1337 = .ok (.aload_n 1, 1) := gL_law_936.2.2.2.2.2.2.2.1
theorem dL_law_1338 : decode cL_law 1338 = .ok (.invokevirtual 142, 3) := gL_law_936.2.2.2.2.2.2.2.2.1
theorem dL_law_1341 : decode cL_law 1341 = .ok (.pop, 1) := gL_law_936.2.2.2.2.2.2.2.2.2.1
theorem dL_law_1342 : decode cL_law 1342 = .ok (.aload_n 2, 1) := gL_law_936.2.2.2.2.2.2.2.2.2.2.1
theorem dL_law_1343 : decode cL_law 1343 = .ok (.invokevirtual 145, 3) := gL_law_936.2.2.2.2.2.2.2.2.2.2.2
theorem gL_law_948 : (decode cL_law 1346 = .ok (.pop, 1)) ∧ (decode cL_law 1347 = .ok (.goto 270, 3)) ∧ (decode cL_law 1350 = .ok (.aload_n 1, 1)) ∧ (decode cL_law 1351 = .ok (.aload_n 0, 1)) ∧ (decode cL_law 1352 = .ok (.iload_n 3, 1)) ∧ (decode cL_law 1353 = .ok (.iconst 1, 1)) ∧ (decode cL_law 1354 = .ok (.iadd, 1)) ∧ (decode cL_law 1355 = .ok (.iaload, 1)) ∧ (decode cL_law 1356 = .ok (.aload_n 0, 1)) ∧ (decode cL_law 1357 = .ok (.iload_n 3, 1)) ∧ (decode cL_law 1358 = .ok (.iconst 2, 1)) ∧ (decode cL_law 1359 = .ok (.iadd, 1)) := by decide +kernel
theorem dL_law_1346 : decode cL_law 1346 = .ok (.pop, 1) := gL_law_948.1
theorem dL_law_1347 : decode cL_law 1347 = .ok (.goto 270, 3) := gL_law_948.2.1
theorem dL_law_1350 : decode cL_law 1350 = .ok (.aload_n 1, 1) := gL_law_948.2.2.1
theorem dL_law_1351 : decode cL_law 1351 = .ok (.aload_n 0, 1) := gL_law_948.2.2.2.1
theorem dL_law_1352 : decode cL_law 1352 = .ok (.iload_n 3, 1) := gL_law_948.2.2.2.2.1
theorem dL_law_1353 : decode cL_law 1353 = .ok (.iconst 1, 1) := gL_law_948.2.2.2.2.2.1
theorem dL_law_1354 : decode cL_law 1354 = .ok (.iadd, 1) := gL_law_948.2.2.2.2.2.2.1
theorem dL_law_1355 : decode cL_law 1355 = .ok (.iaload, 1) := gL_law_948.2.2.2.2.2.2.2.1
theorem dL_law_1356 : decode cL_law 1356 = .ok (.aload_n 0, 1) := gL_law_948.2.2.2.2.2.2.2.2.1
theorem dL_law_1357 : decode cL_law 1357 = .ok (.iload_n 3, 1) := gL_law_948.2.2.2.2.2.2.2.2.2.1
theorem dL_law_1358 : decode cL_law 1358 = .ok (.iconst 2, 1) := gL_law_948.2.2.2.2.2.2.2.2.2.2.1
theorem dL_law_1359 : decode cL_law 1359 = .ok (.iadd, 1) := gL_law_948.2.2.2.2.2.2.2.2.2.2.2
theorem gL_law_960 : (decode cL_law 1360 = .ok (.iaload, 1)) ∧ (decode cL_law 1361 = .ok (.invokevirtual 146, 3)) ∧ (decode cL_law 1364 = .ok (.pop, 1)) ∧ (decode cL_law 1365 = .ok (.aload_n 2, 1)) ∧ (decode cL_law 1366 = .ok (.aload_n 0, 1)) ∧ (decode cL_law 1367 = .ok (.iload_n 3, 1)) ∧ (decode cL_law 1368 = .ok (.iconst 1, 1)) ∧ (decode cL_law 1369 = .ok (.iadd, 1)) ∧ (decode cL_law 1370 = .ok (.iaload, 1)) ∧ (decode cL_law 1371 = .ok (.aload_n 0, 1)) ∧ (decode cL_law 1372 = .ok (.iload_n 3, 1)) ∧ (decode cL_law 1373 = .ok (.iconst 2, 1)) := by decide +kernel
theorem dL_law_1360 : decode cL_law 1360 = .ok (.iaload, 1) := gL_law_960.1
theorem dL_law_1361 : decode cL_law 1361 = .ok (.invokevirtual 146, 3) := gL_law_960.2.1
theorem dL_law_1364 : decode cL_law 1364 = .ok (.pop, 1) := gL_law_960.2.2.1
theorem dL_law_1365 : decode cL_law 1365 = .ok (.aload_n 2, 1) := gL_law_960.2.2.2.1
theorem dL_law_1366 : decode cL_law 1366 = .ok (.aload_n 0, 1) := gL_law_960.2.2.2.2.1
theorem dL_law_1367 : decode cL_law 1367 = .ok (.iload_n 3, 1) := gL_law_960.2.2.2.2.2.1
theorem dL_law_1368 : decode cL_law 1368 = .ok (.iconst 1, 1) := gL_law_960.2.2.2.2.2.2.1
theorem dL_law_1369 : decode cL_law 1369 = .ok (.iadd, 1) := gL_law_960.2.2.2.2.2.2.2.1
theorem dL_law_1370 : decode cL_law 1370 = .ok (.iaload, 1) := gL_law_960.2.2.2.2.2.2.2.2.1
theorem dL_law_1371 : decode cL_law 1371 = .ok (.aload_n 0, 1) := gL_law_960.2.2.2.2.2.2.2.2.2.1
theorem dL_law_1372 : decode cL_law 1372 = .ok (.iload_n 3, 1) := gL_law_960.2.2.2.2.2.2.2.2.2.2.1
theorem dL_law_1373 : decode cL_law 1373 = .ok (.iconst 2, 1) := gL_law_960.2.2.2.2.2.2.2.2.2.2.2
theorem gL_law_972 : (decode cL_law 1374 = .ok (.iadd, 1)) ∧ (decode cL_law 1375 = .ok (.iaload, 1)) ∧ (decode cL_law 1376 = .ok (.invokevirtual 149, 3)) ∧ (decode cL_law 1379 = .ok (.pop, 1)) ∧ (decode cL_law 1380 = .ok (.goto 237, 3)) ∧ (decode cL_law 1383 = .ok (.aload_n 1, 1)) ∧ (decode cL_law 1384 = .ok (.aload_n 0, 1)) ∧ (decode cL_law 1385 = .ok (.iload_n 3, 1)) ∧ (decode cL_law 1386 = .ok (.iconst 1, 1)) ∧ (decode cL_law 1387 = .ok (.iadd, 1)) ∧ (decode cL_law 1388 = .ok (.iaload, 1)) ∧ (decode cL_law 1389 = .ok (.aload_n 0, 1)) := by decide +kernel
theorem dL_law_1374 : decode cL_law 1374 = .ok (.iadd, 1) := gL_law_972.1
theorem dL_law_1375 : decode cL_law 1375 = .ok (.iaload, 1) := gL_law_972.2.1
theorem dL_law_1376 : decode cL_law 1376 = .ok (.invokevirtual 149, 3) := gL_law_972.2.2.1
theorem dL_law_1379 : decode cL_law 1379 = .ok (.pop, 1) := gL_law_972.2.2.2.1
theorem dL_law_1380 : decode cL_law 1380 = .ok (.goto 237, 3) := gL_law_972.2.2.2.2.1
theorem dL_law_1383 : decode cL_law 1383 = .ok (.aload_n 1, 1) := gL_law_972.2.2.2.2.2.1
theorem dL_law_1384 : decode cL_law 1384 = .ok (.aload_n 0, 1) := gL_law_972.2.2.2.2.2.2.1
theorem dL_law_1385 : decode cL_law 1385 = .ok (.iload_n 3, 1) := gL_law_972.2.2.2.2.2.2.2.1
theorem dL_law_1386 : decode cL_law 1386 = .ok (.iconst 1, 1) := gL_law_972.2.2.2.2.2.2.2.2.1
theorem dL_law_1387 : decode cL_law 1387 = .ok (.iadd, 1) := gL_law_972.2.2.2.2.2.2.2.2.2.1
theorem dL_law_1388 : decode cL_law 1388 = .ok (.iaload, 1) := gL_law_972.2.2.2.2.2.2.2.2.2.2.1
theorem dL_law_1389 : decode cL_law 1389 = .ok (.aload_n 0, 1) := gL_law_972.2.2.2.2.2.2.2.2.2.2.2
theorem gL_law_984 : (decode cL_law 1390 = .ok (.iload_n 3, 1)) ∧ (decode cL_law 1391 = .ok (.iconst 2, 1)) ∧ (decode cL_law 1392 = .ok (.iadd, 1)) ∧ (decode cL_law 1393 = .ok (.iaload, 1)) ∧ (decode cL_law 1394 = .ok (.aload_n 0, 1)) ∧ (decode cL_law 1395 = .ok (.iload_n 3, 1)) ∧ (decode cL_law 1396 = .ok (.iconst 3, 1)) ∧ (decode cL_law 1397 = .ok (.iadd, 1)) ∧ (decode cL_law 1398 = .ok (.iaload, 1)) ∧ (decode cL_law 1399 = .ok (.invokevirtual 150, 3)) ∧ (decode cL_law 1402 = .ok (.pop2, 1)) ∧ (decode cL_law 1403 = .ok (.aload_n 2, 1)) := by decide +kernel
theorem dL_law_1390 : decode cL_law 1390 = .ok (.iload_n 3, 1) := gL_law_984.1
theorem dL_law_1391 : decode cL_law 1391 = .ok (.iconst 2, 1) := gL_law_984.2.1
theorem dL_law_1392 : decode cL_law 1392 = .ok (.iadd, 1) := gL_law_984.2.2.1
theorem dL_law_1393 : decode cL_law 1393 = .ok (.iaload, 1) := gL_law_984.2.2.2.1
theorem dL_law_1394 : decode cL_law 1394 = .ok (.aload_n 0, 1) := gL_law_984.2.2.2.2.1
theorem dL_law_1395 : decode cL_law 1395 = .ok (.iload_n 3, 1) := gL_law_984.2.2.2.2.2.1
theorem dL_law_1396 : decode cL_law 1396 = .ok (.iconst 3, 1) := gL_law_984.2.2.2.2.2.2.1
theorem dL_law_1397 : decode cL_law 1397 = .ok (.iadd, 1) := gL_law_984.2.2.2.2.2.2.2.1
theorem dL_law_1398 : decode cL_law 1398 = .ok (.iaload, 1) := gL_law_984.2.2.2.2.2.2.2.2.1
theorem dL_law_1399 : decode cL_law 1399 = .ok (.invokevirtual 150, 3) := gL_law_984.2.2.2.2.2.2.2.2.2.1
theorem dL_law_1402 : decode cL_law 1402 = .ok (.pop2, 1) := gL_law_984.2.2.2.2.2.2.2.2.2.2.1
theorem dL_law_1403 : decode cL_law 1403 = .ok (.aload_n 2, 1) := gL_law_984.2.2.2.2.2.2.2.2.2.2.2
theorem gL_law_996 : (decode cL_law 1404 = .ok (.aload_n 0, 1)) ∧ (decode cL_law 1405 = .ok (.iload_n 3, 1)) ∧ (decode cL_law 1406 = .ok (.iconst 1, 1)) ∧ (decode cL_law 1407 = .ok (.iadd, 1)) ∧ (decode cL_law 1408 = .ok (.iaload, 1)) ∧ (decode cL_law 1409 = .ok (.aload_n 0, 1)) ∧ (decode cL_law 1410 = .ok (.iload_n 3, 1)) ∧ (decode cL_law 1411 = .ok (.iconst 2, 1)) ∧ (decode cL_law 1412 = .ok (.iadd, 1)) ∧ (decode cL_law 1413 = .ok (.iaload, 1)) ∧ (decode cL_law 1414 = .ok (.aload_n 0, 1)) ∧ (decode cL_law 1415 = .ok (.iload_n 3, 1)) := by decide +kernel
theorem dL_law_1404 : decode cL_law 1404 = .ok (.aload_n 0, 1) := gL_law_996.1
theorem dL_law_1405 : decode cL_law 1405 = .ok (.iload_n 3, 1) := gL_law_996.2.1
theorem dL_law_1406 : decode cL_law 1406 = .ok (.iconst 1, 1) := gL_law_996.2.2.1
theorem dL_law_1407 : decode cL_law 1407 = .ok (.iadd, 1) := gL_law_996.2.2.2.1
theorem dL_law_1408 : decode cL_law 1408 = .ok (.iaload, 1) := gL_law_996.2.2.2.2.1
theorem dL_law_1409 : decode cL_law 1409 = .ok (.aload_n 0, 1) := gL_law_996.2.2.2.2.2.1
theorem dL_law_1410 : decode cL_law 1410 = .ok (.iload_n 3, 1) := gL_law_996.2.2.2.2.2.2.1
theorem dL_law_1411 : decode cL_law 1411 = .ok (.iconst 2, 1) := gL_law_996.2.2.2.2.2.2.2.1
theorem dL_law_1412 : decode cL_law 1412 = .ok (.iadd, 1) := gL_law_996.2.2.2.2.2.2.2.2.1
theorem dL_law_1413 : decode cL_law 1413 = .ok (.iaload, 1) := gL_law_996.2.2.2.2.2.2.2.2.2.1
theorem dL_law_1414 : decode cL_law 1414 = .ok (.aload_n 0, 1) := gL_law_996.2.2.2.2.2.2.2.2.2.2.1
theorem dL_law_1415 : decode cL_law 1415 = .ok (.iload_n 3, 1) := gL_law_996.2.2.2.2.2.2.2.2.2.2.2
theorem gL_law_1008 : (decode cL_law 1416 = .ok (.iconst 3, 1)) ∧ (decode cL_law 1417 = .ok (.iadd, 1)) ∧ (decode cL_law 1418 = .ok (.iaload, 1)) ∧ (decode cL_law 1419 = .ok (.invokevirtual 153, 3)) ∧ (decode cL_law 1422 = .ok (.pop2, 1)) ∧ (decode cL_law 1423 = .ok (.goto 194, 3)) ∧ (decode cL_law 1426 = .ok (.aload_n 1, 1)) ∧ (decode cL_law 1427 = .ok (.aload_n 0, 1)) ∧ (decode cL_law 1428 = .ok (.iload_n 3, 1)) ∧ (decode cL_law 1429 = .ok (.iconst 1, 1)) ∧ (decode cL_law 1430 = .ok (.iadd, 1)) ∧ (decode cL_law 1431 = .ok (.iaload, 1)) := by decide +kernel
theorem dL_law_1416 : decode cL_law 1416 = .ok (.iconst 3, 1) := gL_law_1008.1
theorem dL_law_1417 : decode cL_law 1417 = .ok (.iadd, 1) := gL_law_1008.2.1
theorem dL_law_1418 : decode cL_law 1418 = .ok (.iaload, 1) := gL_law_1008.2.2.1
theorem dL_law_1419 : decode cL_law 1419 = .ok (.invokevirtual 153, 3) := gL_law_1008.2.2.2.1
theorem dL_law_1422 : decode cL_law 1422 = .ok (.pop2, 1) := gL_law_1008.2.2.2.2.1
theorem dL_law_1423 : decode cL_law 1423 = .ok (.goto 194, 3) := gL_law_1008.2.2.2.2.2.1
theorem dL_law_1426 : decode cL_law 1426 = .ok (.aload_n 1, 1) := gL_law_1008.2.2.2.2.2.2.1
theorem dL_law_1427 : decode cL_law 1427 = .ok (.aload_n 0, 1) := gL_law_1008.2.2.2.2.2.2.2.1
theorem dL_law_1428 : decode cL_law 1428 = .ok (.iload_n 3, 1) := gL_law_1008.2.2.2.2.2.2.2.2.1
theorem dL_law_1429 : decode cL_law 1429 = .ok (.iconst 1, 1) := gL_law_1008.2.2.2.2.2.2.2.2.2.1
theorem dL_law_1430 : decode cL_law 1430 = .ok (.iadd, 1) := gL_law_1008.2.2.2.2.2.2.2.2.2.2.1
theorem dL_law_1431 : decode cL_law 1431 = .ok (.iaload, 1) := gL_law_1008.2.2.2.2.2.2.2.2.2.2.2
theorem gL_law_1020 : (decode cL_law 1432 = .ok (.aload_n 0, 1)) ∧ (decode cL_law 1433 = .ok (.iload_n 3, 1)) ∧ (decode cL_law 1434 = .ok (.iconst 2, 1)) ∧ (decode cL_law 1435 = .ok (.iadd, 1)) ∧ (decode cL_law 1436 = .ok (.iaload, 1)) ∧ (decode cL_law 1437 = .ok (.aload_n 0, 1)) ∧ (decode cL_law 1438 = .ok (.iload_n 3, 1)) ∧ (decode cL_law 1439 = .ok (.iconst 3, 1)) ∧ (decode cL_law 1440 = .ok (.iadd, 1)) ∧ (decode cL_law 1441 = .ok (.iaload, 1)) ∧ (decode cL_law 1442 = .ok (.invokevirtual 154, 3)) ∧ (decode cL_law 1445 = .ok (.pop, 1)) := by decide +kernel
theorem dL_law_1432 : decode cL_law 1432 = .ok (.aload_n 0, 1) := gL_law_1020.1
theorem dL_law_1433 : decode cL_law 1433 = .ok (.iload_n 3, 1) := gL_law_1020.2.1
theorem dL_law_1434 : decode cL_law 1434 = .ok (.iconst 2, 1) := gL_law_1020.2.2.1
theorem dL_law_1435 : decode cL_law 1435 = .ok (.iadd, 1) := gL_law_1020.2.2.2.1
theorem dL_law_1436 : decode cL_law 1436 = .ok (.iaload, 1) := gL_law_1020.2.2.2.2.1
theorem dL_law_1437 : decode cL_law 1437 = .ok (.aload_n 0, 1) := gL_law_1020.2.2.2.2.2.1
theorem dL_law_1438 : decode cL_law 1438 = .ok (.iload_n 3, 1) := gL_law_1020.2.2.2.2.2.2.1
theorem dL_law_1439 : decode cL_law 1439 = .ok (.iconst 3, 1) := gL_law_1020.2.2.2.2.2.2.2.1
theorem dL_law_1440 : decode cL_law 1440 = .ok (.iadd, 1) := gL_law_1020.2.2.2.2.2.2.2.2.1
theorem dL_law_1441 : decode cL_law 1441 = .ok (.iaload, 1) := gL_law_1020.2.2.2.2.2.2.2.2.2.1
theorem dL_law_1442 : decode cL_law 1442 = .ok (.invokevirtual 154, 3) := gL_law_1020.2.2.2.2.2.2.2.2.2.2.1
theorem dL_law_1445 : decode cL_law 1445 = .ok (.pop, 1) := gL_law_1020.2.2.2.2.2.2.2.2.2.2.2
theorem gL_law_1032 : (decode cL_law 1446 = .ok (.aload_n 2, 1)) ∧ (decode cL_law 1447 = .ok (.aload_n 0, 1)) ∧ (decode cL_law 1448 = .ok (.iload_n 3, 1)) ∧ (decode cL_law 1449 = .ok (.iconst 1, 1)) ∧ (decode cL_law 1450 = .ok (.iadd, 1)) ∧ (decode cL_law 1451 = .ok (.iaload, 1)) ∧ (decode cL_law 1452 = .ok (.aload_n 0, 1)) ∧ (decode cL_law 1453 = .ok (.iload_n 3, 1)) ∧ (decode cL_law 1454 = .ok (.iconst 2, 1)) ∧ (decode cL_law 1455 = .ok (.iadd, 1)) ∧ (decode cL_law 1456 = .ok (.iaload, 1)) ∧ (decode cL_law 1457 = .ok (.aload_n 0, 1)) := by decide +kernel
theorem dL_law_1446 : decode cL_law 1446 = .ok (.aload_n 2, 1) := gL_law_1032.1
theorem dL_law_1447 : decode cL_law 1447 = .ok (.aload_n 0, 1) := gL_law_1032.2.1
theorem dL_law_1448 : decode cL_law 1448 = .ok (.iload_n 3, 1) := gL_law_1032.2.2.1
theorem dL_law_1449 : decode cL_law 1449 = .ok (.iconst 1, 1) := gL_law_1032.2.2.2.1
theorem dL_law_1450 : decode cL_law 1450 = .ok (.iadd, 1) := gL_law_1032.2.2.2.2.1
theorem dL_law_1451 : decode cL_law 1451 = .ok (.iaload, 1) := gL_law_1032.2.2.2.2.2.1
theorem dL_law_1452 : decode cL_law 1452 = .ok (.aload_n 0, 1) := gL_law_1032.2.2.2.2.2.2.1
theorem dL_law_1453 : decode cL_law 1453 = .ok (.iload_n 3, 1) := gL_law_1032.2.2.2.2.2.2.2.1
theorem dL_law_1454 : decode cL_law 1454 = .ok (.iconst 2, 1) := gL_law_1032.2.2.2.2.2.2.2.2.1
theorem dL_law_1455 : decode cL_law 1455 = .ok (.iadd, 1) := gL_law_1032.2.2.2.2.2.2.2.2.2.1
theorem dL_law_1456 : decode cL_law 1456 = .ok (.iaload, 1) := gL_law_1032.2.2.2.2.2.2.2.2.2.2.1
theorem dL_law_1457 : decode cL_law 1457 = .ok (.aload_n 0, 1) := gL_law_1032.2.2.2.2.2.2.2.2.2.2.2
theorem gL_law_1044 : (decode cL_law 1458 = .ok (.iload_n 3, 1)) ∧ (decode cL_law 1459 = .ok (.iconst 3, 1)) ∧ (decode cL_law 1460 = .ok (.iadd, 1)) ∧ (decode cL_law 1461 = .ok (.iaload, 1)) ∧ (decode cL_law 1462 = .ok (.invokevirtual 157, 3)) ∧ (decode cL_law 1465 = .ok (.pop, 1)) ∧ (decode cL_law 1466 = .ok (.goto 151, 3)) ∧ (decode cL_law 1469 = .ok (.aload_n 1, 1)) ∧ (decode cL_law 1470 = .ok (.aload_n 0, 1)) ∧ (decode cL_law 1471 = .ok (.iload_n 3, 1)) ∧ (decode cL_law 1472 = .ok (.iconst 1, 1)) ∧ (decode cL_law 1473 = .ok (.iadd, 1)) := by decide +kernel
theorem dL_law_1458 : decode cL_law 1458 = .ok (.iload_n 3, 1) := gL_law_1044.1
theorem dL_law_1459 : decode cL_law 1459 = .ok (.iconst 3, 1) := gL_law_1044.2.1
theorem dL_law_1460 : decode cL_law 1460 = .ok (.iadd, 1) := gL_law_1044.2.2.1
theorem dL_law_1461 : decode cL_law 1461 = .ok (.iaload, 1) := gL_law_1044.2.2.2.1
theorem dL_law_1462 : decode cL_law 1462 = .ok (.invokevirtual 157, 3) := gL_law_1044.2.2.2.2.1
theorem dL_law_1465 : decode cL_law 1465 = .ok (.pop, 1) := gL_law_1044.2.2.2.2.2.1
theorem dL_law_1466 : decode cL_law 1466 = .ok (.goto 151, 3) := gL_law_1044.2.2.2.2.2.2.1
theorem dL_law_1469 : decode cL_law 1469 = .ok (.aload_n 1, 1) := gL_law_1044.2.2.2.2.2.2.2.1
theorem dL_law_1470 : decode cL_law 1470 = .ok (.aload_n 0, 1) := gL_law_1044.2.2.2.2.2.2.2.2.1
theorem dL_law_1471 : decode cL_law 1471 = .ok (.iload_n 3, 1) := gL_law_1044.2.2.2.2.2.2.2.2.2.1
theorem dL_law_1472 : decode cL_law 1472 = .ok (.iconst 1, 1) := gL_law_1044.2.2.2.2.2.2.2.2.2.2.1
theorem dL_law_1473 : decode cL_law 1473 = .ok (.iadd, 1) := gL_law_1044.2.2.2.2.2.2.2.2.2.2.2
theorem gL_law_1056 : (decode cL_law 1474 = .ok (.iaload, 1)) ∧ (decode cL_law 1475 = .ok (.aload_n 0, 1)) ∧ (decode cL_law 1476 = .ok (.iload_n 3, 1)) ∧ (decode cL_law 1477 = .ok (.iconst 2, 1)) ∧ (decode cL_law 1478 = .ok (.iadd, 1)) ∧ (decode cL_law 1479 = .ok (.iaload, 1)) ∧ (decode cL_law 1480 = .ok (.invokevirtual 158, 3)) ∧ (decode cL_law 1483 = .ok (.pop, 1)) ∧ (decode cL_law 1484 = .ok (.aload_n 2, 1)) ∧ (decode cL_law 1485 = .ok (.aload_n 0, 1)) ∧ (decode cL_law 1486 = .ok (.iload_n 3, 1)) ∧ (decode cL_law 1487 = .ok (.iconst 1, 1)) := by decide +kernel
theorem dL_law_1474 : decode cL_law 1474 = .ok (.iaload, 1) := gL_law_1056.1
theorem dL_law_1475 : decode cL_law 1475 = .ok (.aload_n 0, 1) := gL_law_1056.2.1
theorem dL_law_1476 : decode cL_law 1476 = .ok (.iload_n 3, 1) := gL_law_1056.2.2.1
theorem dL_law_1477 : decode cL_law 1477 = .ok (.iconst 2, 1) := gL_law_1056.2.2.2.1
theorem dL_law_1478 : decode cL_law 1478 = .ok (.iadd, 1) := gL_law_1056.2.2.2.2.1
theorem dL_law_1479 : decode cL_law 1479 = .ok (.iaload, 1) := gL_law_1056.2.2.2.2.2.1
theorem dL_law_1480 : decode cL_law 1480 = .ok (.invokevirtual 158, 3) := gL_law_1056.2.2.2.2.2.2.1
theorem dL_law_1483 : decode cL_law 1483 = .ok (.pop, 1) := gL_law_1056.2.2.2.2.2.2.2.1
theorem dL_law_1484 : decode cL_law 1484 = .ok (.aload_n 2, 1) := gL_law_1056.2.2.2.2.2.2.2.2.1
theorem dL_law_1485 : decode cL_law 1485 = .ok (.aload_n 0, 1) := gL_law_1056.2.2.2.2.2.2.2.2.2.1
theorem dL_law_1486 : decode cL_law 1486 = .ok (.iload_n 3, 1) := gL_law_1056.2.2.2.2.2.2.2.2.2.2.1
theorem dL_law_1487 : decode cL_law 1487 = .ok (.iconst 1, 1) := gL_law_1056.2.2.2.2.2.2.2.2.2.2.2
theorem gL_law_1068 : (decode cL_law 1488 = .ok (.iadd, 1)) ∧ (decode cL_law 1489 = .ok (.iaload, 1)) ∧ (decode cL_law 1490 = .ok (.aload_n 0, 1)) ∧ (decode cL_law 1491 = .ok (.iload_n 3, 1)) ∧ (decode cL_law 1492 = .ok (.iconst 2, 1)) ∧ (decode cL_law 1493 = .ok (.iadd, 1)) ∧ (decode cL_law 1494 = .ok (.iaload, 1)) ∧ (decode cL_law 1495 = .ok (.invokevirtual 161, 3)) ∧ (decode cL_law 1498 = .ok (.pop, 1)) ∧ (decode cL_law 1499 = .ok (.goto 118, 3)) ∧ (decode cL_law 1502 = .ok (.aload_n 1, 1)) ∧ (decode cL_law 1503 = .ok (.aload_n 0, 1)) := by decide +kernel
theorem dL_law_1488 : decode cL_law 1488 = .ok (.iadd, 1) := gL_law_1068.1
theorem dL_law_1489 : decode cL_law 1489 = .ok (.iaload, 1) := gL_law_1068.2.1
theorem dL_law_1490 : decode cL_law 1490 = .ok (.aload_n 0, 1) := gL_law_1068.2.2.1
theorem dL_law_1491 : decode cL_law 1491 = .ok (.iload_n 3, 1) := gL_law_1068.2.2.2.1
theorem dL_law_1492 : decode cL_law 1492 = .ok (.iconst 2, 1) := gL_law_1068.2.2.2.2.1
theorem dL_law_1493 : decode cL_law 1493 = .ok (.iadd, 1) := gL_law_1068.2.2.2.2.2.1
theorem dL_law_1494 : decode cL_law 1494 = .ok (.iaload, 1) := gL_law_1068.2.2.2.2.2.2.1
theorem dL_law_1495 : decode cL_law 1495 = .ok (.invokevirtual 161, 3) := gL_law_1068.2.2.2.2.2.2.2.1
theorem dL_law_1498 : decode cL_law 1498 = .ok (.pop, 1) := gL_law_1068.2.2.2.2.2.2.2.2.1
theorem dL_law_1499 : decode cL_law 1499 = .ok (.goto 118, 3) := gL_law_1068.2.2.2.2.2.2.2.2.2.1
theorem dL_law_1502 : decode cL_law 1502 = .ok (.aload_n 1, 1) := gL_law_1068.2.2.2.2.2.2.2.2.2.2.1
theorem dL_law_1503 : decode cL_law 1503 = .ok (.aload_n 0, 1) := gL_law_1068.2.2.2.2.2.2.2.2.2.2.2
theorem gL_law_1080 : (decode cL_law 1504 = .ok (.iload_n 3, 1)) ∧ (decode cL_law 1505 = .ok (.iconst 1, 1)) ∧ (decode cL_law 1506 = .ok (.iadd, 1)) ∧ (decode cL_law 1507 = .ok (.iaload, 1)) ∧ (decode cL_law 1508 = .ok (.aload_n 0, 1)) ∧ (decode cL_law 1509 = .ok (.iload_n 3, 1)) ∧ (decode cL_law 1510 = .ok (.iconst 2, 1)) ∧ (decode cL_law 1511 = .ok (.iadd, 1)) ∧ (decode cL_law 1512 = .ok (.iaload, 1)) ∧ (decode cL_law 1513 = .ok (.invokevirtual 162, 3)) ∧ (decode cL_law 1516 = .ok (.pop, 1)) ∧ (decode cL_law 1517 = .ok (.aload_n 2, 1)) := by decide +kernel
theorem dL_law_1504 : decode cL_law 1504 = .ok (.iload_n 3, 1) := gL_law_1080.1
theorem dL_law_1505 : decode cL_law 1505 = .ok (.iconst 1, 1) := gL_law_1080.2.1
theorem dL_law_1506 : decode cL_law 1506 = .ok (.iadd, 1) := gL_law_1080.2.2.1
theorem dL_law_1507 : decode cL_law 1507 = .ok (.iaload, 1) := gL_law_1080.2.2.2.1
theorem dL_law_1508 : decode cL_law 1508 = .ok (.aload_n 0, 1) := gL_law_1080.2.2.2.2.1
theorem dL_law_1509 : decode cL_law 1509 = .ok (.iload_n 3, 1) := gL_law_1080.2.2.2.2.2.1
theorem dL_law_1510 : decode cL_law 1510 = .ok (.iconst 2, 1) := gL_law_1080.2.2.2.2.2.2.1
theorem dL_law_1511 : decode cL_law 1511 = .ok (.iadd, 1) := gL_law_1080.2.2.2.2.2.2.2.1
theorem dL_law_1512 : decode cL_law 1512 = .ok (.iaload, 1) := gL_law_1080.2.2.2.2.2.2.2.2.1
theorem dL_law_1513 : decode cL_law 1513 = .ok (.invokevirtual 162, 3) := gL_law_1080.2.2.2.2.2.2.2.2.2.1
theorem dL_law_1516 : decode cL_law 1516 = .ok (.pop, 1) := gL_law_1080.2.2.2.2.2.2.2.2.2.2.1
theorem dL_law_1517 : decode cL_law 1517 = .ok (.aload_n 2, 1) := gL_law_1080.2.2.2.2.2.2.2.2.2.2.2
theorem gL_law_1092 : (decode cL_law 1518 = .ok (.aload_n 0, 1)) ∧ (decode cL_law 1519 = .ok (.iload_n 3, 1)) ∧ (decode cL_law 1520 = .ok (.iconst 1, 1)) ∧ (decode cL_law 1521 = .ok (.iadd, 1)) ∧ (decode cL_law 1522 = .ok (.iaload, 1)) ∧ (decode cL_law 1523 = .ok (.aload_n 0, 1)) ∧ (decode cL_law 1524 = .ok (.iload_n 3, 1)) ∧ (decode cL_law 1525 = .ok (.iconst 2, 1)) ∧ (decode cL_law 1526 = .ok (.iadd, 1)) ∧ (decode cL_law 1527 = .ok (.iaload, 1)) ∧ (decode cL_law 1528 = .ok (.invokevirtual 165, 3)) ∧ (decode cL_law 1531 = .ok (.pop, 1)) := by decide +kernel
theorem dL_law_1518 : decode cL_law 1518 = .ok (.aload_n 0, 1) := gL_law_1092.1
theorem dL_law_1519 : decode cL_law 1519 = .ok (.iload_n 3, 1) := gL_law_1092.2.1
theorem dL_law_1520 : decode cL_law 1520 = .ok (.iconst 1, 1) := gL_law_1092.2.2.1
theorem dL_law_1521 : decode cL_law 1521 = .ok (.iadd, 1) := gL_law_1092.2.2.2.1
theorem dL_law_1522 : decode cL_law 1522 = .ok (.iaload, 1) := gL_law_1092.2.2.2.2.1
theorem dL_law_1523 : decode cL_law 1523 = .ok (.aload_n 0, 1) := gL_law_1092.2.2.2.2.2.1
theorem dL_law_1524 : decode cL_law 1524 = .ok (.iload_n 3, 1) := gL_law_1092.2.2.2.2.2.2.1
theorem dL_law_1525 : decode cL_law 1525 = .ok (.iconst 2, 1) := gL_law_1092.2.2.2.2.2.2.2.1
theorem dL_law_1526 : decode cL_law 1526 = .ok (.iadd, 1) := gL_law_1092.2.2.2.2.2.2.2.2.1
theorem dL_law_1527 : decode cL_law 1527 = .ok (.iaload, 1) := gL_law_1092.2.2.2.2.2.2.2.2.2.1
theorem dL_law_1528 : decode cL_law 1528 = .ok (.invokevirtual 165, 3) := gL_law_1092.2.2.2.2.2.2.2.2.2.2.1
theorem dL_law_1531 : decode cL_law 1531 = .ok (.pop, 1) := gL_law_1092.2.2.2.2.2.2.2.2.2.2.2
theorem gL_law_1104 : (decode cL_law 1532 = .ok (.goto 85, 3)) ∧ (decode cL_law 1535 = .ok (.aload_n 1, 1)) ∧ (decode cL_law 1536 = .ok (.aload_n 0, 1)) ∧ (decode cL_law 1537 = .ok (.iload_n 3, 1)) ∧ (decode cL_law 1538 = .ok (.iconst 1, 1)) ∧ (decode cL_law 1539 = .ok (.iadd, 1)) ∧ (decode cL_law 1540 = .ok (.iaload, 1)) ∧ (decode cL_law 1541 = .ok (.invokevirtual 166, 3)) ∧ (decode cL_law 1544 = .ok (.pop, 1)) ∧ (decode cL_law 1545 = .ok (.aload_n 2, 1)) ∧ (decode cL_law 1546 = .ok (.aload_n 0, 1)) ∧ (decode cL_law 1547 = .ok (.iload_n 3, 1)) := by decide +kernel
theorem dL_law_1532 : decode cL_law 1532 = .ok (.goto 85, 3) := gL_law_1104.1
theorem dL_law_1535 : decode cL_law 1535 = .ok (.aload_n 1, 1) := gL_law_1104.2.1
theorem dL_law_1536 : decode cL_law 1536 = .ok (.aload_n 0, 1) := gL_law_1104.2.2.1
theorem dL_law_1537 : decode cL_law 1537 = .ok (.iload_n 3, 1) := gL_law_1104.2.2.2.1
theorem dL_law_1538 : decode cL_law 1538 = .ok (.iconst 1, 1) := gL_law_1104.2.2.2.2.1
theorem dL_law_1539 : decode cL_law 1539 = .ok (.iadd, 1) := gL_law_1104.2.2.2.2.2.1
theorem dL_law_1540 : decode cL_law 1540 = .ok (.iaload, 1) := gL_law_1104.2.2.2.2.2.2.1
theorem dL_law_1541 : decode cL_law 1541 = .ok (.invokevirtual 166, 3) := gL_law_1104.2.2.2.2.2.2.2.1
theorem dL_law_1544 : decode cL_law 1544 = .ok (.pop, 1) := gL_law_1104.2.2.2.2.2.2.2.2.1
theorem dL_law_1545 : decode cL_law 1545 = .ok (.aload_n 2, 1) := gL_law_1104.2.2.2.2.2.2.2.2.2.1
theorem dL_law_1546 : decode cL_law 1546 = .ok (.aload_n 0, 1) := gL_law_1104.2.2.2.2.2.2.2.2.2.2.1
theorem dL_law_1547 : decode cL_law 1547 = .ok (.iload_n 3, 1) := gL_law_1104.2.2.2.2.2.2.2.2.2.2.2
theorem gL_law_1116 : (decode cL_law 1548 = .ok (.iconst 1, 1)) ∧ (decode cL_law 1549 = .ok (.iadd, 1)) ∧ (decode cL_law 1550 = .ok (.iaload, 1)) ∧ (decode cL_law 1551 = .ok (.invokevirtual 169, 3)) ∧ (decode cL_law 1554 = .ok (.pop, 1)) ∧ (decode cL_law 1555 = .ok (.goto 62, 3)) ∧ (decode cL_law 1558 = .ok (.aload_n 1, 1)) ∧ (decode cL_law 1559 = .ok (.invokevirtual 170, 3)) ∧ (decode cL_law 1562 = .ok (.pop, 1)) ∧ (decode cL_law 1563 = .ok (.aload_n 2, 1)) ∧ (decode cL_law 1564 = .ok (.invokevirtual 173, 3)) ∧ (decode cL_law 1567 = .ok (.pop, 1)) := by decide +kernel
theorem dL_law_1548 : decode cL_law 1548 = .ok (.iconst 1, 1) := gL_law_1116.1
theorem dL_law_1549 : decode cL_law 1549 = .ok (.iadd, 1) := gL_law_1116.2.1
theorem dL_law_1550 : decode cL_law 1550 = .ok (.iaload, 1) := gL_law_1116.2.2.1
theorem dL_law_1551 : decode cL_law 1551 = .ok (.invokevirtual 169, 3) := gL_law_1116.2.2.2.1
theorem dL_law_1554 : decode cL_law 1554 = .ok (.pop, 1) := gL_law_1116.2.2.2.2.1
theorem dL_law_1555 : decode cL_law 1555 = .ok (.goto 62, 3) := gL_law_1116.2.2.2.2.2.1
theorem dL_law_1558 : decode cL_law 1558 = .ok (.aload_n 1, 1) := gL_law_1116.2.2.2.2.2.2.1
theorem dL_law_1559 : decode cL_law 1559 = .ok (.invokevirtual 170, 3) := gL_law_1116.2.2.2.2.2.2.2.1
theorem dL_law_1562 : decode cL_law 1562 = .ok (.pop, 1) := gL_law_1116.2.2.2.2.2.2.2.2.1
theorem dL_law_1563 : decode cL_law 1563 = .ok (.aload_n 2, 1) := gL_law_1116.2.2.2.2.2.2.2.2.2.1
theorem dL_law_1564 : decode cL_law 1564 = .ok (.invokevirtual 173, 3) := gL_law_1116.2.2.2.2.2.2.2.2.2.2.1
theorem dL_law_1567 : decode cL_law 1567 = .ok (.pop, 1) := gL_law_1116.2.2.2.2.2.2.2.2.2.2.2
theorem gL_law_1128 : (decode cL_law 1568 = .ok (.goto 49, 3)) ∧ (decode cL_law 1571 = .ok (.aload_n 1, 1)) ∧ (decode cL_law 1572 = .ok (.aload_n 0, 1)) ∧ (decode cL_law 1573 = .ok (.iload_n 3, 1)) ∧ (decode cL_law 1574 = .ok (.iconst 1, 1)) ∧ (decode cL_law 1575 = .ok (.iadd, 1)) ∧ (decode cL_law 1576 = .ok (.iaload, 1)) ∧ (decode cL_law 1577 = .ok (.invokevirtual 174, 3)) ∧ (decode cL_law 1580 = .ok (.pop, 1)) ∧ (decode cL_law 1581 = .ok (.aload_n 2, 1)) ∧ (decode cL_law 1582 = .ok (.aload_n 0, 1)) ∧ (decode cL_law 1583 = .ok (.iload_n 3, 1)) := by decide +kernel
theorem dL_law_1568 : decode cL_law 1568 = .ok (.goto 49, 3) := gL_law_1128.1
theorem dL_law_1571 : decode cL_law 1571 = .ok (.aload_n 1, 1) := gL_law_1128.2.1
theorem dL_law_1572 : decode cL_law 1572 = .ok (.aload_n 0, 1) := gL_law_1128.2.2.1
theorem dL_law_1573 : decode cL_law 1573 = .ok (.iload_n 3, 1) := gL_law_1128.2.2.2.1
theorem dL_law_1574 : decode cL_law 1574 = .ok (.iconst 1, 1) := gL_law_1128.2.2.2.2.1
theorem dL_law_1575 : decode cL_law 1575 = .ok (.iadd, 1) := gL_law_1128.2.2.2.2.2.1
theorem dL_law_1576 : decode cL_law 1576 = .ok (.iaload, 1) := gL_law_1128.2.2.2.2.2.2.1
theorem dL_law_1577 : decode cL_law 1577 = .ok (.invokevirtual 174, 3) := gL_law_1128.2.2.2.2.2.2.2.1
theorem dL_law_1580 : decode cL_law 1580 = .ok (.pop, 1) := gL_law_1128.2.2.2.2.2.2.2.2.1
theorem dL_law_1581 : decode cL_law 1581 = .ok (.aload_n 2, 1) := gL_law_1128.2.2.2.2.2.2.2.2.2.1
theorem dL_law_1582 : decode cL_law 1582 = .ok (.aload_n 0, 1) := gL_law_1128.2.2.2.2.2.2.2.2.2.2.1
theorem dL_law_1583 : decode cL_law 1583 = .ok (.iload_n 3, 1) := gL_law_1128.2.2.2.2.2.2.2.2.2.2.2
theorem gL_law_1140 : (decode cL_law 1584 = .ok (.iconst 1, 1)) ∧ (decode cL_law 1585 = .ok (.iadd, 1)) ∧ (decode cL_law 1586 = .ok (.iaload, 1)) ∧ (decode cL_law 1587 = .ok (.invokevirtual 177, 3)) ∧ (decode cL_law 1590 = .ok (.pop, 1)) ∧ (decode cL_law 1591 = .ok (.goto 26, 3)) ∧ (decode cL_law 1594 = .ok (.aload_n 1, 1)) ∧ (decode cL_law 1595 = .ok (.aload_n 0, 1)) ∧ (decode cL_law 1596 = .ok (.iload_n 3, 1)) ∧ (decode cL_law 1597 = .ok (.iconst 1, 1)) ∧ (decode cL_law 1598 = .ok (.iadd, 1)) ∧ (decode cL_law 1599 = .ok (.iaload, 1)) := by decide +kernel
theorem dL_law_1584 : decode cL_law 1584 = .ok (.iconst 1, 1) := gL_law_1140.1
theorem dL_law_1585 : decode cL_law 1585 = .ok (.iadd, 1) := gL_law_1140.2.1
theorem dL_law_1586 : decode cL_law 1586 = .ok (.iaload, 1) := gL_law_1140.2.2.1
theorem dL_law_1587 : decode cL_law 1587 = .ok (.invokevirtual 177, 3) := gL_law_1140.2.2.2.1
theorem dL_law_1590 : decode cL_law 1590 = .ok (.pop, 1) := gL_law_1140.2.2.2.2.1
theorem dL_law_1591 : decode cL_law 1591 = .ok (.goto 26, 3) := gL_law_1140.2.2.2.2.2.1
theorem dL_law_1594 : decode cL_law 1594 = .ok (.aload_n 1, 1) := gL_law_1140.2.2.2.2.2.2.1
theorem dL_law_1595 : decode cL_law 1595 = .ok (.aload_n 0, 1) := gL_law_1140.2.2.2.2.2.2.2.1
theorem dL_law_1596 : decode cL_law 1596 = .ok (.iload_n 3, 1) := gL_law_1140.2.2.2.2.2.2.2.2.1
theorem dL_law_1597 : decode cL_law 1597 = .ok (.iconst 1, 1) := gL_law_1140.2.2.2.2.2.2.2.2.2.1
theorem dL_law_1598 : decode cL_law 1598 = .ok (.iadd, 1) := gL_law_1140.2.2.2.2.2.2.2.2.2.2.1
theorem dL_law_1599 : decode cL_law 1599 = .ok (.iaload, 1) := gL_law_1140.2.2.2.2.2.2.2.2.2.2.2
theorem gL_law_1152 : (decode cL_law 1600 = .ok (.invokevirtual 178, 3)) ∧ (decode cL_law 1603 = .ok (.pop, 1)) ∧ (decode cL_law 1604 = .ok (.aload_n 2, 1)) ∧ (decode cL_law 1605 = .ok (.aload_n 0, 1)) ∧ (decode cL_law 1606 = .ok (.iload_n 3, 1)) ∧ (decode cL_law 1607 = .ok (.iconst 1, 1)) ∧ (decode cL_law 1608 = .ok (.iadd, 1)) ∧ (decode cL_law 1609 = .ok (.iaload, 1)) ∧ (decode cL_law 1610 = .ok (.invokevirtual 181, 3)) ∧ (decode cL_law 1613 = .ok (.pop, 1)) ∧ (decode cL_law 1614 = .ok (.goto 3, 3)) ∧ (decode cL_law 1617 = .ok (.iinc 3 10, 3)) := by decide +kernel
theorem dL_law_1600 : decode cL_law 1600 = .ok (.invokevirtual 178, 3) := gL_law_1152.1
theorem dL_law_1603 : decode cL_law 1603 = .ok (.pop, 1) := gL_law_1152.2.1
theorem dL_law_1604 : decode cL_law 1604 = .ok (.aload_n 2, 1) := gL_law_1152.2.2.1
theorem dL_law_1605 : decode cL_law 1605 = .ok (.aload_n 0, 1) := gL_law_1152.2.2.2.1
theorem dL_law_1606 : decode cL_law 1606 = .ok (.iload_n 3, 1) := gL_law_1152.2.2.2.2.1
theorem dL_law_1607 : decode cL_law 1607 = .ok (.iconst 1, 1) := gL_law_1152.2.2.2.2.2.1
theorem dL_law_1608 : decode cL_law 1608 = .ok (.iadd, 1) := gL_law_1152.2.2.2.2.2.2.1
theorem dL_law_1609 : decode cL_law 1609 = .ok (.iaload, 1) := gL_law_1152.2.2.2.2.2.2.2.1
theorem dL_law_1610 : decode cL_law 1610 = .ok (.invokevirtual 181, 3) := gL_law_1152.2.2.2.2.2.2.2.2.1
theorem dL_law_1613 : decode cL_law 1613 = .ok (.pop, 1) := gL_law_1152.2.2.2.2.2.2.2.2.2.1
theorem dL_law_1614 : decode cL_law 1614 = .ok (.goto 3, 3) := gL_law_1152.2.2.2.2.2.2.2.2.2.2.1
theorem dL_law_1617 : decode cL_law 1617 = .ok (.iinc 3 10, 3) := gL_law_1152.2.2.2.2.2.2.2.2.2.2.2
theorem gL_law_1164 : (decode cL_law 1620 = .ok (.goto (-1602), 3)) ∧ (decode cL_law 1623 = .ok (.iconst 1, 1)) ∧ (decode cL_law 1624 = .ok (.ireturn, 1)) := by decide +kernel
theorem dL_law_1620 : decode cL_law 1620 = .ok (.goto (-1602), 3) := gL_law_1164.1
theorem dL_law_1623 : decode cL_law 1623 = .ok (.iconst 1, 1) := gL_law_1164.2.1
theorem dL_law_1624 : decode cL_law 1624 = .ok (.ireturn, 1) := gL_law_1164.2.2
