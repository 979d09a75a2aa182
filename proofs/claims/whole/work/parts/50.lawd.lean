/-! the law: decode rows (printed by gen/law.py) -/
theorem d_La_law_0 : decode code 0 = .ok (.new 7, 3) := by decide +kernel
theorem d_La_law_3 : decode code 3 = .ok (.dup, 1) := by decide +kernel
theorem d_La_law_4 : decode code 4 = .ok (.invokespecial 9, 3) := by decide +kernel
theorem d_La_law_7 : decode code 7 = .ok (.astore_n 1, 1) := by decide +kernel
theorem d_La_law_8 : decode code 8 = .ok (.new 10, 3) := by decide +kernel
theorem d_La_law_11 : decode code 11 = .ok (.dup, 1) := by decide +kernel
theorem d_La_law_12 : decode code 12 = .ok (.invokespecial 12, 3) := by decide +kernel
theorem d_La_law_15 : decode code 15 = .ok (.astore_n 2, 1) := by decide +kernel
theorem d_La_law_16 : decode code 16 = .ok (.iconst 0, 1) := by decide +kernel
theorem d_La_law_17 : decode code 17 = .ok (.istore_n 3, 1) := by decide +kernel
theorem d_La_law_18 : decode code 18 = .ok (.iload_n 3, 1) := by decide +kernel
theorem d_La_law_19 : decode code 19 = .ok (.aload_n 0, 1) := by decide +kernel
theorem d_La_law_20 : decode code 20 = .ok (.arraylength, 1) := by decide +kernel
theorem d_La_law_21 : decode code 21 = .ok (.bipush 6, 2) := by decide +kernel
theorem d_La_law_23 : decode code 23 = .ok (.isub, 1) := by decide +kernel
theorem d_La_law_24 : decode code 24 = .ok (.if_icmp .gt 1268, 3) := by decide +kernel
theorem d_La_law_27 : decode code 27 = .ok (.aload_n 0, 1) := by decide +kernel
theorem d_La_law_28 : decode code 28 = .ok (.iload_n 3, 1) := by decide +kernel
theorem d_La_law_29 : decode code 29 = .ok (.iaload, 1) := by decide +kernel
theorem d_La_law_30 : decode code 30 = .ok (.bipush 63, 2) := by decide +kernel
theorem d_La_law_32 : decode code 32 = .ok (.iand, 1) := by decide +kernel
theorem d_La_law_33 : decode code 33 = .ok (.tableswitch 1253 0 40 #[179, 222, 255, 288, 321, 354, 377, 410, 473, 496, 509, 522, 535, 548, 561, 574, 597, 630, 663, 696, 709, 722, 755, 788, 821, 834, 857, 880, 903, 946, 969, 992, 1025, 1048, 1082, 1105, 1138, 1171, 1194, 1217, 1240], 179) := by decide +kernel
theorem d_La_law_212 : decode code 212 = .ok (.aload_n 1, 1) := by decide +kernel
theorem d_La_law_213 : decode code 213 = .ok (.aload_n 0, 1) := by decide +kernel
theorem d_La_law_214 : decode code 214 = .ok (.iload_n 3, 1) := by decide +kernel
theorem d_La_law_215 : decode code 215 = .ok (.iconst 1, 1) := by decide +kernel
theorem d_La_law_216 : decode code 216 = .ok (.iadd, 1) := by decide +kernel
theorem d_La_law_217 : decode code 217 = .ok (.iaload, 1) := by decide +kernel
theorem d_La_law_218 : decode code 218 = .ok (.aload_n 0, 1) := by decide +kernel
theorem d_La_law_219 : decode code 219 = .ok (.iload_n 3, 1) := by decide +kernel
theorem d_La_law_220 : decode code 220 = .ok (.iconst 2, 1) := by decide +kernel
theorem d_La_law_221 : decode code 221 = .ok (.iadd, 1) := by decide +kernel
theorem d_La_law_222 : decode code 222 = .ok (.iaload, 1) := by decide +kernel
theorem d_La_law_223 : decode code 223 = .ok (.aload_n 0, 1) := by decide +kernel
theorem d_La_law_224 : decode code 224 = .ok (.iload_n 3, 1) := by decide +kernel
theorem d_La_law_225 : decode code 225 = .ok (.iconst 3, 1) := by decide +kernel
theorem d_La_law_226 : decode code 226 = .ok (.iadd, 1) := by decide +kernel
theorem d_La_law_227 : decode code 227 = .ok (.iaload, 1) := by decide +kernel
theorem d_La_law_228 : decode code 228 = .ok (.invokevirtual 13, 3) := by decide +kernel
theorem d_La_law_231 : decode code 231 = .ok (.aload_n 2, 1) := by decide +kernel
theorem d_La_law_232 : decode code 232 = .ok (.aload_n 0, 1) := by decide +kernel
theorem d_La_law_233 : decode code 233 = .ok (.iload_n 3, 1) := by decide +kernel
theorem d_La_law_234 : decode code 234 = .ok (.iconst 1, 1) := by decide +kernel
theorem d_La_law_235 : decode code 235 = .ok (.iadd, 1) := by decide +kernel
theorem d_La_law_236 : decode code 236 = .ok (.iaload, 1) := by decide +kernel
theorem d_La_law_237 : decode code 237 = .ok (.aload_n 0, 1) := by decide +kernel
theorem d_La_law_238 : decode code 238 = .ok (.iload_n 3, 1) := by decide +kernel
theorem d_La_law_239 : decode code 239 = .ok (.iconst 2, 1) := by decide +kernel
theorem d_La_law_240 : decode code 240 = .ok (.iadd, 1) := by decide +kernel
theorem d_La_law_241 : decode code 241 = .ok (.iaload, 1) := by decide +kernel
theorem d_La_law_242 : decode code 242 = .ok (.aload_n 0, 1) := by decide +kernel
theorem d_La_law_243 : decode code 243 = .ok (.iload_n 3, 1) := by decide +kernel
theorem d_La_law_244 : decode code 244 = .ok (.iconst 3, 1) := by decide +kernel
theorem d_La_law_245 : decode code 245 = .ok (.iadd, 1) := by decide +kernel
theorem d_La_law_246 : decode code 246 = .ok (.iaload, 1) := by decide +kernel
theorem d_La_law_247 : decode code 247 = .ok (.invokevirtual 17, 3) := by decide +kernel
theorem d_La_law_250 : decode code 250 = .ok (.if_icmp .eq 1036, 3) := by decide +kernel
theorem d_La_law_253 : decode code 253 = .ok (.iconst 0, 1) := by decide +kernel
theorem d_La_law_254 : decode code 254 = .ok (.ireturn, 1) := by decide +kernel
theorem d_La_law_255 : decode code 255 = .ok (.aload_n 1, 1) := by decide +kernel
theorem d_La_law_256 : decode code 256 = .ok (.aload_n 0, 1) := by decide +kernel
theorem d_La_law_257 : decode code 257 = .ok (.iload_n 3, 1) := by decide +kernel
theorem d_La_law_258 : decode code 258 = .ok (.iconst 1, 1) := by decide +kernel
theorem d_La_law_259 : decode code 259 = .ok (.iadd, 1) := by decide +kernel
theorem d_La_law_260 : decode code 260 = .ok (.iaload, 1) := by decide +kernel
theorem d_La_law_261 : decode code 261 = .ok (.aload_n 0, 1) := by decide +kernel
theorem d_La_law_262 : decode code 262 = .ok (.iload_n 3, 1) := by decide +kernel
theorem d_La_law_263 : decode code 263 = .ok (.iconst 2, 1) := by decide +kernel
theorem d_La_law_264 : decode code 264 = .ok (.iadd, 1) := by decide +kernel
theorem d_La_law_265 : decode code 265 = .ok (.iaload, 1) := by decide +kernel
theorem d_La_law_266 : decode code 266 = .ok (.invokevirtual 18, 3) := by decide +kernel
theorem d_La_law_269 : decode code 269 = .ok (.aload_n 2, 1) := by decide +kernel
theorem d_La_law_270 : decode code 270 = .ok (.aload_n 0, 1) := by decide +kernel
theorem d_La_law_271 : decode code 271 = .ok (.iload_n 3, 1) := by decide +kernel
theorem d_La_law_272 : decode code 272 = .ok (.iconst 1, 1) := by decide +kernel
theorem d_La_law_273 : decode code 273 = .ok (.iadd, 1) := by decide +kernel
theorem d_La_law_274 : decode code 274 = .ok (.iaload, 1) := by decide +kernel
theorem d_La_law_275 : decode code 275 = .ok (.aload_n 0, 1) := by decide +kernel
theorem d_La_law_276 : decode code 276 = .ok (.iload_n 3, 1) := by decide +kernel
theorem d_La_law_277 : decode code 277 = .ok (.iconst 2, 1) := by decide +kernel
theorem d_La_law_278 : decode code 278 = .ok (.iadd, 1) := by decide +kernel
theorem d_La_law_279 : decode code 279 = .ok (.iaload, 1) := by decide +kernel
theorem d_La_law_280 : decode code 280 = .ok (.invokevirtual 22, 3) := by decide +kernel
theorem d_La_law_283 : decode code 283 = .ok (.if_icmp .eq 1003, 3) := by decide +kernel
theorem d_La_law_286 : decode code 286 = .ok (.iconst 0, 1) := by decide +kernel
theorem d_La_law_287 : decode code 287 = .ok (.ireturn, 1) := by decide +kernel
theorem d_La_law_288 : decode code 288 = .ok (.aload_n 1, 1) := by decide +kernel
theorem d_La_law_289 : decode code 289 = .ok (.aload_n 0, 1) := by decide +kernel
theorem d_La_law_290 : decode code 290 = .ok (.iload_n 3, 1) := by decide +kernel
theorem d_La_law_291 : decode code 291 = .ok (.iconst 1, 1) := by decide +kernel
theorem d_La_law_292 : decode code 292 = .ok (.iadd, 1) := by decide +kernel
theorem d_La_law_293 : decode code 293 = .ok (.iaload, 1) := by decide +kernel
theorem d_La_law_294 : decode code 294 = .ok (.aload_n 0, 1) := by decide +kernel
theorem d_La_law_295 : decode code 295 = .ok (.iload_n 3, 1) := by decide +kernel
theorem d_La_law_296 : decode code 296 = .ok (.iconst 2, 1) := by decide +kernel
theorem d_La_law_297 : decode code 297 = .ok (.iadd, 1) := by decide +kernel
theorem d_La_law_298 : decode code 298 = .ok (.iaload, 1) := by decide +kernel
theorem d_La_law_299 : decode code 299 = .ok (.invokevirtual 23, 3) := by decide +kernel
theorem d_La_law_302 : decode code 302 = .ok (.aload_n 2, 1) := by decide +kernel
theorem d_La_law_303 : decode code 303 = .ok (.aload_n 0, 1) := by decide +kernel
theorem d_La_law_304 : decode code 304 = .ok (.iload_n 3, 1) := by decide +kernel
theorem d_La_law_305 : decode code 305 = .ok (.iconst 1, 1) := by decide +kernel
theorem d_La_law_306 : decode code 306 = .ok (.iadd, 1) := by decide +kernel
theorem d_La_law_307 : decode code 307 = .ok (.iaload, 1) := by decide +kernel
theorem d_La_law_308 : decode code 308 = .ok (.aload_n 0, 1) := by decide +kernel
theorem d_La_law_309 : decode code 309 = .ok (.iload_n 3, 1) := by decide +kernel
theorem d_La_law_310 : decode code 310 = .ok (.iconst 2, 1) := by decide +kernel
theorem d_La_law_311 : decode code 311 = .ok (.iadd, 1) := by decide +kernel
theorem d_La_law_312 : decode code 312 = .ok (.iaload, 1) := by decide +kernel
theorem d_La_law_313 : decode code 313 = .ok (.invokevirtual 26, 3) := by decide +kernel
theorem d_La_law_316 : decode code 316 = .ok (.if_icmp .eq 970, 3) := by decide +kernel
theorem d_La_law_319 : decode code 319 = .ok (.iconst 0, 1) := by decide +kernel
theorem d_La_law_320 : decode code 320 = .ok (.ireturn, 1) := by decide +kernel
theorem d_La_law_321 : decode code 321 = .ok (.aload_n 1, 1) := by decide +kernel
theorem d_La_law_322 : decode code 322 = .ok (.aload_n 0, 1) := by decide +kernel
theorem d_La_law_323 : decode code 323 = .ok (.iload_n 3, 1) := by decide +kernel
theorem d_La_law_324 : decode code 324 = .ok (.iconst 1, 1) := by decide +kernel
theorem d_La_law_325 : decode code 325 = .ok (.iadd, 1) := by decide +kernel
theorem d_La_law_326 : decode code 326 = .ok (.iaload, 1) := by decide +kernel
theorem d_La_law_327 : decode code 327 = .ok (.aload_n 0, 1) := by decide +kernel
theorem d_La_law_328 : decode code 328 = .ok (.iload_n 3, 1) := by decide +kernel
theorem d_La_law_329 : decode code 329 = .ok (.iconst 2, 1) := by decide +kernel
theorem d_La_law_330 : decode code 330 = .ok (.iadd, 1) := by decide +kernel
theorem d_La_law_331 : decode code 331 = .ok (.iaload, 1) := by decide +kernel
theorem d_La_law_332 : decode code 332 = .ok (.invokevirtual 27, 3) := by decide +kernel
theorem d_La_law_335 : decode code 335 = .ok (.aload_n 2, 1) := by decide +kernel
theorem d_La_law_336 : decode code 336 = .ok (.aload_n 0, 1) := by decide +kernel
theorem d_La_law_337 : decode code 337 = .ok (.iload_n 3, 1) := by decide +kernel
theorem d_La_law_338 : decode code 338 = .ok (.iconst 1, 1) := by decide +kernel
theorem d_La_law_339 : decode code 339 = .ok (.iadd, 1) := by decide +kernel
theorem d_La_law_340 : decode code 340 = .ok (.iaload, 1) := by decide +kernel
theorem d_La_law_341 : decode code 341 = .ok (.aload_n 0, 1) := by decide +kernel
theorem d_La_law_342 : decode code 342 = .ok (.iload_n 3, 1) := by decide +kernel
theorem d_La_law_343 : decode code 343 = .ok (.iconst 2, 1) := by decide +kernel
theorem d_La_law_344 : decode code 344 = .ok (.iadd, 1) := by decide +kernel
theorem d_La_law_345 : decode code 345 = .ok (.iaload, 1) := by decide +kernel
theorem d_La_law_346 : decode code 346 = .ok (.invokevirtual 30, 3) := by decide +kernel
theorem d_La_law_349 : decode code 349 = .ok (.if_icmp .eq 937, 3) := by decide +kernel
theorem d_La_law_352 : decode code 352 = .ok (.iconst 0, 1) := by decide +kernel
theorem d_La_law_353 : decode code 353 = .ok (.ireturn, 1) := by decide +kernel
theorem d_La_law_354 : decode code 354 = .ok (.aload_n 1, 1) := by decide +kernel
theorem d_La_law_355 : decode code 355 = .ok (.aload_n 0, 1) := by decide +kernel
theorem d_La_law_356 : decode code 356 = .ok (.iload_n 3, 1) := by decide +kernel
theorem d_La_law_357 : decode code 357 = .ok (.iconst 1, 1) := by decide +kernel
theorem d_La_law_358 : decode code 358 = .ok (.iadd, 1) := by decide +kernel
theorem d_La_law_359 : decode code 359 = .ok (.iaload, 1) := by decide +kernel
theorem d_La_law_360 : decode code 360 = .ok (.aload_n 0, 1) := by decide +kernel
theorem d_La_law_361 : decode code 361 = .ok (.iload_n 3, 1) := by decide +kernel
theorem d_La_law_362 : decode code 362 = .ok (.iconst 2, 1) := by decide +kernel
theorem d_La_law_363 : decode code 363 = .ok (.iadd, 1) := by decide +kernel
