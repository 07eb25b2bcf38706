theorem dW_0 : decode code 0 = .ok (.new 8, 3) := by decide +kernel
theorem dW_3 : decode code 3 = .ok (.dup, 1) := by decide +kernel
theorem dW_4 : decode code 4 = .ok (.invokespecial 105, 3) := by decide +kernel
theorem dW_7 : decode code 7 = .ok (.astore_n 1, 1) := by decide +kernel
theorem dW_8 : decode code 8 = .ok (.new 106, 3) := by decide +kernel
theorem dW_11 : decode code 11 = .ok (.dup, 1) := by decide +kernel
theorem dW_12 : decode code 12 = .ok (.invokespecial 108, 3) := by decide +kernel
theorem dW_15 : decode code 15 = .ok (.astore_n 2, 1) := by decide +kernel
theorem dW_16 : decode code 16 = .ok (.iconst 1, 1) := by decide +kernel
theorem dW_17 : decode code 17 = .ok (.newarray .long, 2) := by decide +kernel
theorem dW_19 : decode code 19 = .ok (.astore_n 3, 1) := by decide +kernel
theorem dW_20 : decode code 20 = .ok (.iconst 0, 1) := by decide +kernel
theorem dW_21 : decode code 21 = .ok (.istore 4, 2) := by decide +kernel
theorem dW_23 : decode code 23 = .ok (.iload 4, 2) := by decide +kernel
theorem dW_25 : decode code 25 = .ok (.aload_n 0, 1) := by decide +kernel
theorem dW_26 : decode code 26 = .ok (.arraylength, 1) := by decide +kernel
theorem dW_27 : decode code 27 = .ok (.iconst 4, 1) := by decide +kernel
theorem dW_28 : decode code 28 = .ok (.isub, 1) := by decide +kernel
theorem dW_29 : decode code 29 = .ok (.if_icmp .gt 1958, 3) := by decide +kernel
theorem dW_32 : decode code 32 = .ok (.aload_n 0, 1) := by decide +kernel
theorem dW_33 : decode code 33 = .ok (.iload 4, 2) := by decide +kernel
theorem dW_35 : decode code 35 = .ok (.iaload, 1) := by decide +kernel
theorem dW_36 : decode code 36 = .ok (.bipush 63, 2) := by decide +kernel
theorem dW_38 : decode code 38 = .ok (.iand, 1) := by decide +kernel
theorem dW_39 : decode code 39 = .ok (.tableswitch 1942 0 33 #[149, 185, 276, 344, 400, 480, 548, 592, 672, 752, 820, 888, 956, 1012, 1068, 1136, 1192, 1248, 1304, 1360, 1416, 1472, 1528, 1584, 1597, 1610, 1623, 1636, 1649, 1705, 1761, 1774, 1830, 1886], 149) := by decide +kernel
theorem dW_188 : decode code 188 = .ok (.aload_n 1, 1) := by decide +kernel
theorem dW_189 : decode code 189 = .ok (.aload_n 0, 1) := by decide +kernel
theorem dW_190 : decode code 190 = .ok (.iload 4, 2) := by decide +kernel
theorem dW_192 : decode code 192 = .ok (.iconst 1, 1) := by decide +kernel
theorem dW_193 : decode code 193 = .ok (.iadd, 1) := by decide +kernel
theorem dW_194 : decode code 194 = .ok (.iaload, 1) := by decide +kernel
theorem dW_195 : decode code 195 = .ok (.invokestatic 109, 3) := by decide +kernel
theorem dW_198 : decode code 198 = .ok (.istore 5, 2) := by decide +kernel
theorem dW_200 : decode code 200 = .ok (.aload_n 2, 1) := by decide +kernel
theorem dW_201 : decode code 201 = .ok (.aload_n 0, 1) := by decide +kernel
theorem dW_202 : decode code 202 = .ok (.iload 4, 2) := by decide +kernel
theorem dW_204 : decode code 204 = .ok (.iconst 1, 1) := by decide +kernel
theorem dW_205 : decode code 205 = .ok (.iadd, 1) := by decide +kernel
theorem dW_206 : decode code 206 = .ok (.iaload, 1) := by decide +kernel
theorem dW_207 : decode code 207 = .ok (.invokevirtual 114, 3) := by decide +kernel
theorem dW_210 : decode code 210 = .ok (.aload_n 2, 1) := by decide +kernel
theorem dW_211 : decode code 211 = .ok (.invokevirtual 115, 3) := by decide +kernel
theorem dW_214 : decode code 214 = .ok (.iload 5, 2) := by decide +kernel
theorem dW_216 : decode code 216 = .ok (.if_icmp .eq 5, 3) := by decide +kernel
theorem dW_219 : decode code 219 = .ok (.iconst 0, 1) := by decide +kernel
theorem dW_220 : decode code 220 = .ok (.ireturn, 1) := by decide +kernel
theorem dW_221 : decode code 221 = .ok (.goto 1760, 3) := by decide +kernel
theorem dW_224 : decode code 224 = .ok (.aload_n 1, 1) := by decide +kernel
theorem dW_225 : decode code 225 = .ok (.aload_n 0, 1) := by decide +kernel
theorem dW_226 : decode code 226 = .ok (.iload 4, 2) := by decide +kernel
theorem dW_228 : decode code 228 = .ok (.iconst 1, 1) := by decide +kernel
theorem dW_229 : decode code 229 = .ok (.iadd, 1) := by decide +kernel
theorem dW_230 : decode code 230 = .ok (.iaload, 1) := by decide +kernel
theorem dW_231 : decode code 231 = .ok (.aload_n 0, 1) := by decide +kernel
theorem dW_232 : decode code 232 = .ok (.iload 4, 2) := by decide +kernel
theorem dW_234 : decode code 234 = .ok (.iconst 2, 1) := by decide +kernel
theorem dW_235 : decode code 235 = .ok (.iadd, 1) := by decide +kernel
theorem dW_236 : decode code 236 = .ok (.iaload, 1) := by decide +kernel
theorem dW_237 : decode code 237 = .ok (.ifCond .eq 7, 3) := by decide +kernel
theorem dW_240 : decode code 240 = .ok (.iconst 1, 1) := by decide +kernel
theorem dW_241 : decode code 241 = .ok (.goto 4, 3) := by decide +kernel
theorem dW_244 : decode code 244 = .ok (.iconst 0, 1) := by decide +kernel
theorem dW_245 : decode code 245 = .ok (.aload_n 3, 1) := by decide +kernel
theorem dW_246 : decode code 246 = .ok (.invokestatic 118, 3) := by decide +kernel
theorem dW_249 : decode code 249 = .ok (.istore 5, 2) := by decide +kernel
theorem dW_251 : decode code 251 = .ok (.aload_n 2, 1) := by decide +kernel
theorem dW_252 : decode code 252 = .ok (.aload_n 0, 1) := by decide +kernel
theorem dW_253 : decode code 253 = .ok (.iload 4, 2) := by decide +kernel
theorem dW_255 : decode code 255 = .ok (.iconst 1, 1) := by decide +kernel
theorem dW_256 : decode code 256 = .ok (.iadd, 1) := by decide +kernel
theorem dW_257 : decode code 257 = .ok (.iaload, 1) := by decide +kernel
theorem dW_258 : decode code 258 = .ok (.aload_n 0, 1) := by decide +kernel
theorem dW_259 : decode code 259 = .ok (.iload 4, 2) := by decide +kernel
theorem dW_261 : decode code 261 = .ok (.iconst 2, 1) := by decide +kernel
theorem dW_262 : decode code 262 = .ok (.iadd, 1) := by decide +kernel
theorem dW_263 : decode code 263 = .ok (.iaload, 1) := by decide +kernel
theorem dW_264 : decode code 264 = .ok (.ifCond .eq 7, 3) := by decide +kernel
theorem dW_267 : decode code 267 = .ok (.iconst 1, 1) := by decide +kernel
theorem dW_268 : decode code 268 = .ok (.goto 4, 3) := by decide +kernel
theorem dW_271 : decode code 271 = .ok (.iconst 0, 1) := by decide +kernel
theorem dW_272 : decode code 272 = .ok (.invokevirtual 121, 3) := by decide +kernel
theorem dW_275 : decode code 275 = .ok (.istore 6, 2) := by decide +kernel
theorem dW_277 : decode code 277 = .ok (.aload_n 2, 1) := by decide +kernel
theorem dW_278 : decode code 278 = .ok (.invokevirtual 115, 3) := by decide +kernel
theorem dW_281 : decode code 281 = .ok (.iload 5, 2) := by decide +kernel
theorem dW_283 : decode code 283 = .ok (.if_icmp .eq 5, 3) := by decide +kernel
theorem dW_286 : decode code 286 = .ok (.iconst 0, 1) := by decide +kernel
theorem dW_287 : decode code 287 = .ok (.ireturn, 1) := by decide +kernel
theorem dW_288 : decode code 288 = .ok (.iload 5, 2) := by decide +kernel
theorem dW_290 : decode code 290 = .ok (.ifCond .ne 22, 3) := by decide +kernel
theorem dW_293 : decode code 293 = .ok (.aload_n 3, 1) := by decide +kernel
theorem dW_294 : decode code 294 = .ok (.iconst 0, 1) := by decide +kernel
theorem dW_295 : decode code 295 = .ok (.laload, 1) := by decide +kernel
theorem dW_296 : decode code 296 = .ok (.iload 6, 2) := by decide +kernel
theorem dW_298 : decode code 298 = .ok (.ifCond .eq 7, 3) := by decide +kernel
theorem dW_301 : decode code 301 = .ok (.lconst 1, 1) := by decide +kernel
theorem dW_302 : decode code 302 = .ok (.goto 4, 3) := by decide +kernel
theorem dW_305 : decode code 305 = .ok (.lconst 0, 1) := by decide +kernel
theorem dW_306 : decode code 306 = .ok (.lcmp, 1) := by decide +kernel
theorem dW_307 : decode code 307 = .ok (.ifCond .eq 5, 3) := by decide +kernel
theorem dW_310 : decode code 310 = .ok (.iconst 0, 1) := by decide +kernel
theorem dW_311 : decode code 311 = .ok (.ireturn, 1) := by decide +kernel
theorem dW_312 : decode code 312 = .ok (.goto 1669, 3) := by decide +kernel
theorem dW_315 : decode code 315 = .ok (.aload_n 1, 1) := by decide +kernel
theorem dW_316 : decode code 316 = .ok (.aload_n 0, 1) := by decide +kernel
theorem dW_317 : decode code 317 = .ok (.iload 4, 2) := by decide +kernel
theorem dW_319 : decode code 319 = .ok (.iconst 1, 1) := by decide +kernel
theorem dW_320 : decode code 320 = .ok (.iadd, 1) := by decide +kernel
theorem dW_321 : decode code 321 = .ok (.iaload, 1) := by decide +kernel
theorem dW_322 : decode code 322 = .ok (.aload_n 0, 1) := by decide +kernel
theorem dW_323 : decode code 323 = .ok (.iload 4, 2) := by decide +kernel
theorem dW_325 : decode code 325 = .ok (.iconst 2, 1) := by decide +kernel
theorem dW_326 : decode code 326 = .ok (.iadd, 1) := by decide +kernel
theorem dW_327 : decode code 327 = .ok (.iaload, 1) := by decide +kernel
theorem dW_328 : decode code 328 = .ok (.aload_n 3, 1) := by decide +kernel
theorem dW_329 : decode code 329 = .ok (.invokestatic 122, 3) := by decide +kernel
theorem dW_332 : decode code 332 = .ok (.istore 5, 2) := by decide +kernel
theorem dW_334 : decode code 334 = .ok (.aload_n 2, 1) := by decide +kernel
theorem dW_335 : decode code 335 = .ok (.aload_n 0, 1) := by decide +kernel
theorem dW_336 : decode code 336 = .ok (.iload 4, 2) := by decide +kernel
theorem dW_338 : decode code 338 = .ok (.iconst 1, 1) := by decide +kernel
theorem dW_339 : decode code 339 = .ok (.iadd, 1) := by decide +kernel
theorem dW_340 : decode code 340 = .ok (.iaload, 1) := by decide +kernel
theorem dW_341 : decode code 341 = .ok (.aload_n 0, 1) := by decide +kernel
theorem dW_342 : decode code 342 = .ok (.iload 4, 2) := by decide +kernel
theorem dW_344 : decode code 344 = .ok (.iconst 2, 1) := by decide +kernel
theorem dW_345 : decode code 345 = .ok (.iadd, 1) := by decide +kernel
theorem dW_346 : decode code 346 = .ok (.iaload, 1) := by decide +kernel
theorem dW_347 : decode code 347 = .ok (.invokevirtual 125, 3) := by decide +kernel
theorem dW_350 : decode code 350 = .ok (.istore 6, 2) := by decide +kernel
theorem dW_352 : decode code 352 = .ok (.aload_n 2, 1) := by decide +kernel
theorem dW_353 : decode code 353 = .ok (.invokevirtual 115, 3) := by decide +kernel
theorem dW_356 : decode code 356 = .ok (.iload 5, 2) := by decide +kernel
theorem dW_358 : decode code 358 = .ok (.if_icmp .eq 5, 3) := by decide +kernel
theorem dW_361 : decode code 361 = .ok (.iconst 0, 1) := by decide +kernel
theorem dW_362 : decode code 362 = .ok (.ireturn, 1) := by decide +kernel
theorem dW_363 : decode code 363 = .ok (.iload 5, 2) := by decide +kernel
theorem dW_365 : decode code 365 = .ok (.ifCond .ne 15, 3) := by decide +kernel
theorem dW_368 : decode code 368 = .ok (.aload_n 3, 1) := by decide +kernel
theorem dW_369 : decode code 369 = .ok (.iconst 0, 1) := by decide +kernel
theorem dW_370 : decode code 370 = .ok (.laload, 1) := by decide +kernel
theorem dW_371 : decode code 371 = .ok (.iload 6, 2) := by decide +kernel
theorem dW_373 : decode code 373 = .ok (.i2l, 1) := by decide +kernel
theorem dW_374 : decode code 374 = .ok (.lcmp, 1) := by decide +kernel
theorem dW_375 : decode code 375 = .ok (.ifCond .eq 5, 3) := by decide +kernel
theorem dW_378 : decode code 378 = .ok (.iconst 0, 1) := by decide +kernel
theorem dW_379 : decode code 379 = .ok (.ireturn, 1) := by decide +kernel
theorem dW_380 : decode code 380 = .ok (.goto 1601, 3) := by decide +kernel
theorem dW_383 : decode code 383 = .ok (.aload_n 1, 1) := by decide +kernel
theorem dW_384 : decode code 384 = .ok (.aload_n 0, 1) := by decide +kernel
