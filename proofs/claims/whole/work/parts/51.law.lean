/-! the law, instruction by instruction -/
theorem dL_law_0 : decode cL_law 0 = .ok (.new 7, 3) := by decide +kernel
theorem dL_law_3 : decode cL_law 3 = .ok (.dup, 1) := by decide +kernel
theorem dL_law_4 : decode cL_law 4 = .ok (.invokespecial 9, 3) := by decide +kernel
theorem dL_law_7 : decode cL_law 7 = .ok (.astore_n 1, 1) := by decide +kernel
theorem dL_law_8 : decode cL_law 8 = .ok (.new 10, 3) := by decide +kernel
theorem dL_law_11 : decode cL_law 11 = .ok (.dup, 1) := by decide +kernel
theorem dL_law_12 : decode cL_law 12 = .ok (.invokespecial 12, 3) := by decide +kernel
theorem dL_law_15 : decode cL_law 15 = .ok (.astore_n 2, 1) := by decide +kernel
theorem dL_law_16 : decode cL_law 16 = .ok (.iconst 0, 1) := by decide +kernel
theorem dL_law_17 : decode cL_law 17 = .ok (.istore_n 3, 1) := by decide +kernel
theorem dL_law_18 : decode cL_law 18 = .ok (.iload_n 3, 1) := by decide +kernel
theorem dL_law_19 : decode cL_law 19 = .ok (.aload_n 0, 1) := by decide +kernel
theorem dL_law_20 : decode cL_law 20 = .ok (.arraylength, 1) := by decide +kernel
theorem dL_law_21 : decode cL_law 21 = .ok (.bipush 6, 2) := by decide +kernel
theorem dL_law_23 : decode cL_law 23 = .ok (.isub, 1) := by decide +kernel
theorem dL_law_24 : decode cL_law 24 = .ok (.if_icmp .gt 1240, 3) := by decide +kernel
theorem dL_law_27 : decode cL_law 27 = .ok (.aload_n 0, 1) := by decide +kernel
theorem dL_law_28 : decode cL_law 28 = .ok (.iload_n 3, 1) := by decide +kernel
theorem dL_law_29 : decode cL_law 29 = .ok (.iaload, 1) := by decide +kernel
theorem dL_law_30 : decode cL_law 30 = .ok (.bipush 63, 2) := by decide +kernel
theorem dL_law_32 : decode cL_law 32 = .ok (.iand, 1) := by decide +kernel
theorem dL_law_33 : decode cL_law 33 = .ok (.tableswitch 1225 0 33 #[151, 184, 207, 230, 253, 276, 309, 332, 365, 398, 421, 444, 467, 510, 553, 576, 599, 622, 675, 708, 751, 764, 777, 800, 823, 887, 930, 973, 996, 1049, 1092, 1155, 1188, 1211], 151) := by decide +kernel
theorem dL_law_184 : decode cL_law 184 = .ok (.aload_n 1, 1) := by decide +kernel
theorem dL_law_185 : decode cL_law 185 = .ok (.aload_n 0, 1) := by decide +kernel
theorem dL_law_186 : decode cL_law 186 = .ok (.iload_n 3, 1) := by decide +kernel
theorem dL_law_187 : decode cL_law 187 = .ok (.iconst 1, 1) := by decide +kernel
theorem dL_law_188 : decode cL_law 188 = .ok (.iadd, 1) := by decide +kernel
theorem dL_law_189 : decode cL_law 189 = .ok (.iaload, 1) := by decide +kernel
theorem dL_law_190 : decode cL_law 190 = .ok (.aload_n 0, 1) := by decide +kernel
theorem dL_law_191 : decode cL_law 191 = .ok (.iload_n 3, 1) := by decide +kernel
theorem dL_law_192 : decode cL_law 192 = .ok (.iconst 2, 1) := by decide +kernel
theorem dL_law_193 : decode cL_law 193 = .ok (.iadd, 1) := by decide +kernel
theorem dL_law_194 : decode cL_law 194 = .ok (.iaload, 1) := by decide +kernel
theorem dL_law_195 : decode cL_law 195 = .ok (.invokevirtual 13, 3) := by decide +kernel
theorem dL_law_198 : decode cL_law 198 = .ok (.aload_n 2, 1) := by decide +kernel
theorem dL_law_199 : decode cL_law 199 = .ok (.aload_n 0, 1) := by decide +kernel
theorem dL_law_200 : decode cL_law 200 = .ok (.iload_n 3, 1) := by decide +kernel
theorem dL_law_201 : decode cL_law 201 = .ok (.iconst 1, 1) := by decide +kernel
theorem dL_law_202 : decode cL_law 202 = .ok (.iadd, 1) := by decide +kernel
theorem dL_law_203 : decode cL_law 203 = .ok (.iaload, 1) := by decide +kernel
theorem dL_law_204 : decode cL_law 204 = .ok (.aload_n 0, 1) := by decide +kernel
theorem dL_law_205 : decode cL_law 205 = .ok (.iload_n 3, 1) := by decide +kernel
theorem dL_law_206 : decode cL_law 206 = .ok (.iconst 2, 1) := by decide +kernel
theorem dL_law_207 : decode cL_law 207 = .ok (.iadd, 1) := by decide +kernel
theorem dL_law_208 : decode cL_law 208 = .ok (.iaload, 1) := by decide +kernel
theorem dL_law_209 : decode cL_law 209 = .ok (.invokevirtual 17, 3) := by decide +kernel
theorem dL_law_212 : decode cL_law 212 = .ok (.if_icmp .eq 1046, 3) := by decide +kernel
theorem dL_law_215 : decode cL_law 215 = .ok (.iconst 0, 1) := by decide +kernel
theorem dL_law_216 : decode cL_law 216 = .ok (.ireturn, 1) := by decide +kernel
theorem dL_law_217 : decode cL_law 217 = .ok (.aload_n 1, 1) := by decide +kernel
theorem dL_law_218 : decode cL_law 218 = .ok (.aload_n 0, 1) := by decide +kernel
theorem dL_law_219 : decode cL_law 219 = .ok (.iload_n 3, 1) := by decide +kernel
theorem dL_law_220 : decode cL_law 220 = .ok (.iconst 1, 1) := by decide +kernel
theorem dL_law_221 : decode cL_law 221 = .ok (.iadd, 1) := by decide +kernel
theorem dL_law_222 : decode cL_law 222 = .ok (.iaload, 1) := by decide +kernel
theorem dL_law_223 : decode cL_law 223 = .ok (.invokevirtual 18, 3) := by decide +kernel
theorem dL_law_226 : decode cL_law 226 = .ok (.aload_n 2, 1) := by decide +kernel
theorem dL_law_227 : decode cL_law 227 = .ok (.aload_n 0, 1) := by decide +kernel
theorem dL_law_228 : decode cL_law 228 = .ok (.iload_n 3, 1) := by decide +kernel
theorem dL_law_229 : decode cL_law 229 = .ok (.iconst 1, 1) := by decide +kernel
theorem dL_law_230 : decode cL_law 230 = .ok (.iadd, 1) := by decide +kernel
theorem dL_law_231 : decode cL_law 231 = .ok (.iaload, 1) := by decide +kernel
theorem dL_law_232 : decode cL_law 232 = .ok (.invokevirtual 22, 3) := by decide +kernel
theorem dL_law_235 : decode cL_law 235 = .ok (.if_icmp .eq 1023, 3) := by decide +kernel
theorem dL_law_238 : decode cL_law 238 = .ok (.iconst 0, 1) := by decide +kernel
theorem dL_law_239 : decode cL_law 239 = .ok (.ireturn, 1) := by decide +kernel
theorem dL_law_240 : decode cL_law 240 = .ok (.aload_n 1, 1) := by decide +kernel
theorem dL_law_241 : decode cL_law 241 = .ok (.aload_n 0, 1) := by decide +kernel
theorem dL_law_242 : decode cL_law 242 = .ok (.iload_n 3, 1) := by decide +kernel
theorem dL_law_243 : decode cL_law 243 = .ok (.iconst 1, 1) := by decide +kernel
theorem dL_law_244 : decode cL_law 244 = .ok (.iadd, 1) := by decide +kernel
theorem dL_law_245 : decode cL_law 245 = .ok (.iaload, 1) := by decide +kernel
theorem dL_law_246 : decode cL_law 246 = .ok (.invokevirtual 23, 3) := by decide +kernel
theorem dL_law_249 : decode cL_law 249 = .ok (.aload_n 2, 1) := by decide +kernel
theorem dL_law_250 : decode cL_law 250 = .ok (.aload_n 0, 1) := by decide +kernel
theorem dL_law_251 : decode cL_law 251 = .ok (.iload_n 3, 1) := by decide +kernel
theorem dL_law_252 : decode cL_law 252 = .ok (.iconst 1, 1) := by decide +kernel
theorem dL_law_253 : decode cL_law 253 = .ok (.iadd, 1) := by decide +kernel
theorem dL_law_254 : decode cL_law 254 = .ok (.iaload, 1) := by decide +kernel
theorem dL_law_255 : decode cL_law 255 = .ok (.invokevirtual 26, 3) := by decide +kernel
theorem dL_law_258 : decode cL_law 258 = .ok (.if_icmp .eq 1000, 3) := by decide +kernel
theorem dL_law_261 : decode cL_law 261 = .ok (.iconst 0, 1) := by decide +kernel
theorem dL_law_262 : decode cL_law 262 = .ok (.ireturn, 1) := by decide +kernel
theorem dL_law_263 : decode cL_law 263 = .ok (.aload_n 1, 1) := by decide +kernel
theorem dL_law_264 : decode cL_law 264 = .ok (.aload_n 0, 1) := by decide +kernel
theorem dL_law_265 : decode cL_law 265 = .ok (.iload_n 3, 1) := by decide +kernel
theorem dL_law_266 : decode cL_law 266 = .ok (.iconst 1, 1) := by decide +kernel
theorem dL_law_267 : decode cL_law 267 = .ok (.iadd, 1) := by decide +kernel
theorem dL_law_268 : decode cL_law 268 = .ok (.iaload, 1) := by decide +kernel
theorem dL_law_269 : decode cL_law 269 = .ok (.invokevirtual 27, 3) := by decide +kernel
theorem dL_law_272 : decode cL_law 272 = .ok (.aload_n 2, 1) := by decide +kernel
theorem dL_law_273 : decode cL_law 273 = .ok (.aload_n 0, 1) := by decide +kernel
theorem dL_law_274 : decode cL_law 274 = .ok (.iload_n 3, 1) := by decide +kernel
theorem dL_law_275 : decode cL_law 275 = .ok (.iconst 1, 1) := by decide +kernel
theorem dL_law_276 : decode cL_law 276 = .ok (.iadd, 1) := by decide +kernel
theorem dL_law_277 : decode cL_law 277 = .ok (.iaload, 1) := by decide +kernel
theorem dL_law_278 : decode cL_law 278 = .ok (.invokevirtual 30, 3) := by decide +kernel
theorem dL_law_281 : decode cL_law 281 = .ok (.if_icmp .eq 977, 3) := by decide +kernel
theorem dL_law_284 : decode cL_law 284 = .ok (.iconst 0, 1) := by decide +kernel
theorem dL_law_285 : decode cL_law 285 = .ok (.ireturn, 1) := by decide +kernel
theorem dL_law_286 : decode cL_law 286 = .ok (.aload_n 1, 1) := by decide +kernel
theorem dL_law_287 : decode cL_law 287 = .ok (.aload_n 0, 1) := by decide +kernel
theorem dL_law_288 : decode cL_law 288 = .ok (.iload_n 3, 1) := by decide +kernel
theorem dL_law_289 : decode cL_law 289 = .ok (.iconst 1, 1) := by decide +kernel
theorem dL_law_290 : decode cL_law 290 = .ok (.iadd, 1) := by decide +kernel
theorem dL_law_291 : decode cL_law 291 = .ok (.iaload, 1) := by decide +kernel
theorem dL_law_292 : decode cL_law 292 = .ok (.invokevirtual 31, 3) := by decide +kernel
theorem dL_law_295 : decode cL_law 295 = .ok (.aload_n 2, 1) := by decide +kernel
theorem dL_law_296 : decode cL_law 296 = .ok (.aload_n 0, 1) := by decide +kernel
theorem dL_law_297 : decode cL_law 297 = .ok (.iload_n 3, 1) := by decide +kernel
theorem dL_law_298 : decode cL_law 298 = .ok (.iconst 1, 1) := by decide +kernel
theorem dL_law_299 : decode cL_law 299 = .ok (.iadd, 1) := by decide +kernel
theorem dL_law_300 : decode cL_law 300 = .ok (.iaload, 1) := by decide +kernel
theorem dL_law_301 : decode cL_law 301 = .ok (.invokevirtual 34, 3) := by decide +kernel
theorem dL_law_304 : decode cL_law 304 = .ok (.if_icmp .eq 954, 3) := by decide +kernel
theorem dL_law_307 : decode cL_law 307 = .ok (.iconst 0, 1) := by decide +kernel
theorem dL_law_308 : decode cL_law 308 = .ok (.ireturn, 1) := by decide +kernel
theorem dL_law_309 : decode cL_law 309 = .ok (.aload_n 1, 1) := by decide +kernel
theorem dL_law_310 : decode cL_law 310 = .ok (.aload_n 0, 1) := by decide +kernel
theorem dL_law_311 : decode cL_law 311 = .ok (.iload_n 3, 1) := by decide +kernel
theorem dL_law_312 : decode cL_law 312 = .ok (.iconst 1, 1) := by decide +kernel
theorem dL_law_313 : decode cL_law 313 = .ok (.iadd, 1) := by decide +kernel
theorem dL_law_314 : decode cL_law 314 = .ok (.iaload, 1) := by decide +kernel
theorem dL_law_315 : decode cL_law 315 = .ok (.aload_n 0, 1) := by decide +kernel
theorem dL_law_316 : decode cL_law 316 = .ok (.iload_n 3, 1) := by decide +kernel
theorem dL_law_317 : decode cL_law 317 = .ok (.iconst 2, 1) := by decide +kernel
theorem dL_law_318 : decode cL_law 318 = .ok (.iadd, 1) := by decide +kernel
theorem dL_law_319 : decode cL_law 319 = .ok (.iaload, 1) := by decide +kernel
theorem dL_law_320 : decode cL_law 320 = .ok (.invokevirtual 35, 3) := by decide +kernel
theorem dL_law_323 : decode cL_law 323 = .ok (.aload_n 2, 1) := by decide +kernel
theorem dL_law_324 : decode cL_law 324 = .ok (.aload_n 0, 1) := by decide +kernel
theorem dL_law_325 : decode cL_law 325 = .ok (.iload_n 3, 1) := by decide +kernel
theorem dL_law_326 : decode cL_law 326 = .ok (.iconst 1, 1) := by decide +kernel
theorem dL_law_327 : decode cL_law 327 = .ok (.iadd, 1) := by decide +kernel
theorem dL_law_328 : decode cL_law 328 = .ok (.iaload, 1) := by decide +kernel
theorem dL_law_329 : decode cL_law 329 = .ok (.aload_n 0, 1) := by decide +kernel
theorem dL_law_330 : decode cL_law 330 = .ok (.iload_n 3, 1) := by decide +kernel
theorem dL_law_331 : decode cL_law 331 = .ok (.iconst 2, 1) := by decide +kernel
theorem dL_law_332 : decode cL_law 332 = .ok (.iadd, 1) := by decide +kernel
theorem dL_law_333 : decode cL_law 333 = .ok (.iaload, 1) := by decide +kernel
theorem dL_law_334 : decode cL_law 334 = .ok (.invokevirtual 38, 3) := by decide +kernel
theorem dL_law_337 : decode cL_law 337 = .ok (.if_icmp .eq 921, 3) := by decide +kernel
theorem dL_law_340 : decode cL_law 340 = .ok (.iconst 0, 1) := by decide +kernel
theorem dL_law_341 : decode cL_law 341 = .ok (.ireturn, 1) := by decide +kernel
theorem dL_law_342 : decode cL_law 342 = .ok (.aload_n 1, 1) := by decide +kernel
theorem dL_law_343 : decode cL_law 343 = .ok (.aload_n 0, 1) := by decide +kernel
theorem dL_law_344 : decode cL_law 344 = .ok (.iload_n 3, 1) := by decide +kernel
theorem dL_law_345 : decode cL_law 345 = .ok (.iconst 1, 1) := by decide +kernel
theorem dL_law_346 : decode cL_law 346 = .ok (.iadd, 1) := by decide +kernel
theorem dL_law_347 : decode cL_law 347 = .ok (.iaload, 1) := by decide +kernel
theorem dL_law_348 : decode cL_law 348 = .ok (.invokevirtual 39, 3) := by decide +kernel
theorem dL_law_351 : decode cL_law 351 = .ok (.aload_n 2, 1) := by decide +kernel
theorem dL_law_352 : decode cL_law 352 = .ok (.aload_n 0, 1) := by decide +kernel
theorem dL_law_353 : decode cL_law 353 = .ok (.iload_n 3, 1) := by decide +kernel
theorem dL_law_354 : decode cL_law 354 = .ok (.iconst 1, 1) := by decide +kernel
theorem dL_law_355 : decode cL_law 355 = .ok (.iadd, 1) := by decide +kernel
theorem dL_law_356 : decode cL_law 356 = .ok (.iaload, 1) := by decide +kernel
theorem dL_law_357 : decode cL_law 357 = .ok (.invokevirtual 42, 3) := by decide +kernel
theorem dL_law_360 : decode cL_law 360 = .ok (.if_icmp .eq 898, 3) := by decide +kernel
theorem dL_law_363 : decode cL_law 363 = .ok (.iconst 0, 1) := by decide +kernel
theorem dL_law_364 : decode cL_law 364 = .ok (.ireturn, 1) := by decide +kernel
theorem dL_law_365 : decode cL_law 365 = .ok (.aload_n 1, 1) := by decide +kernel
theorem dL_law_366 : decode cL_law 366 = .ok (.aload_n 0, 1) := by decide +kernel
theorem dL_law_367 : decode cL_law 367 = .ok (.iload_n 3, 1) := by decide +kernel
theorem dL_law_368 : decode cL_law 368 = .ok (.iconst 1, 1) := by decide +kernel
theorem dL_law_369 : decode cL_law 369 = .ok (.iadd, 1) := by decide +kernel
theorem dL_law_370 : decode cL_law 370 = .ok (.iaload, 1) := by decide +kernel
theorem dL_law_371 : decode cL_law 371 = .ok (.aload_n 0, 1) := by decide +kernel
theorem dL_law_372 : decode cL_law 372 = .ok (.iload_n 3, 1) := by decide +kernel
theorem dL_law_373 : decode cL_law 373 = .ok (.iconst 2, 1) := by decide +kernel
theorem dL_law_374 : decode cL_law 374 = .ok (.iadd, 1) := by decide +kernel
theorem dL_law_375 : decode cL_law 375 = .ok (.iaload, 1) := by decide +kernel
theorem dL_law_376 : decode cL_law 376 = .ok (.invokevirtual 43, 3) := by decide +kernel
theorem dL_law_379 : decode cL_law 379 = .ok (.aload_n 2, 1) := by decide +kernel
theorem dL_law_380 : decode cL_law 380 = .ok (.aload_n 0, 1) := by decide +kernel
theorem dL_law_381 : decode cL_law 381 = .ok (.iload_n 3, 1) := by decide +kernel
theorem dL_law_382 : decode cL_law 382 = .ok (.iconst 1, 1) := by decide +kernel
theorem dL_law_383 : decode cL_law 383 = .ok (.iadd, 1) := by decide +kernel
theorem dL_law_384 : decode cL_law 384 = .ok (.iaload, 1) := by decide +kernel
theorem dL_law_385 : decode cL_law 385 = .ok (.aload_n 0, 1) := by decide +kernel
theorem dL_law_386 : decode cL_law 386 = .ok (.iload_n 3, 1) := by decide +kernel
theorem dL_law_387 : decode cL_law 387 = .ok (.iconst 2, 1) := by decide +kernel
theorem dL_law_388 : decode cL_law 388 = .ok (.iadd, 1) := by decide +kernel
theorem dL_law_389 : decode cL_law 389 = .ok (.iaload, 1) := by decide +kernel
theorem dL_law_390 : decode cL_law 390 = .ok (.invokevirtual 46, 3) := by decide +kernel
theorem dL_law_393 : decode cL_law 393 = .ok (.if_icmp .eq 865, 3) := by decide +kernel
theorem dL_law_396 : decode cL_law 396 = .ok (.iconst 0, 1) := by decide +kernel
theorem dL_law_397 : decode cL_law 397 = .ok (.ireturn, 1) := by decide +kernel
theorem dL_law_398 : decode cL_law 398 = .ok (.aload_n 1, 1) := by decide +kernel
theorem dL_law_399 : decode cL_law 399 = .ok (.aload_n 0, 1) := by decide +kernel
theorem dL_law_400 : decode cL_law 400 = .ok (.iload_n 3, 1) := by decide +kernel
theorem dL_law_401 : decode cL_law 401 = .ok (.iconst 1, 1) := by decide +kernel
theorem dL_law_402 : decode cL_law 402 = .ok (.iadd, 1) := by decide +kernel
theorem dL_law_403 : decode cL_law 403 = .ok (.iaload, 1) := by decide +kernel
theorem dL_law_404 : decode cL_law 404 = .ok (.aload_n 0, 1) := by decide +kernel
theorem dL_law_405 : decode cL_law 405 = .ok (.iload_n 3, 1) := by decide +kernel
theorem dL_law_406 : decode cL_law 406 = .ok (.iconst 2, 1) := by decide +kernel
theorem dL_law_407 : decode cL_law 407 = .ok (.iadd, 1) := by decide +kernel
theorem dL_law_408 : decode cL_law 408 = .ok (.iaload, 1) := by decide +kernel
theorem dL_law_409 : decode cL_law 409 = .ok (.invokevirtual 47, 3) := by decide +kernel
theorem dL_law_412 : decode cL_law 412 = .ok (.aload_n 2, 1) := by decide +kernel
theorem dL_law_413 : decode cL_law 413 = .ok (.aload_n 0, 1) := by decide +kernel
theorem dL_law_414 : decode cL_law 414 = .ok (.iload_n 3, 1) := by decide +kernel
theorem dL_law_415 : decode cL_law 415 = .ok (.iconst 1, 1) := by decide +kernel
theorem dL_law_416 : decode cL_law 416 = .ok (.iadd, 1) := by decide +kernel
theorem dL_law_417 : decode cL_law 417 = .ok (.iaload, 1) := by decide +kernel
theorem dL_law_418 : decode cL_law 418 = .ok (.aload_n 0, 1) := by decide +kernel
theorem dL_law_419 : decode cL_law 419 = .ok (.iload_n 3, 1) := by decide +kernel
theorem dL_law_420 : decode cL_law 420 = .ok (.iconst 2, 1) := by decide +kernel
theorem dL_law_421 : decode cL_law 421 = .ok (.iadd, 1) := by decide +kernel
theorem dL_law_422 : decode cL_law 422 = .ok (.iaload, 1) := by decide +kernel
theorem dL_law_423 : decode cL_law 423 = .ok (.invokevirtual 50, 3) := by decide +kernel
theorem dL_law_426 : decode cL_law 426 = .ok (.if_icmp .eq 832, 3) := by decide +kernel
theorem dL_law_429 : decode cL_law 429 = .ok (.iconst 0, 1) := by decide +kernel
theorem dL_law_430 : decode cL_law 430 = .ok (.ireturn, 1) := by decide +kernel
theorem dL_law_431 : decode cL_law 431 = .ok (.aload_n 1, 1) := by decide +kernel
theorem dL_law_432 : decode cL_law 432 = .ok (.aload_n 0, 1) := by decide +kernel
theorem dL_law_433 : decode cL_law 433 = .ok (.iload_n 3, 1) := by decide +kernel
theorem dL_law_434 : decode cL_law 434 = .ok (.iconst 1, 1) := by decide +kernel
theorem dL_law_435 : decode cL_law 435 = .ok (.iadd, 1) := by decide +kernel
theorem dL_law_436 : decode cL_law 436 = .ok (.iaload, 1) := by decide +kernel
theorem dL_law_437 : decode cL_law 437 = .ok (.invokevirtual 51, 3) := by decide +kernel
theorem dL_law_440 : decode cL_law 440 = .ok (.aload_n 2, 1) := by decide +kernel
theorem dL_law_441 : decode cL_law 441 = .ok (.aload_n 0, 1) := by decide +kernel
theorem dL_law_442 : decode cL_law 442 = .ok (.iload_n 3, 1) := by decide +kernel
theorem dL_law_443 : decode cL_law 443 = .ok (.iconst 1, 1) := by decide +kernel
theorem dL_law_444 : decode cL_law 444 = .ok (.iadd, 1) := by decide +kernel
theorem dL_law_445 : decode cL_law 445 = .ok (.iaload, 1) := by decide +kernel
theorem dL_law_446 : decode cL_law 446 = .ok (.invokevirtual 54, 3) := by decide +kernel
theorem dL_law_449 : decode cL_law 449 = .ok (.if_icmp .eq 809, 3) := by decide +kernel
theorem dL_law_452 : decode cL_law 452 = .ok (.iconst 0, 1) := by decide +kernel
theorem dL_law_453 : decode cL_law 453 = .ok (.ireturn, 1) := by decide +kernel
theorem dL_law_454 : decode cL_law 454 = .ok (.aload_n 1, 1) := by decide +kernel
theorem dL_law_455 : decode cL_law 455 = .ok (.aload_n 0, 1) := by decide +kernel
theorem dL_law_456 : decode cL_law 456 = .ok (.iload_n 3, 1) := by decide +kernel
theorem dL_law_457 : decode cL_law 457 = .ok (.iconst 1, 1) := by decide +kernel
theorem dL_law_458 : decode cL_law 458 = .ok (.iadd, 1) := by decide +kernel
theorem dL_law_459 : decode cL_law 459 = .ok (.iaload, 1) := by decide +kernel
theorem dL_law_460 : decode cL_law 460 = .ok (.invokevirtual 55, 3) := by decide +kernel
theorem dL_law_463 : decode cL_law 463 = .ok (.aload_n 2, 1) := by decide +kernel
theorem dL_law_464 : decode cL_law 464 = .ok (.aload_n 0, 1) := by decide +kernel
theorem dL_law_465 : decode cL_law 465 = .ok (.iload_n 3, 1) := by decide +kernel
theorem dL_law_466 : decode cL_law 466 = .ok (.iconst 1, 1) := by decide +kernel
theorem dL_law_467 : decode cL_law 467 = .ok (.iadd, 1) := by decide +kernel
theorem dL_law_468 : decode cL_law 468 = .ok (.iaload, 1) := by decide +kernel
theorem dL_law_469 : decode cL_law 469 = .ok (.invokevirtual 58, 3) := by decide +kernel
theorem dL_law_472 : decode cL_law 472 = .ok (.if_icmp .eq 786, 3) := by decide +kernel
theorem dL_law_475 : decode cL_law 475 = .ok (.iconst 0, 1) := by decide +kernel
theorem dL_law_476 : decode cL_law 476 = .ok (.ireturn, 1) := by decide +kernel
theorem dL_law_477 : decode cL_law 477 = .ok (.aload_n 1, 1) := by decide +kernel
theorem dL_law_478 : decode cL_law 478 = .ok (.aload_n 0, 1) := by decide +kernel
theorem dL_law_479 : decode cL_law 479 = .ok (.iload_n 3, 1) := by decide +kernel
theorem dL_law_480 : decode cL_law 480 = .ok (.iconst 1, 1) := by decide +kernel
theorem dL_law_481 : decode cL_law 481 = .ok (.iadd, 1) := by decide +kernel
theorem dL_law_482 : decode cL_law 482 = .ok (.iaload, 1) := by decide +kernel
theorem dL_law_483 : decode cL_law 483 = .ok (.invokevirtual 59, 3) := by decide +kernel
theorem dL_law_486 : decode cL_law 486 = .ok (.aload_n 2, 1) := by decide +kernel
theorem dL_law_487 : decode cL_law 487 = .ok (.aload_n 0, 1) := by decide +kernel
theorem dL_law_488 : decode cL_law 488 = .ok (.iload_n 3, 1) := by decide +kernel
theorem dL_law_489 : decode cL_law 489 = .ok (.iconst 1, 1) := by decide +kernel
theorem dL_law_490 : decode cL_law 490 = .ok (.iadd, 1) := by decide +kernel
theorem dL_law_491 : decode cL_law 491 = .ok (.iaload, 1) := by decide +kernel
theorem dL_law_492 : decode cL_law 492 = .ok (.invokevirtual 62, 3) := by decide +kernel
theorem dL_law_495 : decode cL_law 495 = .ok (.if_icmp .eq 763, 3) := by decide +kernel
theorem dL_law_498 : decode cL_law 498 = .ok (.iconst 0, 1) := by decide +kernel
theorem dL_law_499 : decode cL_law 499 = .ok (.ireturn, 1) := by decide +kernel
theorem dL_law_500 : decode cL_law 500 = .ok (.aload_n 1, 1) := by decide +kernel
theorem dL_law_501 : decode cL_law 501 = .ok (.aload_n 0, 1) := by decide +kernel
theorem dL_law_502 : decode cL_law 502 = .ok (.iload_n 3, 1) := by decide +kernel
theorem dL_law_503 : decode cL_law 503 = .ok (.iconst 1, 1) := by decide +kernel
theorem dL_law_504 : decode cL_law 504 = .ok (.iadd, 1) := by decide +kernel
theorem dL_law_505 : decode cL_law 505 = .ok (.iaload, 1) := by decide +kernel
theorem dL_law_506 : decode cL_law 506 = .ok (.aload_n 0, 1) := by decide +kernel
theorem dL_law_507 : decode cL_law 507 = .ok (.iload_n 3, 1) := by decide +kernel
theorem dL_law_508 : decode cL_law 508 = .ok (.iconst 2, 1) := by decide +kernel
theorem dL_law_509 : decode cL_law 509 = .ok (.iadd, 1) := by decide +kernel
theorem dL_law_510 : decode cL_law 510 = .ok (.iaload, 1) := by decide +kernel
theorem dL_law_511 : decode cL_law 511 = .ok (.aload_n 0, 1) := by decide +kernel
theorem dL_law_512 : decode cL_law 512 = .ok (.iload_n 3, 1) := by decide +kernel
theorem dL_law_513 : decode cL_law 513 = .ok (.iconst 3, 1) := by decide +kernel
theorem dL_law_514 : decode cL_law 514 = .ok (.iadd, 1) := by decide +kernel
theorem dL_law_515 : decode cL_law 515 = .ok (.iaload, 1) := by decide +kernel
theorem dL_law_516 : decode cL_law 516 = .ok (.invokevirtual 63, 3) := by decide +kernel
theorem dL_law_519 : decode cL_law 519 = .ok (.aload_n 2, 1) := by decide +kernel
theorem dL_law_520 : decode cL_law 520 = .ok (.aload_n 0, 1) := by decide +kernel
theorem dL_law_521 : decode cL_law 521 = .ok (.iload_n 3, 1) := by decide +kernel
theorem dL_law_522 : decode cL_law 522 = .ok (.iconst 1, 1) := by decide +kernel
theorem dL_law_523 : decode cL_law 523 = .ok (.iadd, 1) := by decide +kernel
theorem dL_law_524 : decode cL_law 524 = .ok (.iaload, 1) := by decide +kernel
theorem dL_law_525 : decode cL_law 525 = .ok (.aload_n 0, 1) := by decide +kernel
theorem dL_law_526 : decode cL_law 526 = .ok (.iload_n 3, 1) := by decide +kernel
theorem dL_law_527 : decode cL_law 527 = .ok (.iconst 2, 1) := by decide +kernel
theorem dL_law_528 : decode cL_law 528 = .ok (.iadd, 1) := by decide +kernel
theorem dL_law_529 : decode cL_law 529 = .ok (.iaload, 1) := by decide +kernel
theorem dL_law_530 : decode cL_law 530 = .ok (.aload_n 0, 1) := by decide +kernel
theorem dL_law_531 : decode cL_law 531 = .ok (.iload_n 3, 1) := by decide +kernel
theorem dL_law_532 : decode cL_law 532 = .ok (.iconst 3, 1) := by decide +kernel
theorem dL_law_533 : decode cL_law 533 = .ok (.iadd, 1) := by decide +kernel
theorem dL_law_534 : decode cL_law 534 = .ok (.iaload, 1) := by decide +kernel
theorem dL_law_535 : decode cL_law 535 = .ok (.invokevirtual 67, 3) := by decide +kernel
theorem dL_law_538 : decode cL_law 538 = .ok (.if_icmp .eq 720, 3) := by decide +kernel
theorem dL_law_541 : decode cL_law 541 = .ok (.iconst 0, 1) := by decide +kernel
theorem dL_law_542 : decode cL_law 542 = .ok (.ireturn, 1) := by decide +kernel
theorem dL_law_543 : decode cL_law 543 = .ok (.aload_n 1, 1) := by decide +kernel
theorem dL_law_544 : decode cL_law 544 = .ok (.aload_n 0, 1) := by decide +kernel
theorem dL_law_545 : decode cL_law 545 = .ok (.iload_n 3, 1) := by decide +kernel
theorem dL_law_546 : decode cL_law 546 = .ok (.iconst 1, 1) := by decide +kernel
theorem dL_law_547 : decode cL_law 547 = .ok (.iadd, 1) := by decide +kernel
theorem dL_law_548 : decode cL_law 548 = .ok (.iaload, 1) := by decide +kernel
theorem dL_law_549 : decode cL_law 549 = .ok (.aload_n 0, 1) := by decide +kernel
theorem dL_law_550 : decode cL_law 550 = .ok (.iload_n 3, 1) := by decide +kernel
theorem dL_law_551 : decode cL_law 551 = .ok (.iconst 2, 1) := by decide +kernel
theorem dL_law_552 : decode cL_law 552 = .ok (.iadd, 1) := by decide +kernel
theorem dL_law_553 : decode cL_law 553 = .ok (.iaload, 1) := by decide +kernel
theorem dL_law_554 : decode cL_law 554 = .ok (.aload_n 0, 1) := by decide +kernel
theorem dL_law_555 : decode cL_law 555 = .ok (.iload_n 3, 1) := by decide +kernel
theorem dL_law_556 : decode cL_law 556 = .ok (.iconst 3, 1) := by decide +kernel
theorem dL_law_557 : decode cL_law 557 = .ok (.iadd, 1) := by decide +kernel
theorem dL_law_558 : decode cL_law 558 = .ok (.iaload, 1) := by decide +kernel
theorem dL_law_559 : decode cL_law 559 = .ok (.invokevirtual 68, 3) := by decide +kernel
theorem dL_law_562 : decode cL_law 562 = .ok (.aload_n 2, 1) := by decide +kernel
theorem dL_law_563 : decode cL_law 563 = .ok (.aload_n 0, 1) := by decide +kernel
theorem dL_law_564 : decode cL_law 564 = .ok (.iload_n 3, 1) := by decide +kernel
theorem dL_law_565 : decode cL_law 565 = .ok (.iconst 1, 1) := by decide +kernel
theorem dL_law_566 : decode cL_law 566 = .ok (.iadd, 1) := by decide +kernel
theorem dL_law_567 : decode cL_law 567 = .ok (.iaload, 1) := by decide +kernel
theorem dL_law_568 : decode cL_law 568 = .ok (.aload_n 0, 1) := by decide +kernel
theorem dL_law_569 : decode cL_law 569 = .ok (.iload_n 3, 1) := by decide +kernel
theorem dL_law_570 : decode cL_law 570 = .ok (.iconst 2, 1) := by decide +kernel
theorem dL_law_571 : decode cL_law 571 = .ok (.iadd, 1) := by decide +kernel
theorem dL_law_572 : decode cL_law 572 = .ok (.iaload, 1) := by decide +kernel
theorem dL_law_573 : decode cL_law 573 = .ok (.aload_n 0, 1) := by decide +kernel
theorem dL_law_574 : decode cL_law 574 = .ok (.iload_n 3, 1) := by decide +kernel
theorem dL_law_575 : decode cL_law 575 = .ok (.iconst 3, 1) := by decide +kernel
theorem dL_law_576 : decode cL_law 576 = .ok (.iadd, 1) := by decide +kernel
theorem dL_law_577 : decode cL_law 577 = .ok (.iaload, 1) := by decide +kernel
theorem dL_law_578 : decode cL_law 578 = .ok (.invokevirtual 71, 3) := by decide +kernel
theorem dL_law_581 : decode cL_law 581 = .ok (.if_icmp .eq 677, 3) := by decide +kernel
theorem dL_law_584 : decode cL_law 584 = .ok (.iconst 0, 1) := by decide +kernel
theorem dL_law_585 : decode cL_law 585 = .ok (.ireturn, 1) := by decide +kernel
theorem dL_law_586 : decode cL_law 586 = .ok (.aload_n 1, 1) := by decide +kernel
theorem dL_law_587 : decode cL_law 587 = .ok (.aload_n 0, 1) := by decide +kernel
theorem dL_law_588 : decode cL_law 588 = .ok (.iload_n 3, 1) := by decide +kernel
theorem dL_law_589 : decode cL_law 589 = .ok (.iconst 1, 1) := by decide +kernel
theorem dL_law_590 : decode cL_law 590 = .ok (.iadd, 1) := by decide +kernel
theorem dL_law_591 : decode cL_law 591 = .ok (.iaload, 1) := by decide +kernel
theorem dL_law_592 : decode cL_law 592 = .ok (.invokevirtual 72, 3) := by decide +kernel
theorem dL_law_595 : decode cL_law 595 = .ok (.aload_n 2, 1) := by decide +kernel
theorem dL_law_596 : decode cL_law 596 = .ok (.aload_n 0, 1) := by decide +kernel
theorem dL_law_597 : decode cL_law 597 = .ok (.iload_n 3, 1) := by decide +kernel
theorem dL_law_598 : decode cL_law 598 = .ok (.iconst 1, 1) := by decide +kernel
theorem dL_law_599 : decode cL_law 599 = .ok (.iadd, 1) := by decide +kernel
theorem dL_law_600 : decode cL_law 600 = .ok (.iaload, 1) := by decide +kernel
theorem dL_law_601 : decode cL_law 601 = .ok (.invokevirtual 75, 3) := by decide +kernel
theorem dL_law_604 : decode cL_law 604 = .ok (.if_icmp .eq 654, 3) := by decide +kernel
theorem dL_law_607 : decode cL_law 607 = .ok (.iconst 0, 1) := by decide +kernel
theorem dL_law_608 : decode cL_law 608 = .ok (.ireturn, 1) := by decide +kernel
theorem dL_law_609 : decode cL_law 609 = .ok (.aload_n 1, 1) := by decide +kernel
theorem dL_law_610 : decode cL_law 610 = .ok (.aload_n 0, 1) := by decide +kernel
theorem dL_law_611 : decode cL_law 611 = .ok (.iload_n 3, 1) := by decide +kernel
theorem dL_law_612 : decode cL_law 612 = .ok (.iconst 1, 1) := by decide +kernel
theorem dL_law_613 : decode cL_law 613 = .ok (.iadd, 1) := by decide +kernel
theorem dL_law_614 : decode cL_law 614 = .ok (.iaload, 1) := by decide +kernel
theorem dL_law_615 : decode cL_law 615 = .ok (.invokevirtual 76, 3) := by decide +kernel
theorem dL_law_618 : decode cL_law 618 = .ok (.aload_n 2, 1) := by decide +kernel
theorem dL_law_619 : decode cL_law 619 = .ok (.aload_n 0, 1) := by decide +kernel
theorem dL_law_620 : decode cL_law 620 = .ok (.iload_n 3, 1) := by decide +kernel
theorem dL_law_621 : decode cL_law 621 = .ok (.iconst 1, 1) := by decide +kernel
theorem dL_law_622 : decode cL_law 622 = .ok (.iadd, 1) := by decide +kernel
theorem dL_law_623 : decode cL_law 623 = .ok (.iaload, 1) := by decide +kernel
theorem dL_law_624 : decode cL_law 624 = .ok (.invokevirtual 79, 3) := by decide +kernel
theorem dL_law_627 : decode cL_law 627 = .ok (.if_icmp .eq 631, 3) := by decide +kernel
theorem dL_law_630 : decode cL_law 630 = .ok (.iconst 0, 1) := by decide +kernel
theorem dL_law_631 : decode cL_law 631 = .ok (.ireturn, 1) := by decide +kernel
theorem dL_law_632 : decode cL_law 632 = .ok (.aload_n 1, 1) := by decide +kernel
theorem dL_law_633 : decode cL_law 633 = .ok (.aload_n 0, 1) := by decide +kernel
theorem dL_law_634 : decode cL_law 634 = .ok (.iload_n 3, 1) := by decide +kernel
theorem dL_law_635 : decode cL_law 635 = .ok (.iconst 1, 1) := by decide +kernel
theorem dL_law_636 : decode cL_law 636 = .ok (.iadd, 1) := by decide +kernel
theorem dL_law_637 : decode cL_law 637 = .ok (.iaload, 1) := by decide +kernel
theorem dL_law_638 : decode cL_law 638 = .ok (.invokevirtual 80, 3) := by decide +kernel
theorem dL_law_641 : decode cL_law 641 = .ok (.aload_n 2, 1) := by decide +kernel
theorem dL_law_642 : decode cL_law 642 = .ok (.aload_n 0, 1) := by decide +kernel
theorem dL_law_643 : decode cL_law 643 = .ok (.iload_n 3, 1) := by decide +kernel
theorem dL_law_644 : decode cL_law 644 = .ok (.iconst 1, 1) := by decide +kernel
theorem dL_law_645 : decode cL_law 645 = .ok (.iadd, 1) := by decide +kernel
theorem dL_law_646 : decode cL_law 646 = .ok (.iaload, 1) := by decide +kernel
theorem dL_law_647 : decode cL_law 647 = .ok (.invokevirtual 83, 3) := by decide +kernel
theorem dL_law_650 : decode cL_law 650 = .ok (.if_icmp .eq 608, 3) := by decide +kernel
theorem dL_law_653 : decode cL_law 653 = .ok (.iconst 0, 1) := by decide +kernel
theorem dL_law_654 : decode cL_law 654 = .ok (.ireturn, 1) := by decide +kernel
theorem dL_law_655 : decode cL_law 655 = .ok (.aload_n 1, 1) := by decide +kernel
theorem dL_law_656 : decode cL_law 656 = .ok (.aload_n 0, 1) := by decide +kernel
theorem dL_law_657 : decode cL_law 657 = .ok (.iload_n 3, 1) := by decide +kernel
theorem dL_law_658 : decode cL_law 658 = .ok (.iconst 1, 1) := by decide +kernel
theorem dL_law_659 : decode cL_law 659 = .ok (.iadd, 1) := by decide +kernel
theorem dL_law_660 : decode cL_law 660 = .ok (.iaload, 1) := by decide +kernel
theorem dL_law_661 : decode cL_law 661 = .ok (.aload_n 0, 1) := by decide +kernel
theorem dL_law_662 : decode cL_law 662 = .ok (.iload_n 3, 1) := by decide +kernel
theorem dL_law_663 : decode cL_law 663 = .ok (.iconst 2, 1) := by decide +kernel
theorem dL_law_664 : decode cL_law 664 = .ok (.iadd, 1) := by decide +kernel
theorem dL_law_665 : decode cL_law 665 = .ok (.iaload, 1) := by decide +kernel
theorem dL_law_666 : decode cL_law 666 = .ok (.aload_n 0, 1) := by decide +kernel
theorem dL_law_667 : decode cL_law 667 = .ok (.iload_n 3, 1) := by decide +kernel
theorem dL_law_668 : decode cL_law 668 = .ok (.iconst 3, 1) := by decide +kernel
theorem dL_law_669 : decode cL_law 669 = .ok (.iadd, 1) := by decide +kernel
theorem dL_law_670 : decode cL_law 670 = .ok (.iaload, 1) := by decide +kernel
theorem dL_law_671 : decode cL_law 671 = .ok (.aload_n 0, 1) := by decide +kernel
theorem dL_law_672 : decode cL_law 672 = .ok (.iload_n 3, 1) := by decide +kernel
theorem dL_law_673 : decode cL_law 673 = .ok (.iconst 4, 1) := by decide +kernel
theorem dL_law_674 : decode cL_law 674 = .ok (.iadd, 1) := by decide +kernel
theorem dL_law_675 : decode cL_law 675 = .ok (.iaload, 1) := by decide +kernel
theorem dL_law_676 : decode cL_law 676 = .ok (.invokevirtual 84, 3) := by decide +kernel
theorem dL_law_679 : decode cL_law 679 = .ok (.aload_n 2, 1) := by decide +kernel
theorem dL_law_680 : decode cL_law 680 = .ok (.aload_n 0, 1) := by decide +kernel
theorem dL_law_681 : decode cL_law 681 = .ok (.iload_n 3, 1) := by decide +kernel
theorem dL_law_682 : decode cL_law 682 = .ok (.iconst 1, 1) := by decide +kernel
theorem dL_law_683 : decode cL_law 683 = .ok (.iadd, 1) := by decide +kernel
theorem dL_law_684 : decode cL_law 684 = .ok (.iaload, 1) := by decide +kernel
theorem dL_law_685 : decode cL_law 685 = .ok (.aload_n 0, 1) := by decide +kernel
theorem dL_law_686 : decode cL_law 686 = .ok (.iload_n 3, 1) := by decide +kernel
theorem dL_law_687 : decode cL_law 687 = .ok (.iconst 2, 1) := by decide +kernel
theorem dL_law_688 : decode cL_law 688 = .ok (.iadd, 1) := by decide +kernel
theorem dL_law_689 : decode cL_law 689 = .ok (.iaload, 1) := by decide +kernel
theorem dL_law_690 : decode cL_law 690 = .ok (.aload_n 0, 1) := by decide +kernel
theorem dL_law_691 : decode cL_law 691 = .ok (.iload_n 3, 1) := by decide +kernel
theorem dL_law_692 : decode cL_law 692 = .ok (.iconst 3, 1) := by decide +kernel
theorem dL_law_693 : decode cL_law 693 = .ok (.iadd, 1) := by decide +kernel
theorem dL_law_694 : decode cL_law 694 = .ok (.iaload, 1) := by decide +kernel
theorem dL_law_695 : decode cL_law 695 = .ok (.aload_n 0, 1) := by decide +kernel
theorem dL_law_696 : decode cL_law 696 = .ok (.iload_n 3, 1) := by decide +kernel
theorem dL_law_697 : decode cL_law 697 = .ok (.iconst 4, 1) := by decide +kernel
theorem dL_law_698 : decode cL_law 698 = .ok (.iadd, 1) := by decide +kernel
theorem dL_law_699 : decode cL_law 699 = .ok (.iaload, 1) := by decide +kernel
theorem dL_law_700 : decode cL_law 700 = .ok (.invokevirtual 88, 3) := by decide +kernel
theorem dL_law_703 : decode cL_law 703 = .ok (.if_icmp .eq 555, 3) := by decide +kernel
theorem dL_law_706 : decode cL_law 706 = .ok (.iconst 0, 1) := by decide +kernel
theorem dL_law_707 : decode cL_law 707 = .ok (.ireturn, 1) := by decide +kernel
theorem dL_law_708 : decode cL_law 708 = .ok (.aload_n 1, 1) := by decide +kernel
theorem dL_law_709 : decode cL_law 709 = .ok (.aload_n 0, 1) := by decide +kernel
theorem dL_law_710 : decode cL_law 710 = .ok (.iload_n 3, 1) := by decide +kernel
theorem dL_law_711 : decode cL_law 711 = .ok (.iconst 1, 1) := by decide +kernel
theorem dL_law_712 : decode cL_law 712 = .ok (.iadd, 1) := by decide +kernel
theorem dL_law_713 : decode cL_law 713 = .ok (.iaload, 1) := by decide +kernel
theorem dL_law_714 : decode cL_law 714 = .ok (.aload_n 0, 1) := by decide +kernel
theorem dL_law_715 : decode cL_law 715 = .ok (.iload_n 3, 1) := by decide +kernel
theorem dL_law_716 : decode cL_law 716 = .ok (.iconst 2, 1) := by decide +kernel
theorem dL_law_717 : decode cL_law 717 = .ok (.iadd, 1) := by decide +kernel
theorem dL_law_718 : decode cL_law 718 = .ok (.iaload, 1) := by decide +kernel
theorem dL_law_719 : decode cL_law 719 = .ok (.invokevirtual 89, 3) := by decide +kernel
theorem dL_law_722 : decode cL_law 722 = .ok (.aload_n 2, 1) := by decide +kernel
theorem dL_law_723 : decode cL_law 723 = .ok (.aload_n 0, 1) := by decide +kernel
theorem dL_law_724 : decode cL_law 724 = .ok (.iload_n 3, 1) := by decide +kernel
theorem dL_law_725 : decode cL_law 725 = .ok (.iconst 1, 1) := by decide +kernel
theorem dL_law_726 : decode cL_law 726 = .ok (.iadd, 1) := by decide +kernel
theorem dL_law_727 : decode cL_law 727 = .ok (.iaload, 1) := by decide +kernel
theorem dL_law_728 : decode cL_law 728 = .ok (.aload_n 0, 1) := by decide +kernel
theorem dL_law_729 : decode cL_law 729 = .ok (.iload_n 3, 1) := by decide +kernel
theorem dL_law_730 : decode cL_law 730 = .ok (.iconst 2, 1) := by decide +kernel
theorem dL_law_731 : decode cL_law 731 = .ok (.iadd, 1) := by decide +kernel
theorem dL_law_732 : decode cL_law 732 = .ok (.iaload, 1) := by decide +kernel
theorem dL_law_733 : decode cL_law 733 = .ok (.invokevirtual 92, 3) := by decide +kernel
theorem dL_law_736 : decode cL_law 736 = .ok (.if_icmp .eq 522, 3) := by decide +kernel
theorem dL_law_739 : decode cL_law 739 = .ok (.iconst 0, 1) := by decide +kernel
theorem dL_law_740 : decode cL_law 740 = .ok (.ireturn, 1) := by decide +kernel
theorem dL_law_741 : decode cL_law 741 = .ok (.aload_n 1, 1) := by decide +kernel
theorem dL_law_742 : decode cL_law 742 = .ok (.aload_n 0, 1) := by decide +kernel
theorem dL_law_743 : decode cL_law 743 = .ok (.iload_n 3, 1) := by decide +kernel
theorem dL_law_744 : decode cL_law 744 = .ok (.iconst 1, 1) := by decide +kernel
theorem dL_law_745 : decode cL_law 745 = .ok (.iadd, 1) := by decide +kernel
theorem dL_law_746 : decode cL_law 746 = .ok (.iaload, 1) := by decide +kernel
theorem dL_law_747 : decode cL_law 747 = .ok (.aload_n 0, 1) := by decide +kernel
theorem dL_law_748 : decode cL_law 748 = .ok (.iload_n 3, 1) := by decide +kernel
theorem dL_law_749 : decode cL_law 749 = .ok (.iconst 2, 1) := by decide +kernel
theorem dL_law_750 : decode cL_law 750 = .ok (.iadd, 1) := by decide +kernel
theorem dL_law_751 : decode cL_law 751 = .ok (.iaload, 1) := by decide +kernel
theorem dL_law_752 : decode cL_law 752 = .ok (.aload_n 0, 1) := by decide +kernel
theorem dL_law_753 : decode cL_law 753 = .ok (.iload_n 3, 1) := by decide +kernel
theorem dL_law_754 : decode cL_law 754 = .ok (.iconst 3, 1) := by decide +kernel
theorem dL_law_755 : decode cL_law 755 = .ok (.iadd, 1) := by decide +kernel
theorem dL_law_756 : decode cL_law 756 = .ok (.iaload, 1) := by decide +kernel
theorem dL_law_757 : decode cL_law 757 = .ok (.invokevirtual 93, 3) := by decide +kernel
theorem dL_law_760 : decode cL_law 760 = .ok (.aload_n 2, 1) := by decide +kernel
theorem dL_law_761 : decode cL_law 761 = .ok (.aload_n 0, 1) := by decide +kernel
theorem dL_law_762 : decode cL_law 762 = .ok (.iload_n 3, 1) := by decide +kernel
theorem dL_law_763 : decode cL_law 763 = .ok (.iconst 1, 1) := by decide +kernel
theorem dL_law_764 : decode cL_law 764 = .ok (.iadd, 1) := by decide +kernel
theorem dL_law_765 : decode cL_law 765 = .ok (.iaload, 1) := by decide +kernel
theorem dL_law_766 : decode cL_law 766 = .ok (.aload_n 0, 1) := by decide +kernel
theorem dL_law_767 : decode cL_law 767 = .ok (.iload_n 3, 1) := by decide +kernel
theorem dL_law_768 : decode cL_law 768 = .ok (.iconst 2, 1) := by decide +kernel
theorem dL_law_769 : decode cL_law 769 = .ok (.iadd, 1) := by decide +kernel
theorem dL_law_770 : decode cL_law 770 = .ok (.iaload, 1) := by decide +kernel
theorem dL_law_771 : decode cL_law 771 = .ok (.aload_n 0, 1) := by decide +kernel
theorem dL_law_772 : decode cL_law 772 = .ok (.iload_n 3, 1) := by decide +kernel
theorem dL_law_773 : decode cL_law 773 = .ok (.iconst 3, 1) := by decide +kernel
theorem dL_law_774 : decode cL_law 774 = .ok (.iadd, 1) := by decide +kernel
theorem dL_law_775 : decode cL_law 775 = .ok (.iaload, 1) := by decide +kernel
theorem dL_law_776 : decode cL_law 776 = .ok (.invokevirtual 96, 3) := by decide +kernel
theorem dL_law_779 : decode cL_law 779 = .ok (.if_icmp .eq 479, 3) := by decide +kernel
theorem dL_law_782 : decode cL_law 782 = .ok (.iconst 0, 1) := by decide +kernel
theorem dL_law_783 : decode cL_law 783 = .ok (.ireturn, 1) := by decide +kernel
theorem dL_law_784 : decode cL_law 784 = .ok (.aload_n 1, 1) := by decide +kernel
theorem dL_law_785 : decode cL_law 785 = .ok (.invokevirtual 97, 3) := by decide +kernel
theorem dL_law_788 : decode cL_law 788 = .ok (.aload_n 2, 1) := by decide +kernel
theorem dL_law_789 : decode cL_law 789 = .ok (.invokevirtual 101, 3) := by decide +kernel
theorem dL_law_792 : decode cL_law 792 = .ok (.if_icmp .eq 466, 3) := by decide +kernel
theorem dL_law_795 : decode cL_law 795 = .ok (.iconst 0, 1) := by decide +kernel
theorem dL_law_796 : decode cL_law 796 = .ok (.ireturn, 1) := by decide +kernel
theorem dL_law_797 : decode cL_law 797 = .ok (.aload_n 1, 1) := by decide +kernel
theorem dL_law_798 : decode cL_law 798 = .ok (.invokevirtual 102, 3) := by decide +kernel
theorem dL_law_801 : decode cL_law 801 = .ok (.aload_n 2, 1) := by decide +kernel
theorem dL_law_802 : decode cL_law 802 = .ok (.invokevirtual 105, 3) := by decide +kernel
theorem dL_law_805 : decode cL_law 805 = .ok (.if_icmp .eq 453, 3) := by decide +kernel
theorem dL_law_808 : decode cL_law 808 = .ok (.iconst 0, 1) := by decide +kernel
theorem dL_law_809 : decode cL_law 809 = .ok (.ireturn, 1) := by decide +kernel
theorem dL_law_810 : decode cL_law 810 = .ok (.aload_n 1, 1) := by decide +kernel
theorem dL_law_811 : decode cL_law 811 = .ok (.aload_n 0, 1) := by decide +kernel
theorem dL_law_812 : decode cL_law 812 = .ok (.iload_n 3, 1) := by decide +kernel
theorem dL_law_813 : decode cL_law 813 = .ok (.iconst 1, 1) := by decide +kernel
theorem dL_law_814 : decode cL_law 814 = .ok (.iadd, 1) := by decide +kernel
theorem dL_law_815 : decode cL_law 815 = .ok (.iaload, 1) := by decide +kernel
theorem dL_law_816 : decode cL_law 816 = .ok (.invokevirtual 106, 3) := by decide +kernel
theorem dL_law_819 : decode cL_law 819 = .ok (.aload_n 2, 1) := by decide +kernel
theorem dL_law_820 : decode cL_law 820 = .ok (.aload_n 0, 1) := by decide +kernel
theorem dL_law_821 : decode cL_law 821 = .ok (.iload_n 3, 1) := by decide +kernel
theorem dL_law_822 : decode cL_law 822 = .ok (.iconst 1, 1) := by decide +kernel
theorem dL_law_823 : decode cL_law 823 = .ok (.iadd, 1) := by decide +kernel
theorem dL_law_824 : decode cL_law 824 = .ok (.iaload, 1) := by decide +kernel
theorem dL_law_825 : decode cL_law 825 = .ok (.invokevirtual 109, 3) := by decide +kernel
theorem dL_law_828 : decode cL_law 828 = .ok (.if_icmp .eq 430, 3) := by decide +kernel
theorem dL_law_831 : decode cL_law 831 = .ok (.iconst 0, 1) := by decide +kernel
theorem dL_law_832 : decode cL_law 832 = .ok (.ireturn, 1) := by decide +kernel
theorem dL_law_833 : decode cL_law 833 = .ok (.aload_n 1, 1) := by decide +kernel
theorem dL_law_834 : decode cL_law 834 = .ok (.aload_n 0, 1) := by decide +kernel
theorem dL_law_835 : decode cL_law 835 = .ok (.iload_n 3, 1) := by decide +kernel
theorem dL_law_836 : decode cL_law 836 = .ok (.iconst 1, 1) := by decide +kernel
theorem dL_law_837 : decode cL_law 837 = .ok (.iadd, 1) := by decide +kernel
theorem dL_law_838 : decode cL_law 838 = .ok (.iaload, 1) := by decide +kernel
theorem dL_law_839 : decode cL_law 839 = .ok (.invokevirtual 110, 3) := by decide +kernel
theorem dL_law_842 : decode cL_law 842 = .ok (.aload_n 2, 1) := by decide +kernel
theorem dL_law_843 : decode cL_law 843 = .ok (.aload_n 0, 1) := by decide +kernel
theorem dL_law_844 : decode cL_law 844 = .ok (.iload_n 3, 1) := by decide +kernel
theorem dL_law_845 : decode cL_law 845 = .ok (.iconst 1, 1) := by decide +kernel
theorem dL_law_846 : decode cL_law 846 = .ok (.iadd, 1) := by decide +kernel
theorem dL_law_847 : decode cL_law 847 = .ok (.iaload, 1) := by decide +kernel
theorem dL_law_848 : decode cL_law 848 = .ok (.invokevirtual 113, 3) := by decide +kernel
theorem dL_law_851 : decode cL_law 851 = .ok (.if_icmp .eq 407, 3) := by decide +kernel
theorem dL_law_854 : decode cL_law 854 = .ok (.iconst 0, 1) := by decide +kernel
theorem dL_law_855 : decode cL_law 855 = .ok (.ireturn, 1) := by decide +kernel
theorem dL_law_856 : decode cL_law 856 = .ok (.aload_n 1, 1) := by decide +kernel
theorem dL_law_857 : decode cL_law 857 = .ok (.aload_n 0, 1) := by decide +kernel
theorem dL_law_858 : decode cL_law 858 = .ok (.iload_n 3, 1) := by decide +kernel
theorem dL_law_859 : decode cL_law 859 = .ok (.iconst 1, 1) := by decide +kernel
theorem dL_law_860 : decode cL_law 860 = .ok (.iadd, 1) := by decide +kernel
theorem dL_law_861 : decode cL_law 861 = .ok (.iaload, 1) := by decide +kernel
theorem dL_law_862 : decode cL_law 862 = .ok (.aload_n 0, 1) := by decide +kernel
theorem dL_law_863 : decode cL_law 863 = .ok (.iload_n 3, 1) := by decide +kernel
theorem dL_law_864 : decode cL_law 864 = .ok (.iconst 2, 1) := by decide +kernel
theorem dL_law_865 : decode cL_law 865 = .ok (.iadd, 1) := by decide +kernel
theorem dL_law_866 : decode cL_law 866 = .ok (.iaload, 1) := by decide +kernel
theorem dL_law_867 : decode cL_law 867 = .ok (.aload_n 0, 1) := by decide +kernel
theorem dL_law_868 : decode cL_law 868 = .ok (.iload_n 3, 1) := by decide +kernel
theorem dL_law_869 : decode cL_law 869 = .ok (.iconst 3, 1) := by decide +kernel
theorem dL_law_870 : decode cL_law 870 = .ok (.iadd, 1) := by decide +kernel
theorem dL_law_871 : decode cL_law 871 = .ok (.iaload, 1) := by decide +kernel
theorem dL_law_872 : decode cL_law 872 = .ok (.aload_n 0, 1) := by decide +kernel
theorem dL_law_873 : decode cL_law 873 = .ok (.iload_n 3, 1) := by decide +kernel
theorem dL_law_874 : decode cL_law 874 = .ok (.iconst 4, 1) := by decide +kernel
theorem dL_law_875 : decode cL_law 875 = .ok (.iadd, 1) := by decide +kernel
theorem dL_law_876 : decode cL_law 876 = .ok (.iaload, 1) := by decide +kernel
theorem dL_law_877 : decode cL_law 877 = .ok (.aload_n 0, 1) := by decide +kernel
theorem dL_law_878 : decode cL_law 878 = .ok (.iload_n 3, 1) := by decide +kernel
theorem dL_law_879 : decode cL_law 879 = .ok (.iconst 5, 1) := by decide +kernel
theorem dL_law_880 : decode cL_law 880 = .ok (.iadd, 1) := by decide +kernel
theorem dL_law_881 : decode cL_law 881 = .ok (.iaload, 1) := by decide +kernel
theorem dL_law_882 : decode cL_law 882 = .ok (.invokevirtual 114, 3) := by decide +kernel
theorem dL_law_885 : decode cL_law 885 = .ok (.aload_n 2, 1) := by decide +kernel
theorem dL_law_886 : decode cL_law 886 = .ok (.aload_n 0, 1) := by decide +kernel
theorem dL_law_887 : decode cL_law 887 = .ok (.iload_n 3, 1) := by decide +kernel
theorem dL_law_888 : decode cL_law 888 = .ok (.iconst 1, 1) := by decide +kernel
theorem dL_law_889 : decode cL_law 889 = .ok (.iadd, 1) := by decide +kernel
theorem dL_law_890 : decode cL_law 890 = .ok (.iaload, 1) := by decide +kernel
theorem dL_law_891 : decode cL_law 891 = .ok (.aload_n 0, 1) := by decide +kernel
theorem dL_law_892 : decode cL_law 892 = .ok (.iload_n 3, 1) := by decide +kernel
theorem dL_law_893 : decode cL_law 893 = .ok (.iconst 2, 1) := by decide +kernel
theorem dL_law_894 : decode cL_law 894 = .ok (.iadd, 1) := by decide +kernel
theorem dL_law_895 : decode cL_law 895 = .ok (.iaload, 1) := by decide +kernel
theorem dL_law_896 : decode cL_law 896 = .ok (.aload_n 0, 1) := by decide +kernel
theorem dL_law_897 : decode cL_law 897 = .ok (.iload_n 3, 1) := by decide +kernel
theorem dL_law_898 : decode cL_law 898 = .ok (.iconst 3, 1) := by decide +kernel
theorem dL_law_899 : decode cL_law 899 = .ok (.iadd, 1) := by decide +kernel
theorem dL_law_900 : decode cL_law 900 = .ok (.iaload, 1) := by decide +kernel
theorem dL_law_901 : decode cL_law 901 = .ok (.aload_n 0, 1) := by decide +kernel
theorem dL_law_902 : decode cL_law 902 = .ok (.iload_n 3, 1) := by decide +kernel
theorem dL_law_903 : decode cL_law 903 = .ok (.iconst 4, 1) := by decide +kernel
theorem dL_law_904 : decode cL_law 904 = .ok (.iadd, 1) := by decide +kernel
theorem dL_law_905 : decode cL_law 905 = .ok (.iaload, 1) := by decide +kernel
theorem dL_law_906 : decode cL_law 906 = .ok (.aload_n 0, 1) := by decide +kernel
theorem dL_law_907 : decode cL_law 907 = .ok (.iload_n 3, 1) := by decide +kernel
theorem dL_law_908 : decode cL_law 908 = .ok (.iconst 5, 1) := by decide +kernel
theorem dL_law_909 : decode cL_law 909 = .ok (.iadd, 1) := by decide +kernel
theorem dL_law_910 : decode cL_law 910 = .ok (.iaload, 1) := by decide +kernel
theorem dL_law_911 : decode cL_law 911 = .ok (.invokevirtual 118, 3) := by decide +kernel
theorem dL_law_914 : decode cL_law 914 = .ok (.lcmp, 1) := by decide +kernel
theorem dL_law_915 : decode cL_law 915 = .ok (.ifCond .eq 343, 3) := by decide +kernel
theorem dL_law_918 : decode cL_law 918 = .ok (.iconst 0, 1) := by decide +kernel
theorem dL_law_919 : decode cL_law 919 = .ok (.ireturn, 1) := by decide +kernel
theorem dL_law_920 : decode cL_law 920 = .ok (.aload_n 1, 1) := by decide +kernel
theorem dL_law_921 : decode cL_law 921 = .ok (.aload_n 0, 1) := by decide +kernel
theorem dL_law_922 : decode cL_law 922 = .ok (.iload_n 3, 1) := by decide +kernel
theorem dL_law_923 : decode cL_law 923 = .ok (.iconst 1, 1) := by decide +kernel
theorem dL_law_924 : decode cL_law 924 = .ok (.iadd, 1) := by decide +kernel
theorem dL_law_925 : decode cL_law 925 = .ok (.iaload, 1) := by decide +kernel
theorem dL_law_926 : decode cL_law 926 = .ok (.aload_n 0, 1) := by decide +kernel
theorem dL_law_927 : decode cL_law 927 = .ok (.iload_n 3, 1) := by decide +kernel
theorem dL_law_928 : decode cL_law 928 = .ok (.iconst 2, 1) := by decide +kernel
theorem dL_law_929 : decode cL_law 929 = .ok (.iadd, 1) := by decide +kernel
theorem dL_law_930 : decode cL_law 930 = .ok (.iaload, 1) := by decide +kernel
theorem dL_law_931 : decode cL_law 931 = .ok (.aload_n 0, 1) := by decide +kernel
theorem dL_law_932 : decode cL_law 932 = .ok (.iload_n 3, 1) := by decide +kernel
theorem dL_law_933 : decode cL_law 933 = .ok (.iconst 3, 1) := by decide +kernel
theorem dL_law_934 : decode cL_law 934 = .ok (.iadd, 1) := by decide +kernel
theorem dL_law_935 : decode cL_law 935 = .ok (.iaload, 1) := by decide +kernel
theorem dL_law_936 : decode cL_law 936 = .ok (.invokevirtual 119, 3) := by decide +kernel
theorem dL_law_939 : decode cL_law 939 = .ok (.aload_n 2, 1) := by decide +kernel
theorem dL_law_940 : decode cL_law 940 = .ok (.aload_n 0, 1) := by decide +kernel
theorem dL_law_941 : decode cL_law 941 = .ok (.iload_n 3, 1) := by decide +kernel
theorem dL_law_942 : decode cL_law 942 = .ok (.iconst 1, 1) := by decide +kernel
theorem dL_law_943 : decode cL_law 943 = .ok (.iadd, 1) := by decide +kernel
theorem dL_law_944 : decode cL_law 944 = .ok (.iaload, 1) := by decide +kernel
theorem dL_law_945 : decode cL_law 945 = .ok (.aload_n 0, 1) := by decide +kernel
theorem dL_law_946 : decode cL_law 946 = .ok (.iload_n 3, 1) := by decide +kernel
theorem dL_law_947 : decode cL_law 947 = .ok (.iconst 2, 1) := by decide +kernel
theorem dL_law_948 : decode cL_law 948 = .ok (.iadd, 1) := by decide +kernel
theorem dL_law_949 : decode cL_law 949 = .ok (.iaload, 1) := by decide +kernel
theorem dL_law_950 : decode cL_law 950 = .ok (.aload_n 0, 1) := by decide +kernel
theorem dL_law_951 : decode cL_law 951 = .ok (.iload_n 3, 1) := by decide +kernel
theorem dL_law_952 : decode cL_law 952 = .ok (.iconst 3, 1) := by decide +kernel
theorem dL_law_953 : decode cL_law 953 = .ok (.iadd, 1) := by decide +kernel
theorem dL_law_954 : decode cL_law 954 = .ok (.iaload, 1) := by decide +kernel
theorem dL_law_955 : decode cL_law 955 = .ok (.invokevirtual 122, 3) := by decide +kernel
theorem dL_law_958 : decode cL_law 958 = .ok (.if_icmp .eq 300, 3) := by decide +kernel
theorem dL_law_961 : decode cL_law 961 = .ok (.iconst 0, 1) := by decide +kernel
theorem dL_law_962 : decode cL_law 962 = .ok (.ireturn, 1) := by decide +kernel
theorem dL_law_963 : decode cL_law 963 = .ok (.aload_n 1, 1) := by decide +kernel
theorem dL_law_964 : decode cL_law 964 = .ok (.aload_n 0, 1) := by decide +kernel
theorem dL_law_965 : decode cL_law 965 = .ok (.iload_n 3, 1) := by decide +kernel
theorem dL_law_966 : decode cL_law 966 = .ok (.iconst 1, 1) := by decide +kernel
theorem dL_law_967 : decode cL_law 967 = .ok (.iadd, 1) := by decide +kernel
theorem dL_law_968 : decode cL_law 968 = .ok (.iaload, 1) := by decide +kernel
theorem dL_law_969 : decode cL_law 969 = .ok (.aload_n 0, 1) := by decide +kernel
theorem dL_law_970 : decode cL_law 970 = .ok (.iload_n 3, 1) := by decide +kernel
theorem dL_law_971 : decode cL_law 971 = .ok (.iconst 2, 1) := by decide +kernel
theorem dL_law_972 : decode cL_law 972 = .ok (.iadd, 1) := by decide +kernel
theorem dL_law_973 : decode cL_law 973 = .ok (.iaload, 1) := by decide +kernel
theorem dL_law_974 : decode cL_law 974 = .ok (.aload_n 0, 1) := by decide +kernel
theorem dL_law_975 : decode cL_law 975 = .ok (.iload_n 3, 1) := by decide +kernel
theorem dL_law_976 : decode cL_law 976 = .ok (.iconst 3, 1) := by decide +kernel
theorem dL_law_977 : decode cL_law 977 = .ok (.iadd, 1) := by decide +kernel
theorem dL_law_978 : decode cL_law 978 = .ok (.iaload, 1) := by decide +kernel
theorem dL_law_979 : decode cL_law 979 = .ok (.invokevirtual 123, 3) := by decide +kernel
theorem dL_law_982 : decode cL_law 982 = .ok (.aload_n 2, 1) := by decide +kernel
theorem dL_law_983 : decode cL_law 983 = .ok (.aload_n 0, 1) := by decide +kernel
theorem dL_law_984 : decode cL_law 984 = .ok (.iload_n 3, 1) := by decide +kernel
theorem dL_law_985 : decode cL_law 985 = .ok (.iconst 1, 1) := by decide +kernel
theorem dL_law_986 : decode cL_law 986 = .ok (.iadd, 1) := by decide +kernel
theorem dL_law_987 : decode cL_law 987 = .ok (.iaload, 1) := by decide +kernel
theorem dL_law_988 : decode cL_law 988 = .ok (.aload_n 0, 1) := by decide +kernel
theorem dL_law_989 : decode cL_law 989 = .ok (.iload_n 3, 1) := by decide +kernel
theorem dL_law_990 : decode cL_law 990 = .ok (.iconst 2, 1) := by decide +kernel
theorem dL_law_991 : decode cL_law 991 = .ok (.iadd, 1) := by decide +kernel
theorem dL_law_992 : decode cL_law 992 = .ok (.iaload, 1) := by decide +kernel
theorem dL_law_993 : decode cL_law 993 = .ok (.aload_n 0, 1) := by decide +kernel
theorem dL_law_994 : decode cL_law 994 = .ok (.iload_n 3, 1) := by decide +kernel
theorem dL_law_995 : decode cL_law 995 = .ok (.iconst 3, 1) := by decide +kernel
theorem dL_law_996 : decode cL_law 996 = .ok (.iadd, 1) := by decide +kernel
theorem dL_law_997 : decode cL_law 997 = .ok (.iaload, 1) := by decide +kernel
theorem dL_law_998 : decode cL_law 998 = .ok (.invokevirtual 126, 3) := by decide +kernel
theorem dL_law_1001 : decode cL_law 1001 = .ok (.if_icmp .eq 257, 3) := by decide +kernel
theorem dL_law_1004 : decode cL_law 1004 = .ok (.iconst 0, 1) := by decide +kernel
theorem dL_law_1005 : decode cL_law 1005 = .ok (.ireturn, 1) := by decide +kernel
theorem dL_law_1006 : decode cL_law 1006 = .ok (.aload_n 1, 1) := by decide +kernel
theorem dL_law_1007 : decode cL_law 1007 = .ok (.aload_n 0, 1) := by decide +kernel
theorem dL_law_1008 : decode cL_law 1008 = .ok (.iload_n 3, 1) := by decide +kernel
theorem dL_law_1009 : decode cL_law 1009 = .ok (.iconst 1, 1) := by decide +kernel
theorem dL_law_1010 : decode cL_law 1010 = .ok (.iadd, 1) := by decide +kernel
theorem dL_law_1011 : decode cL_law 1011 = .ok (.iaload, 1) := by decide +kernel
theorem dL_law_1012 : decode cL_law 1012 = .ok (.invokevirtual 127, 3) := by decide +kernel
theorem dL_law_1015 : decode cL_law 1015 = .ok (.aload_n 2, 1) := by decide +kernel
theorem dL_law_1016 : decode cL_law 1016 = .ok (.aload_n 0, 1) := by decide +kernel
theorem dL_law_1017 : decode cL_law 1017 = .ok (.iload_n 3, 1) := by decide +kernel
theorem dL_law_1018 : decode cL_law 1018 = .ok (.iconst 1, 1) := by decide +kernel
theorem dL_law_1019 : decode cL_law 1019 = .ok (.iadd, 1) := by decide +kernel
theorem dL_law_1020 : decode cL_law 1020 = .ok (.iaload, 1) := by decide +kernel
theorem dL_law_1021 : decode cL_law 1021 = .ok (.invokevirtual 130, 3) := by decide +kernel
theorem dL_law_1024 : decode cL_law 1024 = .ok (.if_icmp .eq 234, 3) := by decide +kernel
theorem dL_law_1027 : decode cL_law 1027 = .ok (.iconst 0, 1) := by decide +kernel
theorem dL_law_1028 : decode cL_law 1028 = .ok (.ireturn, 1) := by decide +kernel
theorem dL_law_1029 : decode cL_law 1029 = .ok (.aload_n 1, 1) := by decide +kernel
theorem dL_law_1030 : decode cL_law 1030 = .ok (.aload_n 0, 1) := by decide +kernel
theorem dL_law_1031 : decode cL_law 1031 = .ok (.iload_n 3, 1) := by decide +kernel
theorem dL_law_1032 : decode cL_law 1032 = .ok (.iconst 1, 1) := by decide +kernel
theorem dL_law_1033 : decode cL_law 1033 = .ok (.iadd, 1) := by decide +kernel
theorem dL_law_1034 : decode cL_law 1034 = .ok (.iaload, 1) := by decide +kernel
theorem dL_law_1035 : decode cL_law 1035 = .ok (.aload_n 0, 1) := by decide +kernel
theorem dL_law_1036 : decode cL_law 1036 = .ok (.iload_n 3, 1) := by decide +kernel
theorem dL_law_1037 : decode cL_law 1037 = .ok (.iconst 2, 1) := by decide +kernel
theorem dL_law_1038 : decode cL_law 1038 = .ok (.iadd, 1) := by decide +kernel
theorem dL_law_1039 : decode cL_law 1039 = .ok (.iaload, 1) := by decide +kernel
theorem dL_law_1040 : decode cL_law 1040 = .ok (.aload_n 0, 1) := by decide +kernel
theorem dL_law_1041 : decode cL_law 1041 = .ok (.iload_n 3, 1) := by decide +kernel
theorem dL_law_1042 : decode cL_law 1042 = .ok (.iconst 3, 1) := by decide +kernel
theorem dL_law_1043 : decode cL_law 1043 = .ok (.iadd, 1) := by decide +kernel
theorem dL_law_1044 : decode cL_law 1044 = .ok (.iaload, 1) := by decide +kernel
theorem dL_law_1045 : decode cL_law 1045 = .ok (.aload_n 0, 1) := by decide +kernel
theorem dL_law_1046 : decode cL_law 1046 = .ok (.iload_n 3, 1) := by decide +kernel
theorem dL_law_1047 : decode cL_law 1047 = .ok (.iconst 4, 1) := by decide +kernel
theorem dL_law_1048 : decode cL_law 1048 = .ok (.iadd, 1) := by decide +kernel
theorem dL_law_1049 : decode cL_law 1049 = .ok (.iaload, 1) := by decide +kernel
theorem dL_law_1050 : decode cL_law 1050 = .ok (.invokevirtual 131, 3) := by decide +kernel
theorem dL_law_1053 : decode cL_law 1053 = .ok (.aload_n 2, 1) := by decide +kernel
theorem dL_law_1054 : decode cL_law 1054 = .ok (.aload_n 0, 1) := by decide +kernel
theorem dL_law_1055 : decode cL_law 1055 = .ok (.iload_n 3, 1) := by decide +kernel
theorem dL_law_1056 : decode cL_law 1056 = .ok (.iconst 1, 1) := by decide +kernel
theorem dL_law_1057 : decode cL_law 1057 = .ok (.iadd, 1) := by decide +kernel
theorem dL_law_1058 : decode cL_law 1058 = .ok (.iaload, 1) := by decide +kernel
theorem dL_law_1059 : decode cL_law 1059 = .ok (.aload_n 0, 1) := by decide +kernel
theorem dL_law_1060 : decode cL_law 1060 = .ok (.iload_n 3, 1) := by decide +kernel
theorem dL_law_1061 : decode cL_law 1061 = .ok (.iconst 2, 1) := by decide +kernel
theorem dL_law_1062 : decode cL_law 1062 = .ok (.iadd, 1) := by decide +kernel
theorem dL_law_1063 : decode cL_law 1063 = .ok (.iaload, 1) := by decide +kernel
theorem dL_law_1064 : decode cL_law 1064 = .ok (.aload_n 0, 1) := by decide +kernel
theorem dL_law_1065 : decode cL_law 1065 = .ok (.iload_n 3, 1) := by decide +kernel
theorem dL_law_1066 : decode cL_law 1066 = .ok (.iconst 3, 1) := by decide +kernel
theorem dL_law_1067 : decode cL_law 1067 = .ok (.iadd, 1) := by decide +kernel
theorem dL_law_1068 : decode cL_law 1068 = .ok (.iaload, 1) := by decide +kernel
theorem dL_law_1069 : decode cL_law 1069 = .ok (.aload_n 0, 1) := by decide +kernel
theorem dL_law_1070 : decode cL_law 1070 = .ok (.iload_n 3, 1) := by decide +kernel
theorem dL_law_1071 : decode cL_law 1071 = .ok (.iconst 4, 1) := by decide +kernel
theorem dL_law_1072 : decode cL_law 1072 = .ok (.iadd, 1) := by decide +kernel
theorem dL_law_1073 : decode cL_law 1073 = .ok (.iaload, 1) := by decide +kernel
theorem dL_law_1074 : decode cL_law 1074 = .ok (.invokevirtual 134, 3) := by decide +kernel
theorem dL_law_1077 : decode cL_law 1077 = .ok (.if_icmp .eq 181, 3) := by decide +kernel
theorem dL_law_1080 : decode cL_law 1080 = .ok (.iconst 0, 1) := by decide +kernel
theorem dL_law_1081 : decode cL_law 1081 = .ok (.ireturn, 1) := by decide +kernel
theorem dL_law_1082 : decode cL_law 1082 = .ok (.aload_n 1, 1) := by decide +kernel
theorem dL_law_1083 : decode cL_law 1083 = .ok (.aload_n 0, 1) := by decide +kernel
theorem dL_law_1084 : decode cL_law 1084 = .ok (.iload_n 3, 1) := by decide +kernel
theorem dL_law_1085 : decode cL_law 1085 = .ok (.iconst 1, 1) := by decide +kernel
theorem dL_law_1086 : decode cL_law 1086 = .ok (.iadd, 1) := by decide +kernel
theorem dL_law_1087 : decode cL_law 1087 = .ok (.iaload, 1) := by decide +kernel
theorem dL_law_1088 : decode cL_law 1088 = .ok (.aload_n 0, 1) := by decide +kernel
theorem dL_law_1089 : decode cL_law 1089 = .ok (.iload_n 3, 1) := by decide +kernel
theorem dL_law_1090 : decode cL_law 1090 = .ok (.iconst 2, 1) := by decide +kernel
theorem dL_law_1091 : decode cL_law 1091 = .ok (.iadd, 1) := by decide +kernel
theorem dL_law_1092 : decode cL_law 1092 = .ok (.iaload, 1) := by decide +kernel
theorem dL_law_1093 : decode cL_law 1093 = .ok (.aload_n 0, 1) := by decide +kernel
theorem dL_law_1094 : decode cL_law 1094 = .ok (.iload_n 3, 1) := by decide +kernel
theorem dL_law_1095 : decode cL_law 1095 = .ok (.iconst 3, 1) := by decide +kernel
theorem dL_law_1096 : decode cL_law 1096 = .ok (.iadd, 1) := by decide +kernel
theorem dL_law_1097 : decode cL_law 1097 = .ok (.iaload, 1) := by decide +kernel
theorem dL_law_1098 : decode cL_law 1098 = .ok (.invokevirtual 135, 3) := by decide +kernel
theorem dL_law_1101 : decode cL_law 1101 = .ok (.aload_n 2, 1) := by decide +kernel
theorem dL_law_1102 : decode cL_law 1102 = .ok (.aload_n 0, 1) := by decide +kernel
theorem dL_law_1103 : decode cL_law 1103 = .ok (.iload_n 3, 1) := by decide +kernel
theorem dL_law_1104 : decode cL_law 1104 = .ok (.iconst 1, 1) := by decide +kernel
theorem dL_law_1105 : decode cL_law 1105 = .ok (.iadd, 1) := by decide +kernel
theorem dL_law_1106 : decode cL_law 1106 = .ok (.iaload, 1) := by decide +kernel
theorem dL_law_1107 : decode cL_law 1107 = .ok (.aload_n 0, 1) := by decide +kernel
theorem dL_law_1108 : decode cL_law 1108 = .ok (.iload_n 3, 1) := by decide +kernel
theorem dL_law_1109 : decode cL_law 1109 = .ok (.iconst 2, 1) := by decide +kernel
theorem dL_law_1110 : decode cL_law 1110 = .ok (.iadd, 1) := by decide +kernel
theorem dL_law_1111 : decode cL_law 1111 = .ok (.iaload, 1) := by decide +kernel
theorem dL_law_1112 : decode cL_law 1112 = .ok (.aload_n 0, 1) := by decide +kernel
theorem dL_law_1113 : decode cL_law 1113 = .ok (.iload_n 3, 1) := by decide +kernel
theorem dL_law_1114 : decode cL_law 1114 = .ok (.iconst 3, 1) := by decide +kernel
theorem dL_law_1115 : decode cL_law 1115 = .ok (.iadd, 1) := by decide +kernel
theorem dL_law_1116 : decode cL_law 1116 = .ok (.iaload, 1) := by decide +kernel
theorem dL_law_1117 : decode cL_law 1117 = .ok (.invokevirtual 138, 3) := by decide +kernel
theorem dL_law_1120 : decode cL_law 1120 = .ok (.if_icmp .eq 138, 3) := by decide +kernel
theorem dL_law_1123 : decode cL_law 1123 = .ok (.iconst 0, 1) := by decide +kernel
theorem dL_law_1124 : decode cL_law 1124 = .ok (.ireturn, 1) := by decide +kernel
theorem dL_law_1125 : decode cL_law 1125 = .ok (.aload_n 1, 1) := by decide +kernel
theorem dL_law_1126 : decode cL_law 1126 = .ok (.aload_n 0, 1) := by decide +kernel
theorem dL_law_1127 : decode cL_law 1127 = .ok (.iload_n 3, 1) := by decide +kernel
theorem dL_law_1128 : decode cL_law 1128 = .ok (.iconst 1, 1) := by decide +kernel
theorem dL_law_1129 : decode cL_law 1129 = .ok (.iadd, 1) := by decide +kernel
theorem dL_law_1130 : decode cL_law 1130 = .ok (.iaload, 1) := by decide +kernel
theorem dL_law_1131 : decode cL_law 1131 = .ok (.aload_n 0, 1) := by decide +kernel
theorem dL_law_1132 : decode cL_law 1132 = .ok (.iload_n 3, 1) := by decide +kernel
theorem dL_law_1133 : decode cL_law 1133 = .ok (.iconst 2, 1) := by decide +kernel
theorem dL_law_1134 : decode cL_law 1134 = .ok (.iadd, 1) := by decide +kernel
theorem dL_law_1135 : decode cL_law 1135 = .ok (.iaload, 1) := by decide +kernel
theorem dL_law_1136 : decode cL_law 1136 = .ok (.aload_n 0, 1) := by decide +kernel
theorem dL_law_1137 : decode cL_law 1137 = .ok (.iload_n 3, 1) := by decide +kernel
theorem dL_law_1138 : decode cL_law 1138 = .ok (.iconst 3, 1) := by decide +kernel
theorem dL_law_1139 : decode cL_law 1139 = .ok (.iadd, 1) := by decide +kernel
theorem dL_law_1140 : decode cL_law 1140 = .ok (.iaload, 1) := by decide +kernel
theorem dL_law_1141 : decode cL_law 1141 = .ok (.aload_n 0, 1) := by decide +kernel
theorem dL_law_1142 : decode cL_law 1142 = .ok (.iload_n 3, 1) := by decide +kernel
theorem dL_law_1143 : decode cL_law 1143 = .ok (.iconst 4, 1) := by decide +kernel
theorem dL_law_1144 : decode cL_law 1144 = .ok (.iadd, 1) := by decide +kernel
theorem dL_law_1145 : decode cL_law 1145 = .ok (.iaload, 1) := by decide +kernel
theorem dL_law_1146 : decode cL_law 1146 = .ok (.aload_n 0, 1) := by decide +kernel
theorem dL_law_1147 : decode cL_law 1147 = .ok (.iload_n 3, 1) := by decide +kernel
theorem dL_law_1148 : decode cL_law 1148 = .ok (.iconst 5, 1) := by decide +kernel
theorem dL_law_1149 : decode cL_law 1149 = .ok (.iadd, 1) := by decide +kernel
theorem dL_law_1150 : decode cL_law 1150 = .ok (.iaload, 1) := by decide +kernel
theorem dL_law_1151 : decode cL_law 1151 = .ok (.invokevirtual 139, 3) := by decide +kernel
theorem dL_law_1154 : decode cL_law 1154 = .ok (.aload_n 2, 1) := by decide +kernel
theorem dL_law_1155 : decode cL_law 1155 = .ok (.aload_n 0, 1) := by decide +kernel
theorem dL_law_1156 : decode cL_law 1156 = .ok (.iload_n 3, 1) := by decide +kernel
theorem dL_law_1157 : decode cL_law 1157 = .ok (.iconst 1, 1) := by decide +kernel
theorem dL_law_1158 : decode cL_law 1158 = .ok (.iadd, 1) := by decide +kernel
theorem dL_law_1159 : decode cL_law 1159 = .ok (.iaload, 1) := by decide +kernel
theorem dL_law_1160 : decode cL_law 1160 = .ok (.aload_n 0, 1) := by decide +kernel
theorem dL_law_1161 : decode cL_law 1161 = .ok (.iload_n 3, 1) := by decide +kernel
theorem dL_law_1162 : decode cL_law 1162 = .ok (.iconst 2, 1) := by decide +kernel
theorem dL_law_1163 : decode cL_law 1163 = .ok (.iadd, 1) := by decide +kernel
theorem dL_law_1164 : decode cL_law 1164 = .ok (.iaload, 1) := by decide +kernel
theorem dL_law_1165 : decode cL_law 1165 = .ok (.aload_n 0, 1) := by decide +kernel
theorem dL_law_1166 : decode cL_law 1166 = .ok (.iload_n 3, 1) := by decide +kernel
theorem dL_law_1167 : decode cL_law 1167 = .ok (.iconst 3, 1) := by decide +kernel
theorem dL_law_1168 : decode cL_law 1168 = .ok (.iadd, 1) := by decide +kernel
theorem dL_law_1169 : decode cL_law 1169 = .ok (.iaload, 1) := by decide +kernel
theorem dL_law_1170 : decode cL_law 1170 = .ok (.aload_n 0, 1) := by decide +kernel
theorem dL_law_1171 : decode cL_law 1171 = .ok (.iload_n 3, 1) := by decide +kernel
theorem dL_law_1172 : decode cL_law 1172 = .ok (.iconst 4, 1) := by decide +kernel
theorem dL_law_1173 : decode cL_law 1173 = .ok (.iadd, 1) := by decide +kernel
theorem dL_law_1174 : decode cL_law 1174 = .ok (.iaload, 1) := by decide +kernel
theorem dL_law_1175 : decode cL_law 1175 = .ok (.aload_n 0, 1) := by decide +kernel
theorem dL_law_1176 : decode cL_law 1176 = .ok (.iload_n 3, 1) := by decide +kernel
theorem dL_law_1177 : decode cL_law 1177 = .ok (.iconst 5, 1) := by decide +kernel
theorem dL_law_1178 : decode cL_law 1178 = .ok (.iadd, 1) := by decide +kernel
theorem dL_law_1179 : decode cL_law 1179 = .ok (.iaload, 1) := by decide +kernel
theorem dL_law_1180 : decode cL_law 1180 = .ok (.invokevirtual 143, 3) := by decide +kernel
theorem dL_law_1183 : decode cL_law 1183 = .ok (.if_icmp .eq 75, 3) := by decide +kernel
theorem dL_law_1186 : decode cL_law 1186 = .ok (.iconst 0, 1) := by decide +kernel
theorem dL_law_1187 : decode cL_law 1187 = .ok (.ireturn, 1) := by decide +kernel
theorem dL_law_1188 : decode cL_law 1188 = .ok (.aload_n 1, 1) := by decide +kernel
theorem dL_law_1189 : decode cL_law 1189 = .ok (.aload_n 0, 1) := by decide +kernel
theorem dL_law_1190 : decode cL_law 1190 = .ok (.iload_n 3, 1) := by decide +kernel
theorem dL_law_1191 : decode cL_law 1191 = .ok (.iconst 1, 1) := by decide +kernel
theorem dL_law_1192 : decode cL_law 1192 = .ok (.iadd, 1) := by decide +kernel
theorem dL_law_1193 : decode cL_law 1193 = .ok (.iaload, 1) := by decide +kernel
theorem dL_law_1194 : decode cL_law 1194 = .ok (.aload_n 0, 1) := by decide +kernel
theorem dL_law_1195 : decode cL_law 1195 = .ok (.iload_n 3, 1) := by decide +kernel
theorem dL_law_1196 : decode cL_law 1196 = .ok (.iconst 2, 1) := by decide +kernel
theorem dL_law_1197 : decode cL_law 1197 = .ok (.iadd, 1) := by decide +kernel
theorem dL_law_1198 : decode cL_law 1198 = .ok (.iaload, 1) := by decide +kernel
theorem dL_law_1199 : decode cL_law 1199 = .ok (.invokevirtual 144, 3) := by decide +kernel
theorem dL_law_1202 : decode cL_law 1202 = .ok (.aload_n 2, 1) := by decide +kernel
theorem dL_law_1203 : decode cL_law 1203 = .ok (.aload_n 0, 1) := by decide +kernel
theorem dL_law_1204 : decode cL_law 1204 = .ok (.iload_n 3, 1) := by decide +kernel
theorem dL_law_1205 : decode cL_law 1205 = .ok (.iconst 1, 1) := by decide +kernel
theorem dL_law_1206 : decode cL_law 1206 = .ok (.iadd, 1) := by decide +kernel
theorem dL_law_1207 : decode cL_law 1207 = .ok (.iaload, 1) := by decide +kernel
theorem dL_law_1208 : decode cL_law 1208 = .ok (.aload_n 0, 1) := by decide +kernel
theorem dL_law_1209 : decode cL_law 1209 = .ok (.iload_n 3, 1) := by decide +kernel
theorem dL_law_1210 : decode cL_law 1210 = .ok (.iconst 2, 1) := by decide +kernel
theorem dL_law_1211 : decode cL_law 1211 = .ok (.iadd, 1) := by decide +kernel
theorem dL_law_1212 : decode cL_law 1212 = .ok (.iaload, 1) := by decide +kernel
theorem dL_law_1213 : decode cL_law 1213 = .ok (.invokevirtual 147, 3) := by decide +kernel
theorem dL_law_1216 : decode cL_law 1216 = .ok (.if_icmp .eq 42, 3) := by decide +kernel
theorem dL_law_1219 : decode cL_law 1219 = .ok (.iconst 0, 1) := by decide +kernel
theorem dL_law_1220 : decode cL_law 1220 = .ok (.ireturn, 1) := by decide +kernel
theorem dL_law_1221 : decode cL_law 1221 = .ok (.aload_n 1, 1) := by decide +kernel
theorem dL_law_1222 : decode cL_law 1222 = .ok (.aload_n 0, 1) := by decide +kernel
theorem dL_law_1223 : decode cL_law 1223 = .ok (.iload_n 3, 1) := by decide +kernel
theorem dL_law_1224 : decode cL_law 1224 = .ok (.iconst 1, 1) := by decide +kernel
theorem dL_law_1225 : decode cL_law 1225 = .ok (.iadd, 1) := by decide +kernel
theorem dL_law_1226 : decode cL_law 1226 = .ok (.iaload, 1) := by decide +kernel
theorem dL_law_1227 : decode cL_law 1227 = .ok (.invokevirtual 148, 3) := by decide +kernel
theorem dL_law_1230 : decode cL_law 1230 = .ok (.aload_n 2, 1) := by decide +kernel
theorem dL_law_1231 : decode cL_law 1231 = .ok (.aload_n 0, 1) := by decide +kernel
theorem dL_law_1232 : decode cL_law 1232 = .ok (.iload_n 3, 1) := by decide +kernel
theorem dL_law_1233 : decode cL_law 1233 = .ok (.iconst 1, 1) := by decide +kernel
theorem dL_law_1234 : decode cL_law 1234 = .ok (.iadd, 1) := by decide +kernel
theorem dL_law_1235 : decode cL_law 1235 = .ok (.iaload, 1) := by decide +kernel
theorem dL_law_1236 : decode cL_law 1236 = .ok (.invokevirtual 151, 3) := by decide +kernel
theorem dL_law_1239 : decode cL_law 1239 = .ok (.if_icmp .eq 19, 3) := by decide +kernel
theorem dL_law_1242 : decode cL_law 1242 = .ok (.iconst 0, 1) := by decide +kernel
theorem dL_law_1243 : decode cL_law 1243 = .ok (.ireturn, 1) := by decide +kernel
theorem dL_law_1244 : decode cL_law 1244 = .ok (.aload_n 1, 1) := by decide +kernel
theorem dL_law_1245 : decode cL_law 1245 = .ok (.invokevirtual 152, 3) := by decide +kernel
theorem dL_law_1248 : decode cL_law 1248 = .ok (.aload_n 2, 1) := by decide +kernel
theorem dL_law_1249 : decode cL_law 1249 = .ok (.invokevirtual 156, 3) := by decide +kernel
theorem dL_law_1252 : decode cL_law 1252 = .ok (.lcmp, 1) := by decide +kernel
theorem dL_law_1253 : decode cL_law 1253 = .ok (.ifCond .eq 5, 3) := by decide +kernel
theorem dL_law_1256 : decode cL_law 1256 = .ok (.iconst 0, 1) := by decide +kernel
theorem dL_law_1257 : decode cL_law 1257 = .ok (.ireturn, 1) := by decide +kernel
theorem dL_law_1258 : decode cL_law 1258 = .ok (.iinc 3 6, 3) := by decide +kernel
theorem dL_law_1261 : decode cL_law 1261 = .ok (.goto (-1243), 3) := by decide +kernel
theorem dL_law_1264 : decode cL_law 1264 = .ok (.iconst 1, 1) := by decide +kernel
theorem dL_law_1265 : decode cL_law 1265 = .ok (.ireturn, 1) := by decide +kernel
set_option maxRecDepth 4000 in
theorem s_L_law_18 {w : GX} {d : Nat} {P : PN} {g : GI} (x3 : Int)
    (h : ((nm (((g_L w : Int)) - 6) < nm x3 → P (some (aI (1))) g) ∧ (¬ nm (((g_L w : Int)) - 6) < nm x3 → (0 ≤ nm x3 ∧ nm x3 < (g_L w : Int) ∧ ((nm (iAnd ((g_xs w (nm x3).toNat).toInt) 63) = 0 → Zm w (d + 17) mL_law 184 [some (aR (some (SC))), some (aR (some (0))), some (aR (some (228))), some (aI (x3))] [] g P) ∧ (nm (iAnd ((g_xs w (nm x3).toNat).toInt) 63) = 1 → Zm w (d + 17) mL_law 217 [some (aR (some (SC))), some (aR (some (0))), some (aR (some (228))), some (aI (x3))] [] g P) ∧ (nm (iAnd ((g_xs w (nm x3).toNat).toInt) 63) = 2 → Zm w (d + 17) mL_law 240 [some (aR (some (SC))), some (aR (some (0))), some (aR (some (228))), some (aI (x3))] [] g P) ∧ (nm (iAnd ((g_xs w (nm x3).toNat).toInt) 63) = 3 → Zm w (d + 17) mL_law 263 [some (aR (some (SC))), some (aR (some (0))), some (aR (some (228))), some (aI (x3))] [] g P) ∧ (nm (iAnd ((g_xs w (nm x3).toNat).toInt) 63) = 4 → Zm w (d + 17) mL_law 286 [some (aR (some (SC))), some (aR (some (0))), some (aR (some (228))), some (aI (x3))] [] g P) ∧ (nm (iAnd ((g_xs w (nm x3).toNat).toInt) 63) = 5 → Zm w (d + 17) mL_law 309 [some (aR (some (SC))), some (aR (some (0))), some (aR (some (228))), some (aI (x3))] [] g P) ∧ (nm (iAnd ((g_xs w (nm x3).toNat).toInt) 63) = 6 → Zm w (d + 17) mL_law 342 [some (aR (some (SC))), some (aR (some (0))), some (aR (some (228))), some (aI (x3))] [] g P) ∧ (nm (iAnd ((g_xs w (nm x3).toNat).toInt) 63) = 7 → Zm w (d + 17) mL_law 365 [some (aR (some (SC))), some (aR (some (0))), some (aR (some (228))), some (aI (x3))] [] g P) ∧ (nm (iAnd ((g_xs w (nm x3).toNat).toInt) 63) = 8 → Zm w (d + 17) mL_law 398 [some (aR (some (SC))), some (aR (some (0))), some (aR (some (228))), some (aI (x3))] [] g P) ∧ (nm (iAnd ((g_xs w (nm x3).toNat).toInt) 63) = 9 → Zm w (d + 17) mL_law 431 [some (aR (some (SC))), some (aR (some (0))), some (aR (some (228))), some (aI (x3))] [] g P) ∧ (nm (iAnd ((g_xs w (nm x3).toNat).toInt) 63) = 10 → Zm w (d + 17) mL_law 454 [some (aR (some (SC))), some (aR (some (0))), some (aR (some (228))), some (aI (x3))] [] g P) ∧ (nm (iAnd ((g_xs w (nm x3).toNat).toInt) 63) = 11 → Zm w (d + 17) mL_law 477 [some (aR (some (SC))), some (aR (some (0))), some (aR (some (228))), some (aI (x3))] [] g P) ∧ (nm (iAnd ((g_xs w (nm x3).toNat).toInt) 63) = 12 → Zm w (d + 17) mL_law 500 [some (aR (some (SC))), some (aR (some (0))), some (aR (some (228))), some (aI (x3))] [] g P) ∧ (nm (iAnd ((g_xs w (nm x3).toNat).toInt) 63) = 13 → Zm w (d + 17) mL_law 543 [some (aR (some (SC))), some (aR (some (0))), some (aR (some (228))), some (aI (x3))] [] g P) ∧ (nm (iAnd ((g_xs w (nm x3).toNat).toInt) 63) = 14 → Zm w (d + 17) mL_law 586 [some (aR (some (SC))), some (aR (some (0))), some (aR (some (228))), some (aI (x3))] [] g P) ∧ (nm (iAnd ((g_xs w (nm x3).toNat).toInt) 63) = 15 → Zm w (d + 17) mL_law 609 [some (aR (some (SC))), some (aR (some (0))), some (aR (some (228))), some (aI (x3))] [] g P) ∧ (nm (iAnd ((g_xs w (nm x3).toNat).toInt) 63) = 16 → Zm w (d + 17) mL_law 632 [some (aR (some (SC))), some (aR (some (0))), some (aR (some (228))), some (aI (x3))] [] g P) ∧ (nm (iAnd ((g_xs w (nm x3).toNat).toInt) 63) = 17 → Zm w (d + 17) mL_law 655 [some (aR (some (SC))), some (aR (some (0))), some (aR (some (228))), some (aI (x3))] [] g P) ∧ (nm (iAnd ((g_xs w (nm x3).toNat).toInt) 63) = 18 → Zm w (d + 17) mL_law 708 [some (aR (some (SC))), some (aR (some (0))), some (aR (some (228))), some (aI (x3))] [] g P) ∧ (nm (iAnd ((g_xs w (nm x3).toNat).toInt) 63) = 19 → Zm w (d + 17) mL_law 741 [some (aR (some (SC))), some (aR (some (0))), some (aR (some (228))), some (aI (x3))] [] g P) ∧ (nm (iAnd ((g_xs w (nm x3).toNat).toInt) 63) = 20 → Zm w (d + 17) mL_law 784 [some (aR (some (SC))), some (aR (some (0))), some (aR (some (228))), some (aI (x3))] [] g P) ∧ (nm (iAnd ((g_xs w (nm x3).toNat).toInt) 63) = 21 → Zm w (d + 17) mL_law 797 [some (aR (some (SC))), some (aR (some (0))), some (aR (some (228))), some (aI (x3))] [] g P) ∧ (nm (iAnd ((g_xs w (nm x3).toNat).toInt) 63) = 22 → Zm w (d + 17) mL_law 810 [some (aR (some (SC))), some (aR (some (0))), some (aR (some (228))), some (aI (x3))] [] g P) ∧ (nm (iAnd ((g_xs w (nm x3).toNat).toInt) 63) = 23 → Zm w (d + 17) mL_law 833 [some (aR (some (SC))), some (aR (some (0))), some (aR (some (228))), some (aI (x3))] [] g P) ∧ (nm (iAnd ((g_xs w (nm x3).toNat).toInt) 63) = 24 → Zm w (d + 17) mL_law 856 [some (aR (some (SC))), some (aR (some (0))), some (aR (some (228))), some (aI (x3))] [] g P) ∧ (nm (iAnd ((g_xs w (nm x3).toNat).toInt) 63) = 25 → Zm w (d + 17) mL_law 920 [some (aR (some (SC))), some (aR (some (0))), some (aR (some (228))), some (aI (x3))] [] g P) ∧ (nm (iAnd ((g_xs w (nm x3).toNat).toInt) 63) = 26 → Zm w (d + 17) mL_law 963 [some (aR (some (SC))), some (aR (some (0))), some (aR (some (228))), some (aI (x3))] [] g P) ∧ (nm (iAnd ((g_xs w (nm x3).toNat).toInt) 63) = 27 → Zm w (d + 17) mL_law 1006 [some (aR (some (SC))), some (aR (some (0))), some (aR (some (228))), some (aI (x3))] [] g P) ∧ (nm (iAnd ((g_xs w (nm x3).toNat).toInt) 63) = 28 → Zm w (d + 17) mL_law 1029 [some (aR (some (SC))), some (aR (some (0))), some (aR (some (228))), some (aI (x3))] [] g P) ∧ (nm (iAnd ((g_xs w (nm x3).toNat).toInt) 63) = 29 → Zm w (d + 17) mL_law 1082 [some (aR (some (SC))), some (aR (some (0))), some (aR (some (228))), some (aI (x3))] [] g P) ∧ (nm (iAnd ((g_xs w (nm x3).toNat).toInt) 63) = 30 → Zm w (d + 17) mL_law 1125 [some (aR (some (SC))), some (aR (some (0))), some (aR (some (228))), some (aI (x3))] [] g P) ∧ (nm (iAnd ((g_xs w (nm x3).toNat).toInt) 63) = 31 → Zm w (d + 17) mL_law 1188 [some (aR (some (SC))), some (aR (some (0))), some (aR (some (228))), some (aI (x3))] [] g P) ∧ (nm (iAnd ((g_xs w (nm x3).toNat).toInt) 63) = 32 → Zm w (d + 17) mL_law 1221 [some (aR (some (SC))), some (aR (some (0))), some (aR (some (228))), some (aI (x3))] [] g P) ∧ (nm (iAnd ((g_xs w (nm x3).toNat).toInt) 63) = 33 → Zm w (d + 17) mL_law 1244 [some (aR (some (SC))), some (aR (some (0))), some (aR (some (228))), some (aI (x3))] [] g P) ∧ (¬ nm (iAnd ((g_xs w (nm x3).toNat).toInt) 63) = 0 → ¬ nm (iAnd ((g_xs w (nm x3).toNat).toInt) 63) = 1 → ¬ nm (iAnd ((g_xs w (nm x3).toNat).toInt) 63) = 2 → ¬ nm (iAnd ((g_xs w (nm x3).toNat).toInt) 63) = 3 → ¬ nm (iAnd ((g_xs w (nm x3).toNat).toInt) 63) = 4 → ¬ nm (iAnd ((g_xs w (nm x3).toNat).toInt) 63) = 5 → ¬ nm (iAnd ((g_xs w (nm x3).toNat).toInt) 63) = 6 → ¬ nm (iAnd ((g_xs w (nm x3).toNat).toInt) 63) = 7 → ¬ nm (iAnd ((g_xs w (nm x3).toNat).toInt) 63) = 8 → ¬ nm (iAnd ((g_xs w (nm x3).toNat).toInt) 63) = 9 → ¬ nm (iAnd ((g_xs w (nm x3).toNat).toInt) 63) = 10 → ¬ nm (iAnd ((g_xs w (nm x3).toNat).toInt) 63) = 11 → ¬ nm (iAnd ((g_xs w (nm x3).toNat).toInt) 63) = 12 → ¬ nm (iAnd ((g_xs w (nm x3).toNat).toInt) 63) = 13 → ¬ nm (iAnd ((g_xs w (nm x3).toNat).toInt) 63) = 14 → ¬ nm (iAnd ((g_xs w (nm x3).toNat).toInt) 63) = 15 → ¬ nm (iAnd ((g_xs w (nm x3).toNat).toInt) 63) = 16 → ¬ nm (iAnd ((g_xs w (nm x3).toNat).toInt) 63) = 17 → ¬ nm (iAnd ((g_xs w (nm x3).toNat).toInt) 63) = 18 → ¬ nm (iAnd ((g_xs w (nm x3).toNat).toInt) 63) = 19 → ¬ nm (iAnd ((g_xs w (nm x3).toNat).toInt) 63) = 20 → ¬ nm (iAnd ((g_xs w (nm x3).toNat).toInt) 63) = 21 → ¬ nm (iAnd ((g_xs w (nm x3).toNat).toInt) 63) = 22 → ¬ nm (iAnd ((g_xs w (nm x3).toNat).toInt) 63) = 23 → ¬ nm (iAnd ((g_xs w (nm x3).toNat).toInt) 63) = 24 → ¬ nm (iAnd ((g_xs w (nm x3).toNat).toInt) 63) = 25 → ¬ nm (iAnd ((g_xs w (nm x3).toNat).toInt) 63) = 26 → ¬ nm (iAnd ((g_xs w (nm x3).toNat).toInt) 63) = 27 → ¬ nm (iAnd ((g_xs w (nm x3).toNat).toInt) 63) = 28 → ¬ nm (iAnd ((g_xs w (nm x3).toNat).toInt) 63) = 29 → ¬ nm (iAnd ((g_xs w (nm x3).toNat).toInt) 63) = 30 → ¬ nm (iAnd ((g_xs w (nm x3).toNat).toInt) 63) = 31 → ¬ nm (iAnd ((g_xs w (nm x3).toNat).toInt) 63) = 32 → ¬ nm (iAnd ((g_xs w (nm x3).toNat).toInt) 63) = 33 → Zm w (d + 17) mL_law 1258 [some (aR (some (SC))), some (aR (some (0))), some (aR (some (228))), some (aI (x3))] [] g P)))))) :
    Zm w (d + 17) mL_law 18 [some (aR (some (SC))), some (aR (some (0))), some (aR (some (228))), some (aI (x3))] [] g P := by
  refine z_iload_n dL_law_18 rfl rfl ?_
  refine z_aload_n dL_law_19 rfl rfl ?_
  refine z_slen dL_law_20 ?_
  refine z_bipush dL_law_21 rfl ?_
  refine z_isub dL_law_23 ?_
  refine z_icmp_gt (tgt := 1264) dL_law_24 (by decide) (fun c1 => ?_) (fun c1 => ?_)
  · replace h := h.1 c1
    refine z_iconst dL_law_1264 ?_
    exact m_zret dL_law_1265 rfl (by decide) h
  · replace h := h.2 c1
    refine z_aload_n dL_law_27 rfl rfl ?_
    refine z_iload_n dL_law_28 rfl rfl ?_
    obtain ⟨q2, q3, h⟩ := h
    refine z_sld dL_law_29 q2 q3 ?_
    refine z_bipush dL_law_30 rfl ?_
    refine z_iand dL_law_32 ?_
    refine z_tsw (df := 1258) (cs := [(0, 184), (1, 217), (2, 240), (3, 263), (4, 286), (5, 309), (6, 342), (7, 365), (8, 398), (9, 431), (10, 454), (11, 477), (12, 500), (13, 543), (14, 586), (15, 609), (16, 632), (17, 655), (18, 708), (19, 741), (20, 784), (21, 797), (22, 810), (23, 833), (24, 856), (25, 920), (26, 963), (27, 1006), (28, 1029), (29, 1082), (30, 1125), (31, 1188), (32, 1221), (33, 1244)]) dL_law_33 (by decide) (by decide) (by decide) (by decide) ?_
    by_cases c4 : nm (iAnd ((g_xs w (nm x3).toNat).toInt) 63) = 0
    · rw [sw_c c4]
      replace h := h.1 c4
      exact z_weak (by simp [lle]) h
    rw [sw_n c4]; replace h := h.2
    by_cases c5 : nm (iAnd ((g_xs w (nm x3).toNat).toInt) 63) = 1
    · rw [sw_c c5]
      replace h := h.1 c5
      exact z_weak (by simp [lle]) h
    rw [sw_n c5]; replace h := h.2
    by_cases c6 : nm (iAnd ((g_xs w (nm x3).toNat).toInt) 63) = 2
    · rw [sw_c c6]
      replace h := h.1 c6
      exact z_weak (by simp [lle]) h
    rw [sw_n c6]; replace h := h.2
    by_cases c7 : nm (iAnd ((g_xs w (nm x3).toNat).toInt) 63) = 3
    · rw [sw_c c7]
      replace h := h.1 c7
      exact z_weak (by simp [lle]) h
    rw [sw_n c7]; replace h := h.2
    by_cases c8 : nm (iAnd ((g_xs w (nm x3).toNat).toInt) 63) = 4
    · rw [sw_c c8]
      replace h := h.1 c8
      exact z_weak (by simp [lle]) h
    rw [sw_n c8]; replace h := h.2
    by_cases c9 : nm (iAnd ((g_xs w (nm x3).toNat).toInt) 63) = 5
    · rw [sw_c c9]
      replace h := h.1 c9
      exact z_weak (by simp [lle]) h
    rw [sw_n c9]; replace h := h.2
    by_cases c10 : nm (iAnd ((g_xs w (nm x3).toNat).toInt) 63) = 6
    · rw [sw_c c10]
      replace h := h.1 c10
      exact z_weak (by simp [lle]) h
    rw [sw_n c10]; replace h := h.2
    by_cases c11 : nm (iAnd ((g_xs w (nm x3).toNat).toInt) 63) = 7
    · rw [sw_c c11]
      replace h := h.1 c11
      exact z_weak (by simp [lle]) h
    rw [sw_n c11]; replace h := h.2
    by_cases c12 : nm (iAnd ((g_xs w (nm x3).toNat).toInt) 63) = 8
    · rw [sw_c c12]
      replace h := h.1 c12
      exact z_weak (by simp [lle]) h
    rw [sw_n c12]; replace h := h.2
    by_cases c13 : nm (iAnd ((g_xs w (nm x3).toNat).toInt) 63) = 9
    · rw [sw_c c13]
      replace h := h.1 c13
      exact z_weak (by simp [lle]) h
    rw [sw_n c13]; replace h := h.2
    by_cases c14 : nm (iAnd ((g_xs w (nm x3).toNat).toInt) 63) = 10
    · rw [sw_c c14]
      replace h := h.1 c14
      exact z_weak (by simp [lle]) h
    rw [sw_n c14]; replace h := h.2
    by_cases c15 : nm (iAnd ((g_xs w (nm x3).toNat).toInt) 63) = 11
    · rw [sw_c c15]
      replace h := h.1 c15
      exact z_weak (by simp [lle]) h
    rw [sw_n c15]; replace h := h.2
    by_cases c16 : nm (iAnd ((g_xs w (nm x3).toNat).toInt) 63) = 12
    · rw [sw_c c16]
      replace h := h.1 c16
      exact z_weak (by simp [lle]) h
    rw [sw_n c16]; replace h := h.2
    by_cases c17 : nm (iAnd ((g_xs w (nm x3).toNat).toInt) 63) = 13
    · rw [sw_c c17]
      replace h := h.1 c17
      exact z_weak (by simp [lle]) h
    rw [sw_n c17]; replace h := h.2
    by_cases c18 : nm (iAnd ((g_xs w (nm x3).toNat).toInt) 63) = 14
    · rw [sw_c c18]
      replace h := h.1 c18
      exact z_weak (by simp [lle]) h
    rw [sw_n c18]; replace h := h.2
    by_cases c19 : nm (iAnd ((g_xs w (nm x3).toNat).toInt) 63) = 15
    · rw [sw_c c19]
      replace h := h.1 c19
      exact z_weak (by simp [lle]) h
    rw [sw_n c19]; replace h := h.2
    by_cases c20 : nm (iAnd ((g_xs w (nm x3).toNat).toInt) 63) = 16
    · rw [sw_c c20]
      replace h := h.1 c20
      exact z_weak (by simp [lle]) h
    rw [sw_n c20]; replace h := h.2
    by_cases c21 : nm (iAnd ((g_xs w (nm x3).toNat).toInt) 63) = 17
    · rw [sw_c c21]
      replace h := h.1 c21
      exact z_weak (by simp [lle]) h
    rw [sw_n c21]; replace h := h.2
    by_cases c22 : nm (iAnd ((g_xs w (nm x3).toNat).toInt) 63) = 18
    · rw [sw_c c22]
      replace h := h.1 c22
      exact z_weak (by simp [lle]) h
    rw [sw_n c22]; replace h := h.2
    by_cases c23 : nm (iAnd ((g_xs w (nm x3).toNat).toInt) 63) = 19
    · rw [sw_c c23]
      replace h := h.1 c23
      exact z_weak (by simp [lle]) h
    rw [sw_n c23]; replace h := h.2
    by_cases c24 : nm (iAnd ((g_xs w (nm x3).toNat).toInt) 63) = 20
    · rw [sw_c c24]
      replace h := h.1 c24
      exact z_weak (by simp [lle]) h
    rw [sw_n c24]; replace h := h.2
    by_cases c25 : nm (iAnd ((g_xs w (nm x3).toNat).toInt) 63) = 21
    · rw [sw_c c25]
      replace h := h.1 c25
      exact z_weak (by simp [lle]) h
    rw [sw_n c25]; replace h := h.2
    by_cases c26 : nm (iAnd ((g_xs w (nm x3).toNat).toInt) 63) = 22
    · rw [sw_c c26]
      replace h := h.1 c26
      exact z_weak (by simp [lle]) h
    rw [sw_n c26]; replace h := h.2
    by_cases c27 : nm (iAnd ((g_xs w (nm x3).toNat).toInt) 63) = 23
    · rw [sw_c c27]
      replace h := h.1 c27
      exact z_weak (by simp [lle]) h
    rw [sw_n c27]; replace h := h.2
    by_cases c28 : nm (iAnd ((g_xs w (nm x3).toNat).toInt) 63) = 24
    · rw [sw_c c28]
      replace h := h.1 c28
      exact z_weak (by simp [lle]) h
    rw [sw_n c28]; replace h := h.2
    by_cases c29 : nm (iAnd ((g_xs w (nm x3).toNat).toInt) 63) = 25
    · rw [sw_c c29]
      replace h := h.1 c29
      exact z_weak (by simp [lle]) h
    rw [sw_n c29]; replace h := h.2
    by_cases c30 : nm (iAnd ((g_xs w (nm x3).toNat).toInt) 63) = 26
    · rw [sw_c c30]
      replace h := h.1 c30
      exact z_weak (by simp [lle]) h
    rw [sw_n c30]; replace h := h.2
    by_cases c31 : nm (iAnd ((g_xs w (nm x3).toNat).toInt) 63) = 27
    · rw [sw_c c31]
      replace h := h.1 c31
      exact z_weak (by simp [lle]) h
    rw [sw_n c31]; replace h := h.2
    by_cases c32 : nm (iAnd ((g_xs w (nm x3).toNat).toInt) 63) = 28
    · rw [sw_c c32]
      replace h := h.1 c32
      exact z_weak (by simp [lle]) h
    rw [sw_n c32]; replace h := h.2
    by_cases c33 : nm (iAnd ((g_xs w (nm x3).toNat).toInt) 63) = 29
    · rw [sw_c c33]
      replace h := h.1 c33
      exact z_weak (by simp [lle]) h
    rw [sw_n c33]; replace h := h.2
    by_cases c34 : nm (iAnd ((g_xs w (nm x3).toNat).toInt) 63) = 30
    · rw [sw_c c34]
      replace h := h.1 c34
      exact z_weak (by simp [lle]) h
    rw [sw_n c34]; replace h := h.2
    by_cases c35 : nm (iAnd ((g_xs w (nm x3).toNat).toInt) 63) = 31
    · rw [sw_c c35]
      replace h := h.1 c35
      exact z_weak (by simp [lle]) h
    rw [sw_n c35]; replace h := h.2
    by_cases c36 : nm (iAnd ((g_xs w (nm x3).toNat).toInt) 63) = 32
    · rw [sw_c c36]
      replace h := h.1 c36
      exact z_weak (by simp [lle]) h
    rw [sw_n c36]; replace h := h.2
    by_cases c37 : nm (iAnd ((g_xs w (nm x3).toNat).toInt) 63) = 33
    · rw [sw_c c37]
      replace h := h.1 c37
      exact z_weak (by simp [lle]) h
    rw [sw_n c37]; replace h := h.2
    replace h := h c4 c5 c6 c7 c8 c9 c10 c11 c12 c13 c14 c15 c16 c17 c18 c19 c20 c21 c22 c23 c24 c25 c26 c27 c28 c29 c30 c31 c32 c33 c34 c35 c36 c37
    rw [sw_e]
    exact z_weak (by simp [lle]) h
set_option maxRecDepth 4000 in
theorem s_L_law_184 {w : GX} {d : Nat} {P : PN} {g : GI} (x3 : Int)
    (h : (0 ≤ nm (x3 + 1) ∧ nm (x3 + 1) < (g_L w : Int) ∧ (0 ≤ nm (x3 + 2) ∧ nm (x3 + 2) < (g_L w : Int) ∧ Zm w (d + 16) mX10_type 0 [some (aR (some (0))), some (aI ((g_xs w (nm (x3 + 1)).toNat).toInt)), some (aI ((g_xs w (nm (x3 + 2)).toNat).toInt))] [] g (fun r g5 => ∃ z6 : Int, r = some (aI z6) ∧ (0 ≤ nm (x3 + 1) ∧ nm (x3 + 1) < (g_L w : Int) ∧ (0 ≤ nm (x3 + 2) ∧ nm (x3 + 2) < (g_L w : Int) ∧ Zm w (d + 16) mX11_type 0 [some (aR (some (228))), some (aI ((g_xs w (nm (x3 + 1)).toNat).toInt)), some (aI ((g_xs w (nm (x3 + 2)).toNat).toInt))] [] g5 (fun r g11 => ∃ z12 : Int, r = some (aI z12) ∧ ((nm z6 = nm z12 → Zm w (d + 17) mL_law 1258 [some (aR (some (SC))), some (aR (some (0))), some (aR (some (228))), some (aI (x3))] [] g11 P) ∧ (¬ nm z6 = nm z12 → P (some (aI (0))) g11))))))))) :
    Zm w (d + 17) mL_law 184 [some (aR (some (SC))), some (aR (some (0))), some (aR (some (228))), some (aI (x3))] [] g P := by
  refine z_aload_n dL_law_184 rfl rfl ?_
  refine z_aload_n dL_law_185 rfl rfl ?_
  refine z_iload_n dL_law_186 rfl rfl ?_
  refine z_iconst dL_law_187 ?_
  refine z_iadd dL_law_188 ?_
  obtain ⟨q1, q2, h⟩ := h
  refine z_sld dL_law_189 q1 q2 ?_
  refine z_aload_n dL_law_190 rfl rfl ?_
  refine z_iload_n dL_law_191 rfl rfl ?_
  refine z_iconst dL_law_192 ?_
  refine z_iadd dL_law_193 ?_
  obtain ⟨q3, q4, h⟩ := h
  refine z_sld dL_law_194 q3 q4 ?_
  refine m_callV (as := [aI ((g_xs w (nm (x3 + 1)).toNat).toInt), aI ((g_xs w (nm (x3 + 2)).toNat).toInt)]) dL_law_195 lk_L_13 mok_X10_type in_X10_type sl_X10_type kt_0 rfl rfl rfl (Nat.le_of_ble_eq_true rfl) rfl (Nat.le_of_ble_eq_true rfl) rfl (m_mono (fun r g5 hr => ?_) h)
  obtain ⟨z6, rfl, h⟩ := hr
  show Zm w (d + 17) mL_law 198 [some (aR (some (SC))), some (aR (some (0))), some (aR (some (228))), some (aI (x3))] [aI (z6)] g5 P
  refine z_aload_n dL_law_198 rfl rfl ?_
  refine z_aload_n dL_law_199 rfl rfl ?_
  refine z_iload_n dL_law_200 rfl rfl ?_
  refine z_iconst dL_law_201 ?_
  refine z_iadd dL_law_202 ?_
  obtain ⟨q7, q8, h⟩ := h
  refine z_sld dL_law_203 q7 q8 ?_
  refine z_aload_n dL_law_204 rfl rfl ?_
  refine z_iload_n dL_law_205 rfl rfl ?_
  refine z_iconst dL_law_206 ?_
  refine z_iadd dL_law_207 ?_
  obtain ⟨q9, q10, h⟩ := h
  refine z_sld dL_law_208 q9 q10 ?_
  refine m_callV (as := [aI ((g_xs w (nm (x3 + 1)).toNat).toInt), aI ((g_xs w (nm (x3 + 2)).toNat).toInt)]) dL_law_209 lk_L_17 mok_X11_type in_X11_type sl_X11_type kt_228 rfl rfl rfl (Nat.le_of_ble_eq_true rfl) rfl (Nat.le_of_ble_eq_true rfl) rfl (m_mono (fun r g11 hr => ?_) h)
  obtain ⟨z12, rfl, h⟩ := hr
  show Zm w (d + 17) mL_law 212 [some (aR (some (SC))), some (aR (some (0))), some (aR (some (228))), some (aI (x3))] [aI (z12), aI (z6)] g11 P
  refine z_icmp_eq (tgt := 1258) dL_law_212 (by decide) (fun c13 => ?_) (fun c13 => ?_)
  · replace h := h.1 c13
    exact z_weak (by simp [lle]) h
  · replace h := h.2 c13
    refine z_iconst dL_law_215 ?_
    exact m_zret dL_law_216 rfl (by decide) h
set_option maxRecDepth 4000 in
theorem s_L_law_217 {w : GX} {d : Nat} {P : PN} {g : GI} (x3 : Int)
    (h : (0 ≤ nm (x3 + 1) ∧ nm (x3 + 1) < (g_L w : Int) ∧ Zm w (d + 16) mX10_wipe 0 [some (aR (some (0))), some (aI ((g_xs w (nm (x3 + 1)).toNat).toInt)), none] [] g (fun r g3 => ∃ z4 : Int, r = some (aI z4) ∧ (0 ≤ nm (x3 + 1) ∧ nm (x3 + 1) < (g_L w : Int) ∧ Zm w (d + 16) mX11_wipe 0 [some (aR (some (228))), some (aI ((g_xs w (nm (x3 + 1)).toNat).toInt)), none] [] g3 (fun r g7 => ∃ z8 : Int, r = some (aI z8) ∧ ((nm z4 = nm z8 → Zm w (d + 17) mL_law 1258 [some (aR (some (SC))), some (aR (some (0))), some (aR (some (228))), some (aI (x3))] [] g7 P) ∧ (¬ nm z4 = nm z8 → P (some (aI (0))) g7))))))) :
    Zm w (d + 17) mL_law 217 [some (aR (some (SC))), some (aR (some (0))), some (aR (some (228))), some (aI (x3))] [] g P := by
  refine z_aload_n dL_law_217 rfl rfl ?_
  refine z_aload_n dL_law_218 rfl rfl ?_
  refine z_iload_n dL_law_219 rfl rfl ?_
  refine z_iconst dL_law_220 ?_
  refine z_iadd dL_law_221 ?_
  obtain ⟨q1, q2, h⟩ := h
  refine z_sld dL_law_222 q1 q2 ?_
  refine m_callV (as := [aI ((g_xs w (nm (x3 + 1)).toNat).toInt)]) dL_law_223 lk_L_18 mok_X10_wipe in_X10_wipe sl_X10_wipe kt_0 rfl rfl rfl (Nat.le_of_ble_eq_true rfl) rfl (Nat.le_of_ble_eq_true rfl) rfl (m_mono (fun r g3 hr => ?_) h)
  obtain ⟨z4, rfl, h⟩ := hr
  show Zm w (d + 17) mL_law 226 [some (aR (some (SC))), some (aR (some (0))), some (aR (some (228))), some (aI (x3))] [aI (z4)] g3 P
  refine z_aload_n dL_law_226 rfl rfl ?_
  refine z_aload_n dL_law_227 rfl rfl ?_
  refine z_iload_n dL_law_228 rfl rfl ?_
  refine z_iconst dL_law_229 ?_
  refine z_iadd dL_law_230 ?_
  obtain ⟨q5, q6, h⟩ := h
  refine z_sld dL_law_231 q5 q6 ?_
  refine m_callV (as := [aI ((g_xs w (nm (x3 + 1)).toNat).toInt)]) dL_law_232 lk_L_22 mok_X11_wipe in_X11_wipe sl_X11_wipe kt_228 rfl rfl rfl (Nat.le_of_ble_eq_true rfl) rfl (Nat.le_of_ble_eq_true rfl) rfl (m_mono (fun r g7 hr => ?_) h)
  obtain ⟨z8, rfl, h⟩ := hr
  show Zm w (d + 17) mL_law 235 [some (aR (some (SC))), some (aR (some (0))), some (aR (some (228))), some (aI (x3))] [aI (z8), aI (z4)] g7 P
  refine z_icmp_eq (tgt := 1258) dL_law_235 (by decide) (fun c9 => ?_) (fun c9 => ?_)
  · replace h := h.1 c9
    exact z_weak (by simp [lle]) h
  · replace h := h.2 c9
    refine z_iconst dL_law_238 ?_
    exact m_zret dL_law_239 rfl (by decide) h
set_option maxRecDepth 4000 in
theorem s_L_law_240 {w : GX} {d : Nat} {P : PN} {g : GI} (x3 : Int)
    (h : (0 ≤ nm (x3 + 1) ∧ nm (x3 + 1) < (g_L w : Int) ∧ Zm w (d + 16) mX10_undo 0 [some (aR (some (0))), some (aI ((g_xs w (nm (x3 + 1)).toNat).toInt))] [] g (fun r g3 => ∃ z4 : Int, r = some (aI z4) ∧ (0 ≤ nm (x3 + 1) ∧ nm (x3 + 1) < (g_L w : Int) ∧ Zm w (d + 16) mX11_undo 0 [some (aR (some (228))), some (aI ((g_xs w (nm (x3 + 1)).toNat).toInt))] [] g3 (fun r g7 => ∃ z8 : Int, r = some (aI z8) ∧ ((nm z4 = nm z8 → Zm w (d + 17) mL_law 1258 [some (aR (some (SC))), some (aR (some (0))), some (aR (some (228))), some (aI (x3))] [] g7 P) ∧ (¬ nm z4 = nm z8 → P (some (aI (0))) g7))))))) :
    Zm w (d + 17) mL_law 240 [some (aR (some (SC))), some (aR (some (0))), some (aR (some (228))), some (aI (x3))] [] g P := by
  refine z_aload_n dL_law_240 rfl rfl ?_
  refine z_aload_n dL_law_241 rfl rfl ?_
  refine z_iload_n dL_law_242 rfl rfl ?_
  refine z_iconst dL_law_243 ?_
  refine z_iadd dL_law_244 ?_
  obtain ⟨q1, q2, h⟩ := h
  refine z_sld dL_law_245 q1 q2 ?_
  refine m_callV (as := [aI ((g_xs w (nm (x3 + 1)).toNat).toInt)]) dL_law_246 lk_L_23 mok_X10_undo in_X10_undo sl_X10_undo kt_0 rfl rfl rfl (Nat.le_of_ble_eq_true rfl) rfl (Nat.le_of_ble_eq_true rfl) rfl (m_mono (fun r g3 hr => ?_) h)
  obtain ⟨z4, rfl, h⟩ := hr
  show Zm w (d + 17) mL_law 249 [some (aR (some (SC))), some (aR (some (0))), some (aR (some (228))), some (aI (x3))] [aI (z4)] g3 P
  refine z_aload_n dL_law_249 rfl rfl ?_
  refine z_aload_n dL_law_250 rfl rfl ?_
  refine z_iload_n dL_law_251 rfl rfl ?_
  refine z_iconst dL_law_252 ?_
  refine z_iadd dL_law_253 ?_
  obtain ⟨q5, q6, h⟩ := h
  refine z_sld dL_law_254 q5 q6 ?_
  refine m_callV (as := [aI ((g_xs w (nm (x3 + 1)).toNat).toInt)]) dL_law_255 lk_L_26 mok_X11_undo in_X11_undo sl_X11_undo kt_228 rfl rfl rfl (Nat.le_of_ble_eq_true rfl) rfl (Nat.le_of_ble_eq_true rfl) rfl (m_mono (fun r g7 hr => ?_) h)
  obtain ⟨z8, rfl, h⟩ := hr
  show Zm w (d + 17) mL_law 258 [some (aR (some (SC))), some (aR (some (0))), some (aR (some (228))), some (aI (x3))] [aI (z8), aI (z4)] g7 P
  refine z_icmp_eq (tgt := 1258) dL_law_258 (by decide) (fun c9 => ?_) (fun c9 => ?_)
  · replace h := h.1 c9
    exact z_weak (by simp [lle]) h
  · replace h := h.2 c9
    refine z_iconst dL_law_261 ?_
    exact m_zret dL_law_262 rfl (by decide) h
set_option maxRecDepth 4000 in
theorem s_L_law_263 {w : GX} {d : Nat} {P : PN} {g : GI} (x3 : Int)
    (h : (0 ≤ nm (x3 + 1) ∧ nm (x3 + 1) < (g_L w : Int) ∧ Zm w (d + 16) mX10_fault 0 [some (aR (some (0))), some (aI ((g_xs w (nm (x3 + 1)).toNat).toInt))] [] g (fun r g3 => ∃ z4 : Int, r = some (aI z4) ∧ (0 ≤ nm (x3 + 1) ∧ nm (x3 + 1) < (g_L w : Int) ∧ Zm w (d + 16) mX11_fault 0 [some (aR (some (228))), some (aI ((g_xs w (nm (x3 + 1)).toNat).toInt))] [] g3 (fun r g7 => ∃ z8 : Int, r = some (aI z8) ∧ ((nm z4 = nm z8 → Zm w (d + 17) mL_law 1258 [some (aR (some (SC))), some (aR (some (0))), some (aR (some (228))), some (aI (x3))] [] g7 P) ∧ (¬ nm z4 = nm z8 → P (some (aI (0))) g7))))))) :
    Zm w (d + 17) mL_law 263 [some (aR (some (SC))), some (aR (some (0))), some (aR (some (228))), some (aI (x3))] [] g P := by
  refine z_aload_n dL_law_263 rfl rfl ?_
  refine z_aload_n dL_law_264 rfl rfl ?_
  refine z_iload_n dL_law_265 rfl rfl ?_
  refine z_iconst dL_law_266 ?_
  refine z_iadd dL_law_267 ?_
  obtain ⟨q1, q2, h⟩ := h
  refine z_sld dL_law_268 q1 q2 ?_
  refine m_callV (as := [aI ((g_xs w (nm (x3 + 1)).toNat).toInt)]) dL_law_269 lk_L_27 mok_X10_fault in_X10_fault sl_X10_fault kt_0 rfl rfl rfl (Nat.le_of_ble_eq_true rfl) rfl (Nat.le_of_ble_eq_true rfl) rfl (m_mono (fun r g3 hr => ?_) h)
  obtain ⟨z4, rfl, h⟩ := hr
  show Zm w (d + 17) mL_law 272 [some (aR (some (SC))), some (aR (some (0))), some (aR (some (228))), some (aI (x3))] [aI (z4)] g3 P
  refine z_aload_n dL_law_272 rfl rfl ?_
  refine z_aload_n dL_law_273 rfl rfl ?_
  refine z_iload_n dL_law_274 rfl rfl ?_
  refine z_iconst dL_law_275 ?_
  refine z_iadd dL_law_276 ?_
  obtain ⟨q5, q6, h⟩ := h
  refine z_sld dL_law_277 q5 q6 ?_
  refine m_callV (as := [aI ((g_xs w (nm (x3 + 1)).toNat).toInt)]) dL_law_278 lk_L_30 mok_X11_fault in_X11_fault sl_X11_fault kt_228 rfl rfl rfl (Nat.le_of_ble_eq_true rfl) rfl (Nat.le_of_ble_eq_true rfl) rfl (m_mono (fun r g7 hr => ?_) h)
  obtain ⟨z8, rfl, h⟩ := hr
  show Zm w (d + 17) mL_law 281 [some (aR (some (SC))), some (aR (some (0))), some (aR (some (228))), some (aI (x3))] [aI (z8), aI (z4)] g7 P
  refine z_icmp_eq (tgt := 1258) dL_law_281 (by decide) (fun c9 => ?_) (fun c9 => ?_)
  · replace h := h.1 c9
    exact z_weak (by simp [lle]) h
  · replace h := h.2 c9
    refine z_iconst dL_law_284 ?_
    exact m_zret dL_law_285 rfl (by decide) h
set_option maxRecDepth 4000 in
theorem s_L_law_286 {w : GX} {d : Nat} {P : PN} {g : GI} (x3 : Int)
    (h : (0 ≤ nm (x3 + 1) ∧ nm (x3 + 1) < (g_L w : Int) ∧ Zm w (d + 16) mX10_cell 0 [some (aR (some (0))), some (aI ((g_xs w (nm (x3 + 1)).toNat).toInt))] [] g (fun r g3 => ∃ z4 : Int, r = some (aI z4) ∧ (0 ≤ nm (x3 + 1) ∧ nm (x3 + 1) < (g_L w : Int) ∧ Zm w (d + 16) mX11_cell 0 [some (aR (some (228))), some (aI ((g_xs w (nm (x3 + 1)).toNat).toInt))] [] g3 (fun r g7 => ∃ z8 : Int, r = some (aI z8) ∧ ((nm z4 = nm z8 → Zm w (d + 17) mL_law 1258 [some (aR (some (SC))), some (aR (some (0))), some (aR (some (228))), some (aI (x3))] [] g7 P) ∧ (¬ nm z4 = nm z8 → P (some (aI (0))) g7))))))) :
    Zm w (d + 17) mL_law 286 [some (aR (some (SC))), some (aR (some (0))), some (aR (some (228))), some (aI (x3))] [] g P := by
  refine z_aload_n dL_law_286 rfl rfl ?_
  refine z_aload_n dL_law_287 rfl rfl ?_
  refine z_iload_n dL_law_288 rfl rfl ?_
  refine z_iconst dL_law_289 ?_
  refine z_iadd dL_law_290 ?_
  obtain ⟨q1, q2, h⟩ := h
  refine z_sld dL_law_291 q1 q2 ?_
  refine m_callV (as := [aI ((g_xs w (nm (x3 + 1)).toNat).toInt)]) dL_law_292 lk_L_31 mok_X10_cell in_X10_cell sl_X10_cell kt_0 rfl rfl rfl (Nat.le_of_ble_eq_true rfl) rfl (Nat.le_of_ble_eq_true rfl) rfl (m_mono (fun r g3 hr => ?_) h)
  obtain ⟨z4, rfl, h⟩ := hr
  show Zm w (d + 17) mL_law 295 [some (aR (some (SC))), some (aR (some (0))), some (aR (some (228))), some (aI (x3))] [aI (z4)] g3 P
  refine z_aload_n dL_law_295 rfl rfl ?_
  refine z_aload_n dL_law_296 rfl rfl ?_
  refine z_iload_n dL_law_297 rfl rfl ?_
  refine z_iconst dL_law_298 ?_
  refine z_iadd dL_law_299 ?_
  obtain ⟨q5, q6, h⟩ := h
  refine z_sld dL_law_300 q5 q6 ?_
  refine m_callV (as := [aI ((g_xs w (nm (x3 + 1)).toNat).toInt)]) dL_law_301 lk_L_34 mok_X11_cell in_X11_cell sl_X11_cell kt_228 rfl rfl rfl (Nat.le_of_ble_eq_true rfl) rfl (Nat.le_of_ble_eq_true rfl) rfl (m_mono (fun r g7 hr => ?_) h)
  obtain ⟨z8, rfl, h⟩ := hr
  show Zm w (d + 17) mL_law 304 [some (aR (some (SC))), some (aR (some (0))), some (aR (some (228))), some (aI (x3))] [aI (z8), aI (z4)] g7 P
  refine z_icmp_eq (tgt := 1258) dL_law_304 (by decide) (fun c9 => ?_) (fun c9 => ?_)
  · replace h := h.1 c9
    exact z_weak (by simp [lle]) h
  · replace h := h.2 c9
    refine z_iconst dL_law_307 ?_
    exact m_zret dL_law_308 rfl (by decide) h
set_option maxRecDepth 4000 in
theorem s_L_law_309 {w : GX} {d : Nat} {P : PN} {g : GI} (x3 : Int)
    (h : (0 ≤ nm (x3 + 1) ∧ nm (x3 + 1) < (g_L w : Int) ∧ (0 ≤ nm (x3 + 2) ∧ nm (x3 + 2) < (g_L w : Int) ∧ Zm w (d + 16) mX10_person 0 [some (aR (some (0))), some (aI ((g_xs w (nm (x3 + 1)).toNat).toInt)), some (aI ((g_xs w (nm (x3 + 2)).toNat).toInt)), none] [] g (fun r g5 => ∃ z6 : Int, r = some (aI z6) ∧ (0 ≤ nm (x3 + 1) ∧ nm (x3 + 1) < (g_L w : Int) ∧ (0 ≤ nm (x3 + 2) ∧ nm (x3 + 2) < (g_L w : Int) ∧ Zm w (d + 16) mX11_person 0 [some (aR (some (228))), some (aI ((g_xs w (nm (x3 + 1)).toNat).toInt)), some (aI ((g_xs w (nm (x3 + 2)).toNat).toInt))] [] g5 (fun r g11 => ∃ z12 : Int, r = some (aI z12) ∧ ((nm z6 = nm z12 → Zm w (d + 17) mL_law 1258 [some (aR (some (SC))), some (aR (some (0))), some (aR (some (228))), some (aI (x3))] [] g11 P) ∧ (¬ nm z6 = nm z12 → P (some (aI (0))) g11))))))))) :
    Zm w (d + 17) mL_law 309 [some (aR (some (SC))), some (aR (some (0))), some (aR (some (228))), some (aI (x3))] [] g P := by
  refine z_aload_n dL_law_309 rfl rfl ?_
  refine z_aload_n dL_law_310 rfl rfl ?_
  refine z_iload_n dL_law_311 rfl rfl ?_
  refine z_iconst dL_law_312 ?_
  refine z_iadd dL_law_313 ?_
  obtain ⟨q1, q2, h⟩ := h
  refine z_sld dL_law_314 q1 q2 ?_
  refine z_aload_n dL_law_315 rfl rfl ?_
  refine z_iload_n dL_law_316 rfl rfl ?_
  refine z_iconst dL_law_317 ?_
  refine z_iadd dL_law_318 ?_
  obtain ⟨q3, q4, h⟩ := h
  refine z_sld dL_law_319 q3 q4 ?_
  refine m_callV (as := [aI ((g_xs w (nm (x3 + 1)).toNat).toInt), aI ((g_xs w (nm (x3 + 2)).toNat).toInt)]) dL_law_320 lk_L_35 mok_X10_person in_X10_person sl_X10_person kt_0 rfl rfl rfl (Nat.le_of_ble_eq_true rfl) rfl (Nat.le_of_ble_eq_true rfl) rfl (m_mono (fun r g5 hr => ?_) h)
  obtain ⟨z6, rfl, h⟩ := hr
  show Zm w (d + 17) mL_law 323 [some (aR (some (SC))), some (aR (some (0))), some (aR (some (228))), some (aI (x3))] [aI (z6)] g5 P
  refine z_aload_n dL_law_323 rfl rfl ?_
  refine z_aload_n dL_law_324 rfl rfl ?_
  refine z_iload_n dL_law_325 rfl rfl ?_
  refine z_iconst dL_law_326 ?_
  refine z_iadd dL_law_327 ?_
  obtain ⟨q7, q8, h⟩ := h
  refine z_sld dL_law_328 q7 q8 ?_
  refine z_aload_n dL_law_329 rfl rfl ?_
  refine z_iload_n dL_law_330 rfl rfl ?_
  refine z_iconst dL_law_331 ?_
  refine z_iadd dL_law_332 ?_
  obtain ⟨q9, q10, h⟩ := h
  refine z_sld dL_law_333 q9 q10 ?_
  refine m_callV (as := [aI ((g_xs w (nm (x3 + 1)).toNat).toInt), aI ((g_xs w (nm (x3 + 2)).toNat).toInt)]) dL_law_334 lk_L_38 mok_X11_person in_X11_person sl_X11_person kt_228 rfl rfl rfl (Nat.le_of_ble_eq_true rfl) rfl (Nat.le_of_ble_eq_true rfl) rfl (m_mono (fun r g11 hr => ?_) h)
  obtain ⟨z12, rfl, h⟩ := hr
  show Zm w (d + 17) mL_law 337 [some (aR (some (SC))), some (aR (some (0))), some (aR (some (228))), some (aI (x3))] [aI (z12), aI (z6)] g11 P
  refine z_icmp_eq (tgt := 1258) dL_law_337 (by decide) (fun c13 => ?_) (fun c13 => ?_)
  · replace h := h.1 c13
    exact z_weak (by simp [lle]) h
  · replace h := h.2 c13
    refine z_iconst dL_law_340 ?_
    exact m_zret dL_law_341 rfl (by decide) h
set_option maxRecDepth 4000 in
theorem s_L_law_342 {w : GX} {d : Nat} {P : PN} {g : GI} (x3 : Int)
    (h : (0 ≤ nm (x3 + 1) ∧ nm (x3 + 1) < (g_L w : Int) ∧ Zm w (d + 16) mX10_wear 0 [some (aR (some (0))), some (aI ((g_xs w (nm (x3 + 1)).toNat).toInt)), none] [] g (fun r g3 => ∃ z4 : Int, r = some (aI z4) ∧ (0 ≤ nm (x3 + 1) ∧ nm (x3 + 1) < (g_L w : Int) ∧ Zm w (d + 16) mX11_wear 0 [some (aR (some (228))), some (aI ((g_xs w (nm (x3 + 1)).toNat).toInt)), none] [] g3 (fun r g7 => ∃ z8 : Int, r = some (aI z8) ∧ ((nm z4 = nm z8 → Zm w (d + 17) mL_law 1258 [some (aR (some (SC))), some (aR (some (0))), some (aR (some (228))), some (aI (x3))] [] g7 P) ∧ (¬ nm z4 = nm z8 → P (some (aI (0))) g7))))))) :
    Zm w (d + 17) mL_law 342 [some (aR (some (SC))), some (aR (some (0))), some (aR (some (228))), some (aI (x3))] [] g P := by
  refine z_aload_n dL_law_342 rfl rfl ?_
  refine z_aload_n dL_law_343 rfl rfl ?_
  refine z_iload_n dL_law_344 rfl rfl ?_
  refine z_iconst dL_law_345 ?_
  refine z_iadd dL_law_346 ?_
  obtain ⟨q1, q2, h⟩ := h
  refine z_sld dL_law_347 q1 q2 ?_
  refine m_callV (as := [aI ((g_xs w (nm (x3 + 1)).toNat).toInt)]) dL_law_348 lk_L_39 mok_X10_wear in_X10_wear sl_X10_wear kt_0 rfl rfl rfl (Nat.le_of_ble_eq_true rfl) rfl (Nat.le_of_ble_eq_true rfl) rfl (m_mono (fun r g3 hr => ?_) h)
  obtain ⟨z4, rfl, h⟩ := hr
  show Zm w (d + 17) mL_law 351 [some (aR (some (SC))), some (aR (some (0))), some (aR (some (228))), some (aI (x3))] [aI (z4)] g3 P
  refine z_aload_n dL_law_351 rfl rfl ?_
  refine z_aload_n dL_law_352 rfl rfl ?_
  refine z_iload_n dL_law_353 rfl rfl ?_
  refine z_iconst dL_law_354 ?_
  refine z_iadd dL_law_355 ?_
  obtain ⟨q5, q6, h⟩ := h
  refine z_sld dL_law_356 q5 q6 ?_
  refine m_callV (as := [aI ((g_xs w (nm (x3 + 1)).toNat).toInt)]) dL_law_357 lk_L_42 mok_X11_wear in_X11_wear sl_X11_wear kt_228 rfl rfl rfl (Nat.le_of_ble_eq_true rfl) rfl (Nat.le_of_ble_eq_true rfl) rfl (m_mono (fun r g7 hr => ?_) h)
  obtain ⟨z8, rfl, h⟩ := hr
  show Zm w (d + 17) mL_law 360 [some (aR (some (SC))), some (aR (some (0))), some (aR (some (228))), some (aI (x3))] [aI (z8), aI (z4)] g7 P
  refine z_icmp_eq (tgt := 1258) dL_law_360 (by decide) (fun c9 => ?_) (fun c9 => ?_)
  · replace h := h.1 c9
    exact z_weak (by simp [lle]) h
  · replace h := h.2 c9
    refine z_iconst dL_law_363 ?_
    exact m_zret dL_law_364 rfl (by decide) h
set_option maxRecDepth 4000 in
theorem s_L_law_365 {w : GX} {d : Nat} {P : PN} {g : GI} (x3 : Int)
    (h : (0 ≤ nm (x3 + 1) ∧ nm (x3 + 1) < (g_L w : Int) ∧ (0 ≤ nm (x3 + 2) ∧ nm (x3 + 2) < (g_L w : Int) ∧ Zm w (d + 16) mX10_cross 0 [some (aR (some (0))), some (aI ((g_xs w (nm (x3 + 1)).toNat).toInt)), some (aI ((g_xs w (nm (x3 + 2)).toNat).toInt))] [] g (fun r g5 => ∃ z6 : Int, r = some (aI z6) ∧ (0 ≤ nm (x3 + 1) ∧ nm (x3 + 1) < (g_L w : Int) ∧ (0 ≤ nm (x3 + 2) ∧ nm (x3 + 2) < (g_L w : Int) ∧ Zm w (d + 16) mX11_cross 0 [some (aR (some (228))), some (aI ((g_xs w (nm (x3 + 1)).toNat).toInt)), some (aI ((g_xs w (nm (x3 + 2)).toNat).toInt))] [] g5 (fun r g11 => ∃ z12 : Int, r = some (aI z12) ∧ ((nm z6 = nm z12 → Zm w (d + 17) mL_law 1258 [some (aR (some (SC))), some (aR (some (0))), some (aR (some (228))), some (aI (x3))] [] g11 P) ∧ (¬ nm z6 = nm z12 → P (some (aI (0))) g11))))))))) :
    Zm w (d + 17) mL_law 365 [some (aR (some (SC))), some (aR (some (0))), some (aR (some (228))), some (aI (x3))] [] g P := by
  refine z_aload_n dL_law_365 rfl rfl ?_
  refine z_aload_n dL_law_366 rfl rfl ?_
  refine z_iload_n dL_law_367 rfl rfl ?_
  refine z_iconst dL_law_368 ?_
  refine z_iadd dL_law_369 ?_
  obtain ⟨q1, q2, h⟩ := h
  refine z_sld dL_law_370 q1 q2 ?_
  refine z_aload_n dL_law_371 rfl rfl ?_
  refine z_iload_n dL_law_372 rfl rfl ?_
  refine z_iconst dL_law_373 ?_
  refine z_iadd dL_law_374 ?_
  obtain ⟨q3, q4, h⟩ := h
  refine z_sld dL_law_375 q3 q4 ?_
  refine m_callV (as := [aI ((g_xs w (nm (x3 + 1)).toNat).toInt), aI ((g_xs w (nm (x3 + 2)).toNat).toInt)]) dL_law_376 lk_L_43 mok_X10_cross in_X10_cross sl_X10_cross kt_0 rfl rfl rfl (Nat.le_of_ble_eq_true rfl) rfl (Nat.le_of_ble_eq_true rfl) rfl (m_mono (fun r g5 hr => ?_) h)
  obtain ⟨z6, rfl, h⟩ := hr
  show Zm w (d + 17) mL_law 379 [some (aR (some (SC))), some (aR (some (0))), some (aR (some (228))), some (aI (x3))] [aI (z6)] g5 P
  refine z_aload_n dL_law_379 rfl rfl ?_
  refine z_aload_n dL_law_380 rfl rfl ?_
  refine z_iload_n dL_law_381 rfl rfl ?_
  refine z_iconst dL_law_382 ?_
  refine z_iadd dL_law_383 ?_
  obtain ⟨q7, q8, h⟩ := h
  refine z_sld dL_law_384 q7 q8 ?_
  refine z_aload_n dL_law_385 rfl rfl ?_
  refine z_iload_n dL_law_386 rfl rfl ?_
  refine z_iconst dL_law_387 ?_
  refine z_iadd dL_law_388 ?_
  obtain ⟨q9, q10, h⟩ := h
  refine z_sld dL_law_389 q9 q10 ?_
  refine m_callV (as := [aI ((g_xs w (nm (x3 + 1)).toNat).toInt), aI ((g_xs w (nm (x3 + 2)).toNat).toInt)]) dL_law_390 lk_L_46 mok_X11_cross in_X11_cross sl_X11_cross kt_228 rfl rfl rfl (Nat.le_of_ble_eq_true rfl) rfl (Nat.le_of_ble_eq_true rfl) rfl (m_mono (fun r g11 hr => ?_) h)
  obtain ⟨z12, rfl, h⟩ := hr
  show Zm w (d + 17) mL_law 393 [some (aR (some (SC))), some (aR (some (0))), some (aR (some (228))), some (aI (x3))] [aI (z12), aI (z6)] g11 P
  refine z_icmp_eq (tgt := 1258) dL_law_393 (by decide) (fun c13 => ?_) (fun c13 => ?_)
  · replace h := h.1 c13
    exact z_weak (by simp [lle]) h
  · replace h := h.2 c13
    refine z_iconst dL_law_396 ?_
    exact m_zret dL_law_397 rfl (by decide) h
set_option maxRecDepth 4000 in
theorem s_L_law_398 {w : GX} {d : Nat} {P : PN} {g : GI} (x3 : Int)
    (h : (0 ≤ nm (x3 + 1) ∧ nm (x3 + 1) < (g_L w : Int) ∧ (0 ≤ nm (x3 + 2) ∧ nm (x3 + 2) < (g_L w : Int) ∧ Zm w (d + 16) mX10_angle 0 [some (aR (some (0))), some (aI ((g_xs w (nm (x3 + 1)).toNat).toInt)), some (aI ((g_xs w (nm (x3 + 2)).toNat).toInt))] [] g (fun r g5 => ∃ z6 : Int, r = some (aI z6) ∧ (0 ≤ nm (x3 + 1) ∧ nm (x3 + 1) < (g_L w : Int) ∧ (0 ≤ nm (x3 + 2) ∧ nm (x3 + 2) < (g_L w : Int) ∧ Zm w (d + 16) mX11_angle 0 [some (aR (some (228))), some (aI ((g_xs w (nm (x3 + 1)).toNat).toInt)), some (aI ((g_xs w (nm (x3 + 2)).toNat).toInt))] [] g5 (fun r g11 => ∃ z12 : Int, r = some (aI z12) ∧ ((nm z6 = nm z12 → Zm w (d + 17) mL_law 1258 [some (aR (some (SC))), some (aR (some (0))), some (aR (some (228))), some (aI (x3))] [] g11 P) ∧ (¬ nm z6 = nm z12 → P (some (aI (0))) g11))))))))) :
    Zm w (d + 17) mL_law 398 [some (aR (some (SC))), some (aR (some (0))), some (aR (some (228))), some (aI (x3))] [] g P := by
  refine z_aload_n dL_law_398 rfl rfl ?_
  refine z_aload_n dL_law_399 rfl rfl ?_
  refine z_iload_n dL_law_400 rfl rfl ?_
  refine z_iconst dL_law_401 ?_
  refine z_iadd dL_law_402 ?_
  obtain ⟨q1, q2, h⟩ := h
  refine z_sld dL_law_403 q1 q2 ?_
  refine z_aload_n dL_law_404 rfl rfl ?_
  refine z_iload_n dL_law_405 rfl rfl ?_
  refine z_iconst dL_law_406 ?_
  refine z_iadd dL_law_407 ?_
  obtain ⟨q3, q4, h⟩ := h
  refine z_sld dL_law_408 q3 q4 ?_
  refine m_callV (as := [aI ((g_xs w (nm (x3 + 1)).toNat).toInt), aI ((g_xs w (nm (x3 + 2)).toNat).toInt)]) dL_law_409 lk_L_47 mok_X10_angle in_X10_angle sl_X10_angle kt_0 rfl rfl rfl (Nat.le_of_ble_eq_true rfl) rfl (Nat.le_of_ble_eq_true rfl) rfl (m_mono (fun r g5 hr => ?_) h)
  obtain ⟨z6, rfl, h⟩ := hr
  show Zm w (d + 17) mL_law 412 [some (aR (some (SC))), some (aR (some (0))), some (aR (some (228))), some (aI (x3))] [aI (z6)] g5 P
  refine z_aload_n dL_law_412 rfl rfl ?_
  refine z_aload_n dL_law_413 rfl rfl ?_
  refine z_iload_n dL_law_414 rfl rfl ?_
  refine z_iconst dL_law_415 ?_
  refine z_iadd dL_law_416 ?_
  obtain ⟨q7, q8, h⟩ := h
  refine z_sld dL_law_417 q7 q8 ?_
  refine z_aload_n dL_law_418 rfl rfl ?_
  refine z_iload_n dL_law_419 rfl rfl ?_
  refine z_iconst dL_law_420 ?_
  refine z_iadd dL_law_421 ?_
  obtain ⟨q9, q10, h⟩ := h
  refine z_sld dL_law_422 q9 q10 ?_
  refine m_callV (as := [aI ((g_xs w (nm (x3 + 1)).toNat).toInt), aI ((g_xs w (nm (x3 + 2)).toNat).toInt)]) dL_law_423 lk_L_50 mok_X11_angle in_X11_angle sl_X11_angle kt_228 rfl rfl rfl (Nat.le_of_ble_eq_true rfl) rfl (Nat.le_of_ble_eq_true rfl) rfl (m_mono (fun r g11 hr => ?_) h)
  obtain ⟨z12, rfl, h⟩ := hr
  show Zm w (d + 17) mL_law 426 [some (aR (some (SC))), some (aR (some (0))), some (aR (some (228))), some (aI (x3))] [aI (z12), aI (z6)] g11 P
  refine z_icmp_eq (tgt := 1258) dL_law_426 (by decide) (fun c13 => ?_) (fun c13 => ?_)
  · replace h := h.1 c13
    exact z_weak (by simp [lle]) h
  · replace h := h.2 c13
    refine z_iconst dL_law_429 ?_
    exact m_zret dL_law_430 rfl (by decide) h
set_option maxRecDepth 4000 in
theorem s_L_law_431 {w : GX} {d : Nat} {P : PN} {g : GI} (x3 : Int)
    (h : (0 ≤ nm (x3 + 1) ∧ nm (x3 + 1) < (g_L w : Int) ∧ Zm w (d + 16) mX10_flood 0 [some (aR (some (0))), some (aI ((g_xs w (nm (x3 + 1)).toNat).toInt))] [] g (fun r g3 => ∃ z4 : Int, r = some (aI z4) ∧ (0 ≤ nm (x3 + 1) ∧ nm (x3 + 1) < (g_L w : Int) ∧ Zm w (d + 16) mX11_flood 0 [some (aR (some (228))), some (aI ((g_xs w (nm (x3 + 1)).toNat).toInt))] [] g3 (fun r g7 => ∃ z8 : Int, r = some (aI z8) ∧ ((nm z4 = nm z8 → Zm w (d + 17) mL_law 1258 [some (aR (some (SC))), some (aR (some (0))), some (aR (some (228))), some (aI (x3))] [] g7 P) ∧ (¬ nm z4 = nm z8 → P (some (aI (0))) g7))))))) :
    Zm w (d + 17) mL_law 431 [some (aR (some (SC))), some (aR (some (0))), some (aR (some (228))), some (aI (x3))] [] g P := by
  refine z_aload_n dL_law_431 rfl rfl ?_
  refine z_aload_n dL_law_432 rfl rfl ?_
  refine z_iload_n dL_law_433 rfl rfl ?_
  refine z_iconst dL_law_434 ?_
  refine z_iadd dL_law_435 ?_
  obtain ⟨q1, q2, h⟩ := h
  refine z_sld dL_law_436 q1 q2 ?_
  refine m_callV (as := [aI ((g_xs w (nm (x3 + 1)).toNat).toInt)]) dL_law_437 lk_L_51 mok_X10_flood in_X10_flood sl_X10_flood kt_0 rfl rfl rfl (Nat.le_of_ble_eq_true rfl) rfl (Nat.le_of_ble_eq_true rfl) rfl (m_mono (fun r g3 hr => ?_) h)
  obtain ⟨z4, rfl, h⟩ := hr
  show Zm w (d + 17) mL_law 440 [some (aR (some (SC))), some (aR (some (0))), some (aR (some (228))), some (aI (x3))] [aI (z4)] g3 P
  refine z_aload_n dL_law_440 rfl rfl ?_
  refine z_aload_n dL_law_441 rfl rfl ?_
  refine z_iload_n dL_law_442 rfl rfl ?_
  refine z_iconst dL_law_443 ?_
  refine z_iadd dL_law_444 ?_
  obtain ⟨q5, q6, h⟩ := h
  refine z_sld dL_law_445 q5 q6 ?_
  refine m_callV (as := [aI ((g_xs w (nm (x3 + 1)).toNat).toInt)]) dL_law_446 lk_L_54 mok_X11_flood in_X11_flood sl_X11_flood kt_228 rfl rfl rfl (Nat.le_of_ble_eq_true rfl) rfl (Nat.le_of_ble_eq_true rfl) rfl (m_mono (fun r g7 hr => ?_) h)
  obtain ⟨z8, rfl, h⟩ := hr
  show Zm w (d + 17) mL_law 449 [some (aR (some (SC))), some (aR (some (0))), some (aR (some (228))), some (aI (x3))] [aI (z8), aI (z4)] g7 P
  refine z_icmp_eq (tgt := 1258) dL_law_449 (by decide) (fun c9 => ?_) (fun c9 => ?_)
  · replace h := h.1 c9
    exact z_weak (by simp [lle]) h
  · replace h := h.2 c9
    refine z_iconst dL_law_452 ?_
    exact m_zret dL_law_453 rfl (by decide) h
set_option maxRecDepth 4000 in
theorem s_L_law_454 {w : GX} {d : Nat} {P : PN} {g : GI} (x3 : Int)
    (h : (0 ≤ nm (x3 + 1) ∧ nm (x3 + 1) < (g_L w : Int) ∧ Zm w (d + 16) mX10_back 0 [some (aR (some (0))), some (aI ((g_xs w (nm (x3 + 1)).toNat).toInt))] [] g (fun r g3 => ∃ z4 : Int, r = some (aI z4) ∧ (0 ≤ nm (x3 + 1) ∧ nm (x3 + 1) < (g_L w : Int) ∧ Zm w (d + 16) mX11_back 0 [some (aR (some (228))), some (aI ((g_xs w (nm (x3 + 1)).toNat).toInt)), none] [] g3 (fun r g7 => ∃ z8 : Int, r = some (aI z8) ∧ ((nm z4 = nm z8 → Zm w (d + 17) mL_law 1258 [some (aR (some (SC))), some (aR (some (0))), some (aR (some (228))), some (aI (x3))] [] g7 P) ∧ (¬ nm z4 = nm z8 → P (some (aI (0))) g7))))))) :
    Zm w (d + 17) mL_law 454 [some (aR (some (SC))), some (aR (some (0))), some (aR (some (228))), some (aI (x3))] [] g P := by
  refine z_aload_n dL_law_454 rfl rfl ?_
  refine z_aload_n dL_law_455 rfl rfl ?_
  refine z_iload_n dL_law_456 rfl rfl ?_
  refine z_iconst dL_law_457 ?_
  refine z_iadd dL_law_458 ?_
  obtain ⟨q1, q2, h⟩ := h
  refine z_sld dL_law_459 q1 q2 ?_
  refine m_callV (as := [aI ((g_xs w (nm (x3 + 1)).toNat).toInt)]) dL_law_460 lk_L_55 mok_X10_back in_X10_back sl_X10_back kt_0 rfl rfl rfl (Nat.le_of_ble_eq_true rfl) rfl (Nat.le_of_ble_eq_true rfl) rfl (m_mono (fun r g3 hr => ?_) h)
  obtain ⟨z4, rfl, h⟩ := hr
  show Zm w (d + 17) mL_law 463 [some (aR (some (SC))), some (aR (some (0))), some (aR (some (228))), some (aI (x3))] [aI (z4)] g3 P
  refine z_aload_n dL_law_463 rfl rfl ?_
  refine z_aload_n dL_law_464 rfl rfl ?_
  refine z_iload_n dL_law_465 rfl rfl ?_
  refine z_iconst dL_law_466 ?_
  refine z_iadd dL_law_467 ?_
  obtain ⟨q5, q6, h⟩ := h
  refine z_sld dL_law_468 q5 q6 ?_
  refine m_callV (as := [aI ((g_xs w (nm (x3 + 1)).toNat).toInt)]) dL_law_469 lk_L_58 mok_X11_back in_X11_back sl_X11_back kt_228 rfl rfl rfl (Nat.le_of_ble_eq_true rfl) rfl (Nat.le_of_ble_eq_true rfl) rfl (m_mono (fun r g7 hr => ?_) h)
  obtain ⟨z8, rfl, h⟩ := hr
  show Zm w (d + 17) mL_law 472 [some (aR (some (SC))), some (aR (some (0))), some (aR (some (228))), some (aI (x3))] [aI (z8), aI (z4)] g7 P
  refine z_icmp_eq (tgt := 1258) dL_law_472 (by decide) (fun c9 => ?_) (fun c9 => ?_)
  · replace h := h.1 c9
    exact z_weak (by simp [lle]) h
  · replace h := h.2 c9
    refine z_iconst dL_law_475 ?_
    exact m_zret dL_law_476 rfl (by decide) h
set_option maxRecDepth 4000 in
theorem s_L_law_477 {w : GX} {d : Nat} {P : PN} {g : GI} (x3 : Int)
    (h : (0 ≤ nm (x3 + 1) ∧ nm (x3 + 1) < (g_L w : Int) ∧ Zm w (d + 16) mX10_read 0 [some (aR (some (0))), some (aI ((g_xs w (nm (x3 + 1)).toNat).toInt)), none, none, none] [] g (fun r g3 => ∃ z4 : Int, r = some (aI z4) ∧ (0 ≤ nm (x3 + 1) ∧ nm (x3 + 1) < (g_L w : Int) ∧ Zm w (d + 16) mX11_read 0 [some (aR (some (228))), some (aI ((g_xs w (nm (x3 + 1)).toNat).toInt)), none, none] [] g3 (fun r g7 => ∃ z8 : Int, r = some (aI z8) ∧ ((nm z4 = nm z8 → Zm w (d + 17) mL_law 1258 [some (aR (some (SC))), some (aR (some (0))), some (aR (some (228))), some (aI (x3))] [] g7 P) ∧ (¬ nm z4 = nm z8 → P (some (aI (0))) g7))))))) :
    Zm w (d + 17) mL_law 477 [some (aR (some (SC))), some (aR (some (0))), some (aR (some (228))), some (aI (x3))] [] g P := by
  refine z_aload_n dL_law_477 rfl rfl ?_
  refine z_aload_n dL_law_478 rfl rfl ?_
  refine z_iload_n dL_law_479 rfl rfl ?_
  refine z_iconst dL_law_480 ?_
  refine z_iadd dL_law_481 ?_
  obtain ⟨q1, q2, h⟩ := h
  refine z_sld dL_law_482 q1 q2 ?_
  refine m_callV (as := [aI ((g_xs w (nm (x3 + 1)).toNat).toInt)]) dL_law_483 lk_L_59 mok_X10_read in_X10_read sl_X10_read kt_0 rfl rfl rfl (Nat.le_of_ble_eq_true rfl) rfl (Nat.le_of_ble_eq_true rfl) rfl (m_mono (fun r g3 hr => ?_) h)
  obtain ⟨z4, rfl, h⟩ := hr
  show Zm w (d + 17) mL_law 486 [some (aR (some (SC))), some (aR (some (0))), some (aR (some (228))), some (aI (x3))] [aI (z4)] g3 P
  refine z_aload_n dL_law_486 rfl rfl ?_
  refine z_aload_n dL_law_487 rfl rfl ?_
  refine z_iload_n dL_law_488 rfl rfl ?_
  refine z_iconst dL_law_489 ?_
  refine z_iadd dL_law_490 ?_
  obtain ⟨q5, q6, h⟩ := h
  refine z_sld dL_law_491 q5 q6 ?_
  refine m_callV (as := [aI ((g_xs w (nm (x3 + 1)).toNat).toInt)]) dL_law_492 lk_L_62 mok_X11_read in_X11_read sl_X11_read kt_228 rfl rfl rfl (Nat.le_of_ble_eq_true rfl) rfl (Nat.le_of_ble_eq_true rfl) rfl (m_mono (fun r g7 hr => ?_) h)
  obtain ⟨z8, rfl, h⟩ := hr
  show Zm w (d + 17) mL_law 495 [some (aR (some (SC))), some (aR (some (0))), some (aR (some (228))), some (aI (x3))] [aI (z8), aI (z4)] g7 P
  refine z_icmp_eq (tgt := 1258) dL_law_495 (by decide) (fun c9 => ?_) (fun c9 => ?_)
  · replace h := h.1 c9
    exact z_weak (by simp [lle]) h
  · replace h := h.2 c9
    refine z_iconst dL_law_498 ?_
    exact m_zret dL_law_499 rfl (by decide) h
set_option maxRecDepth 4000 in
theorem s_L_law_500 {w : GX} {d : Nat} {P : PN} {g : GI} (x3 : Int)
    (h : (0 ≤ nm (x3 + 1) ∧ nm (x3 + 1) < (g_L w : Int) ∧ (0 ≤ nm (x3 + 2) ∧ nm (x3 + 2) < (g_L w : Int) ∧ (0 ≤ nm (x3 + 3) ∧ nm (x3 + 3) < (g_L w : Int) ∧ Zm w (d + 16) mX10_called 0 [some (aR (some (0))), some (aI ((g_xs w (nm (x3 + 1)).toNat).toInt)), some (aI ((g_xs w (nm (x3 + 2)).toNat).toInt)), some (aI ((g_xs w (nm (x3 + 3)).toNat).toInt)), none] [] g (fun r g7 => ∃ z8 : Int, r = some (aI z8) ∧ (0 ≤ nm (x3 + 1) ∧ nm (x3 + 1) < (g_L w : Int) ∧ (0 ≤ nm (x3 + 2) ∧ nm (x3 + 2) < (g_L w : Int) ∧ (0 ≤ nm (x3 + 3) ∧ nm (x3 + 3) < (g_L w : Int) ∧ Zm w (d + 16) mX11_called 0 [some (aR (some (228))), some (aI ((g_xs w (nm (x3 + 1)).toNat).toInt)), some (aI ((g_xs w (nm (x3 + 2)).toNat).toInt)), some (aI ((g_xs w (nm (x3 + 3)).toNat).toInt))] [] g7 (fun r g15 => ∃ z16 : Int, r = some (aI z16) ∧ ((nm z8 = nm z16 → Zm w (d + 17) mL_law 1258 [some (aR (some (SC))), some (aR (some (0))), some (aR (some (228))), some (aI (x3))] [] g15 P) ∧ (¬ nm z8 = nm z16 → P (some (aI (0))) g15))))))))))) :
    Zm w (d + 17) mL_law 500 [some (aR (some (SC))), some (aR (some (0))), some (aR (some (228))), some (aI (x3))] [] g P := by
  refine z_aload_n dL_law_500 rfl rfl ?_
  refine z_aload_n dL_law_501 rfl rfl ?_
  refine z_iload_n dL_law_502 rfl rfl ?_
  refine z_iconst dL_law_503 ?_
  refine z_iadd dL_law_504 ?_
  obtain ⟨q1, q2, h⟩ := h
  refine z_sld dL_law_505 q1 q2 ?_
  refine z_aload_n dL_law_506 rfl rfl ?_
  refine z_iload_n dL_law_507 rfl rfl ?_
  refine z_iconst dL_law_508 ?_
  refine z_iadd dL_law_509 ?_
  obtain ⟨q3, q4, h⟩ := h
  refine z_sld dL_law_510 q3 q4 ?_
  refine z_aload_n dL_law_511 rfl rfl ?_
  refine z_iload_n dL_law_512 rfl rfl ?_
  refine z_iconst dL_law_513 ?_
  refine z_iadd dL_law_514 ?_
  obtain ⟨q5, q6, h⟩ := h
  refine z_sld dL_law_515 q5 q6 ?_
  refine m_callV (as := [aI ((g_xs w (nm (x3 + 1)).toNat).toInt), aI ((g_xs w (nm (x3 + 2)).toNat).toInt), aI ((g_xs w (nm (x3 + 3)).toNat).toInt)]) dL_law_516 lk_L_63 mok_X10_called in_X10_called sl_X10_called kt_0 rfl rfl rfl (Nat.le_of_ble_eq_true rfl) rfl (Nat.le_of_ble_eq_true rfl) rfl (m_mono (fun r g7 hr => ?_) h)
  obtain ⟨z8, rfl, h⟩ := hr
  show Zm w (d + 17) mL_law 519 [some (aR (some (SC))), some (aR (some (0))), some (aR (some (228))), some (aI (x3))] [aI (z8)] g7 P
  refine z_aload_n dL_law_519 rfl rfl ?_
  refine z_aload_n dL_law_520 rfl rfl ?_
  refine z_iload_n dL_law_521 rfl rfl ?_
  refine z_iconst dL_law_522 ?_
  refine z_iadd dL_law_523 ?_
  obtain ⟨q9, q10, h⟩ := h
  refine z_sld dL_law_524 q9 q10 ?_
  refine z_aload_n dL_law_525 rfl rfl ?_
  refine z_iload_n dL_law_526 rfl rfl ?_
  refine z_iconst dL_law_527 ?_
  refine z_iadd dL_law_528 ?_
  obtain ⟨q11, q12, h⟩ := h
  refine z_sld dL_law_529 q11 q12 ?_
  refine z_aload_n dL_law_530 rfl rfl ?_
  refine z_iload_n dL_law_531 rfl rfl ?_
  refine z_iconst dL_law_532 ?_
  refine z_iadd dL_law_533 ?_
  obtain ⟨q13, q14, h⟩ := h
  refine z_sld dL_law_534 q13 q14 ?_
  refine m_callV (as := [aI ((g_xs w (nm (x3 + 1)).toNat).toInt), aI ((g_xs w (nm (x3 + 2)).toNat).toInt), aI ((g_xs w (nm (x3 + 3)).toNat).toInt)]) dL_law_535 lk_L_67 mok_X11_called in_X11_called sl_X11_called kt_228 rfl rfl rfl (Nat.le_of_ble_eq_true rfl) rfl (Nat.le_of_ble_eq_true rfl) rfl (m_mono (fun r g15 hr => ?_) h)
  obtain ⟨z16, rfl, h⟩ := hr
  show Zm w (d + 17) mL_law 538 [some (aR (some (SC))), some (aR (some (0))), some (aR (some (228))), some (aI (x3))] [aI (z16), aI (z8)] g15 P
  refine z_icmp_eq (tgt := 1258) dL_law_538 (by decide) (fun c17 => ?_) (fun c17 => ?_)
  · replace h := h.1 c17
    exact z_weak (by simp [lle]) h
  · replace h := h.2 c17
    refine z_iconst dL_law_541 ?_
    exact m_zret dL_law_542 rfl (by decide) h
set_option maxRecDepth 4000 in
theorem s_L_law_543 {w : GX} {d : Nat} {P : PN} {g : GI} (x3 : Int)
    (h : (0 ≤ nm (x3 + 1) ∧ nm (x3 + 1) < (g_L w : Int) ∧ (0 ≤ nm (x3 + 2) ∧ nm (x3 + 2) < (g_L w : Int) ∧ (0 ≤ nm (x3 + 3) ∧ nm (x3 + 3) < (g_L w : Int) ∧ Zm w (d + 16) mX10_name 0 [some (aR (some (0))), some (aI ((g_xs w (nm (x3 + 1)).toNat).toInt)), some (aI ((g_xs w (nm (x3 + 2)).toNat).toInt)), some (aI ((g_xs w (nm (x3 + 3)).toNat).toInt)), none] [] g (fun r g7 => ∃ z8 : Int, r = some (aI z8) ∧ (0 ≤ nm (x3 + 1) ∧ nm (x3 + 1) < (g_L w : Int) ∧ (0 ≤ nm (x3 + 2) ∧ nm (x3 + 2) < (g_L w : Int) ∧ (0 ≤ nm (x3 + 3) ∧ nm (x3 + 3) < (g_L w : Int) ∧ Zm w (d + 16) mX11_name 0 [some (aR (some (228))), some (aI ((g_xs w (nm (x3 + 1)).toNat).toInt)), some (aI ((g_xs w (nm (x3 + 2)).toNat).toInt)), some (aI ((g_xs w (nm (x3 + 3)).toNat).toInt))] [] g7 (fun r g15 => ∃ z16 : Int, r = some (aI z16) ∧ ((nm z8 = nm z16 → Zm w (d + 17) mL_law 1258 [some (aR (some (SC))), some (aR (some (0))), some (aR (some (228))), some (aI (x3))] [] g15 P) ∧ (¬ nm z8 = nm z16 → P (some (aI (0))) g15))))))))))) :
    Zm w (d + 17) mL_law 543 [some (aR (some (SC))), some (aR (some (0))), some (aR (some (228))), some (aI (x3))] [] g P := by
  refine z_aload_n dL_law_543 rfl rfl ?_
  refine z_aload_n dL_law_544 rfl rfl ?_
  refine z_iload_n dL_law_545 rfl rfl ?_
  refine z_iconst dL_law_546 ?_
  refine z_iadd dL_law_547 ?_
  obtain ⟨q1, q2, h⟩ := h
  refine z_sld dL_law_548 q1 q2 ?_
  refine z_aload_n dL_law_549 rfl rfl ?_
  refine z_iload_n dL_law_550 rfl rfl ?_
  refine z_iconst dL_law_551 ?_
  refine z_iadd dL_law_552 ?_
  obtain ⟨q3, q4, h⟩ := h
  refine z_sld dL_law_553 q3 q4 ?_
  refine z_aload_n dL_law_554 rfl rfl ?_
  refine z_iload_n dL_law_555 rfl rfl ?_
  refine z_iconst dL_law_556 ?_
  refine z_iadd dL_law_557 ?_
  obtain ⟨q5, q6, h⟩ := h
  refine z_sld dL_law_558 q5 q6 ?_
  refine m_callV (as := [aI ((g_xs w (nm (x3 + 1)).toNat).toInt), aI ((g_xs w (nm (x3 + 2)).toNat).toInt), aI ((g_xs w (nm (x3 + 3)).toNat).toInt)]) dL_law_559 lk_L_68 mok_X10_name in_X10_name sl_X10_name kt_0 rfl rfl rfl (Nat.le_of_ble_eq_true rfl) rfl (Nat.le_of_ble_eq_true rfl) rfl (m_mono (fun r g7 hr => ?_) h)
  obtain ⟨z8, rfl, h⟩ := hr
  show Zm w (d + 17) mL_law 562 [some (aR (some (SC))), some (aR (some (0))), some (aR (some (228))), some (aI (x3))] [aI (z8)] g7 P
  refine z_aload_n dL_law_562 rfl rfl ?_
  refine z_aload_n dL_law_563 rfl rfl ?_
  refine z_iload_n dL_law_564 rfl rfl ?_
  refine z_iconst dL_law_565 ?_
  refine z_iadd dL_law_566 ?_
  obtain ⟨q9, q10, h⟩ := h
  refine z_sld dL_law_567 q9 q10 ?_
  refine z_aload_n dL_law_568 rfl rfl ?_
  refine z_iload_n dL_law_569 rfl rfl ?_
  refine z_iconst dL_law_570 ?_
  refine z_iadd dL_law_571 ?_
  obtain ⟨q11, q12, h⟩ := h
  refine z_sld dL_law_572 q11 q12 ?_
  refine z_aload_n dL_law_573 rfl rfl ?_
  refine z_iload_n dL_law_574 rfl rfl ?_
  refine z_iconst dL_law_575 ?_
  refine z_iadd dL_law_576 ?_
  obtain ⟨q13, q14, h⟩ := h
  refine z_sld dL_law_577 q13 q14 ?_
  refine m_callV (as := [aI ((g_xs w (nm (x3 + 1)).toNat).toInt), aI ((g_xs w (nm (x3 + 2)).toNat).toInt), aI ((g_xs w (nm (x3 + 3)).toNat).toInt)]) dL_law_578 lk_L_71 mok_X11_name in_X11_name sl_X11_name kt_228 rfl rfl rfl (Nat.le_of_ble_eq_true rfl) rfl (Nat.le_of_ble_eq_true rfl) rfl (m_mono (fun r g15 hr => ?_) h)
  obtain ⟨z16, rfl, h⟩ := hr
  show Zm w (d + 17) mL_law 581 [some (aR (some (SC))), some (aR (some (0))), some (aR (some (228))), some (aI (x3))] [aI (z16), aI (z8)] g15 P
  refine z_icmp_eq (tgt := 1258) dL_law_581 (by decide) (fun c17 => ?_) (fun c17 => ?_)
  · replace h := h.1 c17
    exact z_weak (by simp [lle]) h
  · replace h := h.2 c17
    refine z_iconst dL_law_584 ?_
    exact m_zret dL_law_585 rfl (by decide) h
set_option maxRecDepth 4000 in
theorem s_L_law_586 {w : GX} {d : Nat} {P : PN} {g : GI} (x3 : Int)
    (h : (0 ≤ nm (x3 + 1) ∧ nm (x3 + 1) < (g_L w : Int) ∧ Zm w (d + 16) mX10_same 0 [some (aR (some (0))), some (aI ((g_xs w (nm (x3 + 1)).toNat).toInt)), none, none] [] g (fun r g3 => ∃ z4 : Int, r = some (aI z4) ∧ (0 ≤ nm (x3 + 1) ∧ nm (x3 + 1) < (g_L w : Int) ∧ Zm w (d + 16) mX11_same 0 [some (aR (some (228))), some (aI ((g_xs w (nm (x3 + 1)).toNat).toInt))] [] g3 (fun r g7 => ∃ z8 : Int, r = some (aI z8) ∧ ((nm z4 = nm z8 → Zm w (d + 17) mL_law 1258 [some (aR (some (SC))), some (aR (some (0))), some (aR (some (228))), some (aI (x3))] [] g7 P) ∧ (¬ nm z4 = nm z8 → P (some (aI (0))) g7))))))) :
    Zm w (d + 17) mL_law 586 [some (aR (some (SC))), some (aR (some (0))), some (aR (some (228))), some (aI (x3))] [] g P := by
  refine z_aload_n dL_law_586 rfl rfl ?_
  refine z_aload_n dL_law_587 rfl rfl ?_
  refine z_iload_n dL_law_588 rfl rfl ?_
  refine z_iconst dL_law_589 ?_
  refine z_iadd dL_law_590 ?_
  obtain ⟨q1, q2, h⟩ := h
  refine z_sld dL_law_591 q1 q2 ?_
  refine m_callV (as := [aI ((g_xs w (nm (x3 + 1)).toNat).toInt)]) dL_law_592 lk_L_72 mok_X10_same in_X10_same sl_X10_same kt_0 rfl rfl rfl (Nat.le_of_ble_eq_true rfl) rfl (Nat.le_of_ble_eq_true rfl) rfl (m_mono (fun r g3 hr => ?_) h)
  obtain ⟨z4, rfl, h⟩ := hr
  show Zm w (d + 17) mL_law 595 [some (aR (some (SC))), some (aR (some (0))), some (aR (some (228))), some (aI (x3))] [aI (z4)] g3 P
  refine z_aload_n dL_law_595 rfl rfl ?_
  refine z_aload_n dL_law_596 rfl rfl ?_
  refine z_iload_n dL_law_597 rfl rfl ?_
  refine z_iconst dL_law_598 ?_
  refine z_iadd dL_law_599 ?_
  obtain ⟨q5, q6, h⟩ := h
  refine z_sld dL_law_600 q5 q6 ?_
  refine m_callV (as := [aI ((g_xs w (nm (x3 + 1)).toNat).toInt)]) dL_law_601 lk_L_75 mok_X11_same in_X11_same sl_X11_same kt_228 rfl rfl rfl (Nat.le_of_ble_eq_true rfl) rfl (Nat.le_of_ble_eq_true rfl) rfl (m_mono (fun r g7 hr => ?_) h)
  obtain ⟨z8, rfl, h⟩ := hr
  show Zm w (d + 17) mL_law 604 [some (aR (some (SC))), some (aR (some (0))), some (aR (some (228))), some (aI (x3))] [aI (z8), aI (z4)] g7 P
  refine z_icmp_eq (tgt := 1258) dL_law_604 (by decide) (fun c9 => ?_) (fun c9 => ?_)
  · replace h := h.1 c9
    exact z_weak (by simp [lle]) h
  · replace h := h.2 c9
    refine z_iconst dL_law_607 ?_
    exact m_zret dL_law_608 rfl (by decide) h
set_option maxRecDepth 4000 in
theorem s_L_law_609 {w : GX} {d : Nat} {P : PN} {g : GI} (x3 : Int)
    (h : (0 ≤ nm (x3 + 1) ∧ nm (x3 + 1) < (g_L w : Int) ∧ Zm w (d + 16) mX10_first 0 [some (aR (some (0))), some (aI ((g_xs w (nm (x3 + 1)).toNat).toInt)), none, none] [] g (fun r g3 => ∃ z4 : Int, r = some (aI z4) ∧ (0 ≤ nm (x3 + 1) ∧ nm (x3 + 1) < (g_L w : Int) ∧ Zm w (d + 16) mX11_first 0 [some (aR (some (228))), some (aI ((g_xs w (nm (x3 + 1)).toNat).toInt))] [] g3 (fun r g7 => ∃ z8 : Int, r = some (aI z8) ∧ ((nm z4 = nm z8 → Zm w (d + 17) mL_law 1258 [some (aR (some (SC))), some (aR (some (0))), some (aR (some (228))), some (aI (x3))] [] g7 P) ∧ (¬ nm z4 = nm z8 → P (some (aI (0))) g7))))))) :
    Zm w (d + 17) mL_law 609 [some (aR (some (SC))), some (aR (some (0))), some (aR (some (228))), some (aI (x3))] [] g P := by
  refine z_aload_n dL_law_609 rfl rfl ?_
  refine z_aload_n dL_law_610 rfl rfl ?_
  refine z_iload_n dL_law_611 rfl rfl ?_
  refine z_iconst dL_law_612 ?_
  refine z_iadd dL_law_613 ?_
  obtain ⟨q1, q2, h⟩ := h
  refine z_sld dL_law_614 q1 q2 ?_
  refine m_callV (as := [aI ((g_xs w (nm (x3 + 1)).toNat).toInt)]) dL_law_615 lk_L_76 mok_X10_first in_X10_first sl_X10_first kt_0 rfl rfl rfl (Nat.le_of_ble_eq_true rfl) rfl (Nat.le_of_ble_eq_true rfl) rfl (m_mono (fun r g3 hr => ?_) h)
  obtain ⟨z4, rfl, h⟩ := hr
  show Zm w (d + 17) mL_law 618 [some (aR (some (SC))), some (aR (some (0))), some (aR (some (228))), some (aI (x3))] [aI (z4)] g3 P
  refine z_aload_n dL_law_618 rfl rfl ?_
  refine z_aload_n dL_law_619 rfl rfl ?_
  refine z_iload_n dL_law_620 rfl rfl ?_
  refine z_iconst dL_law_621 ?_
  refine z_iadd dL_law_622 ?_
  obtain ⟨q5, q6, h⟩ := h
  refine z_sld dL_law_623 q5 q6 ?_
  refine m_callV (as := [aI ((g_xs w (nm (x3 + 1)).toNat).toInt)]) dL_law_624 lk_L_79 mok_X11_first in_X11_first sl_X11_first kt_228 rfl rfl rfl (Nat.le_of_ble_eq_true rfl) rfl (Nat.le_of_ble_eq_true rfl) rfl (m_mono (fun r g7 hr => ?_) h)
  obtain ⟨z8, rfl, h⟩ := hr
  show Zm w (d + 17) mL_law 627 [some (aR (some (SC))), some (aR (some (0))), some (aR (some (228))), some (aI (x3))] [aI (z8), aI (z4)] g7 P
  refine z_icmp_eq (tgt := 1258) dL_law_627 (by decide) (fun c9 => ?_) (fun c9 => ?_)
  · replace h := h.1 c9
    exact z_weak (by simp [lle]) h
  · replace h := h.2 c9
    refine z_iconst dL_law_630 ?_
    exact m_zret dL_law_631 rfl (by decide) h
set_option maxRecDepth 4000 in
theorem s_L_law_632 {w : GX} {d : Nat} {P : PN} {g : GI} (x3 : Int)
    (h : (0 ≤ nm (x3 + 1) ∧ nm (x3 + 1) < (g_L w : Int) ∧ Zm w (d + 16) mX10_changes 0 [some (aR (some (0))), some (aI ((g_xs w (nm (x3 + 1)).toNat).toInt))] [] g (fun r g3 => ∃ z4 : Int, r = some (aI z4) ∧ (0 ≤ nm (x3 + 1) ∧ nm (x3 + 1) < (g_L w : Int) ∧ Zm w (d + 16) mX11_changes 0 [some (aR (some (228))), some (aI ((g_xs w (nm (x3 + 1)).toNat).toInt))] [] g3 (fun r g7 => ∃ z8 : Int, r = some (aI z8) ∧ ((nm z4 = nm z8 → Zm w (d + 17) mL_law 1258 [some (aR (some (SC))), some (aR (some (0))), some (aR (some (228))), some (aI (x3))] [] g7 P) ∧ (¬ nm z4 = nm z8 → P (some (aI (0))) g7))))))) :
    Zm w (d + 17) mL_law 632 [some (aR (some (SC))), some (aR (some (0))), some (aR (some (228))), some (aI (x3))] [] g P := by
  refine z_aload_n dL_law_632 rfl rfl ?_
  refine z_aload_n dL_law_633 rfl rfl ?_
  refine z_iload_n dL_law_634 rfl rfl ?_
  refine z_iconst dL_law_635 ?_
  refine z_iadd dL_law_636 ?_
  obtain ⟨q1, q2, h⟩ := h
  refine z_sld dL_law_637 q1 q2 ?_
  refine m_callV (as := [aI ((g_xs w (nm (x3 + 1)).toNat).toInt)]) dL_law_638 lk_L_80 mok_X10_changes in_X10_changes sl_X10_changes kt_0 rfl rfl rfl (Nat.le_of_ble_eq_true rfl) rfl (Nat.le_of_ble_eq_true rfl) rfl (m_mono (fun r g3 hr => ?_) h)
  obtain ⟨z4, rfl, h⟩ := hr
  show Zm w (d + 17) mL_law 641 [some (aR (some (SC))), some (aR (some (0))), some (aR (some (228))), some (aI (x3))] [aI (z4)] g3 P
  refine z_aload_n dL_law_641 rfl rfl ?_
  refine z_aload_n dL_law_642 rfl rfl ?_
  refine z_iload_n dL_law_643 rfl rfl ?_
  refine z_iconst dL_law_644 ?_
  refine z_iadd dL_law_645 ?_
  obtain ⟨q5, q6, h⟩ := h
  refine z_sld dL_law_646 q5 q6 ?_
  refine m_callV (as := [aI ((g_xs w (nm (x3 + 1)).toNat).toInt)]) dL_law_647 lk_L_83 mok_X11_changes in_X11_changes sl_X11_changes kt_228 rfl rfl rfl (Nat.le_of_ble_eq_true rfl) rfl (Nat.le_of_ble_eq_true rfl) rfl (m_mono (fun r g7 hr => ?_) h)
  obtain ⟨z8, rfl, h⟩ := hr
  show Zm w (d + 17) mL_law 650 [some (aR (some (SC))), some (aR (some (0))), some (aR (some (228))), some (aI (x3))] [aI (z8), aI (z4)] g7 P
  refine z_icmp_eq (tgt := 1258) dL_law_650 (by decide) (fun c9 => ?_) (fun c9 => ?_)
  · replace h := h.1 c9
    exact z_weak (by simp [lle]) h
  · replace h := h.2 c9
    refine z_iconst dL_law_653 ?_
    exact m_zret dL_law_654 rfl (by decide) h
set_option maxRecDepth 4000 in
theorem s_L_law_655 {w : GX} {d : Nat} {P : PN} {g : GI} (x3 : Int)
    (h : (0 ≤ nm (x3 + 1) ∧ nm (x3 + 1) < (g_L w : Int) ∧ (0 ≤ nm (x3 + 2) ∧ nm (x3 + 2) < (g_L w : Int) ∧ (0 ≤ nm (x3 + 3) ∧ nm (x3 + 3) < (g_L w : Int) ∧ (0 ≤ nm (x3 + 4) ∧ nm (x3 + 4) < (g_L w : Int) ∧ Zm w (d + 16) mX10_returns 0 [some (aR (some (0))), some (aI ((g_xs w (nm (x3 + 1)).toNat).toInt)), some (aI ((g_xs w (nm (x3 + 2)).toNat).toInt)), some (aI ((g_xs w (nm (x3 + 3)).toNat).toInt)), some (aI ((g_xs w (nm (x3 + 4)).toNat).toInt))] [] g (fun r g9 => ∃ z10 : Int, r = some (aI z10) ∧ (0 ≤ nm (x3 + 1) ∧ nm (x3 + 1) < (g_L w : Int) ∧ (0 ≤ nm (x3 + 2) ∧ nm (x3 + 2) < (g_L w : Int) ∧ (0 ≤ nm (x3 + 3) ∧ nm (x3 + 3) < (g_L w : Int) ∧ (0 ≤ nm (x3 + 4) ∧ nm (x3 + 4) < (g_L w : Int) ∧ Zm w (d + 16) mX11_returns 0 [some (aR (some (228))), some (aI ((g_xs w (nm (x3 + 1)).toNat).toInt)), some (aI ((g_xs w (nm (x3 + 2)).toNat).toInt)), some (aI ((g_xs w (nm (x3 + 3)).toNat).toInt)), some (aI ((g_xs w (nm (x3 + 4)).toNat).toInt))] [] g9 (fun r g19 => ∃ z20 : Int, r = some (aI z20) ∧ ((nm z10 = nm z20 → Zm w (d + 17) mL_law 1258 [some (aR (some (SC))), some (aR (some (0))), some (aR (some (228))), some (aI (x3))] [] g19 P) ∧ (¬ nm z10 = nm z20 → P (some (aI (0))) g19))))))))))))) :
    Zm w (d + 17) mL_law 655 [some (aR (some (SC))), some (aR (some (0))), some (aR (some (228))), some (aI (x3))] [] g P := by
  refine z_aload_n dL_law_655 rfl rfl ?_
  refine z_aload_n dL_law_656 rfl rfl ?_
  refine z_iload_n dL_law_657 rfl rfl ?_
  refine z_iconst dL_law_658 ?_
  refine z_iadd dL_law_659 ?_
  obtain ⟨q1, q2, h⟩ := h
  refine z_sld dL_law_660 q1 q2 ?_
  refine z_aload_n dL_law_661 rfl rfl ?_
  refine z_iload_n dL_law_662 rfl rfl ?_
  refine z_iconst dL_law_663 ?_
  refine z_iadd dL_law_664 ?_
  obtain ⟨q3, q4, h⟩ := h
  refine z_sld dL_law_665 q3 q4 ?_
  refine z_aload_n dL_law_666 rfl rfl ?_
  refine z_iload_n dL_law_667 rfl rfl ?_
  refine z_iconst dL_law_668 ?_
  refine z_iadd dL_law_669 ?_
  obtain ⟨q5, q6, h⟩ := h
  refine z_sld dL_law_670 q5 q6 ?_
  refine z_aload_n dL_law_671 rfl rfl ?_
  refine z_iload_n dL_law_672 rfl rfl ?_
  refine z_iconst dL_law_673 ?_
  refine z_iadd dL_law_674 ?_
  obtain ⟨q7, q8, h⟩ := h
  refine z_sld dL_law_675 q7 q8 ?_
  refine m_callV (as := [aI ((g_xs w (nm (x3 + 1)).toNat).toInt), aI ((g_xs w (nm (x3 + 2)).toNat).toInt), aI ((g_xs w (nm (x3 + 3)).toNat).toInt), aI ((g_xs w (nm (x3 + 4)).toNat).toInt)]) dL_law_676 lk_L_84 mok_X10_returns in_X10_returns sl_X10_returns kt_0 rfl rfl rfl (Nat.le_of_ble_eq_true rfl) rfl (Nat.le_of_ble_eq_true rfl) rfl (m_mono (fun r g9 hr => ?_) h)
  obtain ⟨z10, rfl, h⟩ := hr
  show Zm w (d + 17) mL_law 679 [some (aR (some (SC))), some (aR (some (0))), some (aR (some (228))), some (aI (x3))] [aI (z10)] g9 P
  refine z_aload_n dL_law_679 rfl rfl ?_
  refine z_aload_n dL_law_680 rfl rfl ?_
  refine z_iload_n dL_law_681 rfl rfl ?_
  refine z_iconst dL_law_682 ?_
  refine z_iadd dL_law_683 ?_
  obtain ⟨q11, q12, h⟩ := h
  refine z_sld dL_law_684 q11 q12 ?_
  refine z_aload_n dL_law_685 rfl rfl ?_
  refine z_iload_n dL_law_686 rfl rfl ?_
  refine z_iconst dL_law_687 ?_
  refine z_iadd dL_law_688 ?_
  obtain ⟨q13, q14, h⟩ := h
  refine z_sld dL_law_689 q13 q14 ?_
  refine z_aload_n dL_law_690 rfl rfl ?_
  refine z_iload_n dL_law_691 rfl rfl ?_
  refine z_iconst dL_law_692 ?_
  refine z_iadd dL_law_693 ?_
  obtain ⟨q15, q16, h⟩ := h
  refine z_sld dL_law_694 q15 q16 ?_
  refine z_aload_n dL_law_695 rfl rfl ?_
  refine z_iload_n dL_law_696 rfl rfl ?_
  refine z_iconst dL_law_697 ?_
  refine z_iadd dL_law_698 ?_
  obtain ⟨q17, q18, h⟩ := h
  refine z_sld dL_law_699 q17 q18 ?_
  refine m_callV (as := [aI ((g_xs w (nm (x3 + 1)).toNat).toInt), aI ((g_xs w (nm (x3 + 2)).toNat).toInt), aI ((g_xs w (nm (x3 + 3)).toNat).toInt), aI ((g_xs w (nm (x3 + 4)).toNat).toInt)]) dL_law_700 lk_L_88 mok_X11_returns in_X11_returns sl_X11_returns kt_228 rfl rfl rfl (Nat.le_of_ble_eq_true rfl) rfl (Nat.le_of_ble_eq_true rfl) rfl (m_mono (fun r g19 hr => ?_) h)
  obtain ⟨z20, rfl, h⟩ := hr
  show Zm w (d + 17) mL_law 703 [some (aR (some (SC))), some (aR (some (0))), some (aR (some (228))), some (aI (x3))] [aI (z20), aI (z10)] g19 P
  refine z_icmp_eq (tgt := 1258) dL_law_703 (by decide) (fun c21 => ?_) (fun c21 => ?_)
  · replace h := h.1 c21
    exact z_weak (by simp [lle]) h
  · replace h := h.2 c21
    refine z_iconst dL_law_706 ?_
    exact m_zret dL_law_707 rfl (by decide) h
set_option maxRecDepth 4000 in
theorem s_L_law_708 {w : GX} {d : Nat} {P : PN} {g : GI} (x3 : Int)
    (h : (0 ≤ nm (x3 + 1) ∧ nm (x3 + 1) < (g_L w : Int) ∧ (0 ≤ nm (x3 + 2) ∧ nm (x3 + 2) < (g_L w : Int) ∧ Zm w (d + 16) mX10_net 0 [some (aR (some (0))), some (aI ((g_xs w (nm (x3 + 1)).toNat).toInt)), some (aI ((g_xs w (nm (x3 + 2)).toNat).toInt))] [] g (fun r g5 => ∃ z6 : Int, r = some (aI z6) ∧ (0 ≤ nm (x3 + 1) ∧ nm (x3 + 1) < (g_L w : Int) ∧ (0 ≤ nm (x3 + 2) ∧ nm (x3 + 2) < (g_L w : Int) ∧ Zm w (d + 16) mX11_net 0 [some (aR (some (228))), some (aI ((g_xs w (nm (x3 + 1)).toNat).toInt)), some (aI ((g_xs w (nm (x3 + 2)).toNat).toInt))] [] g5 (fun r g11 => ∃ z12 : Int, r = some (aI z12) ∧ ((nm z6 = nm z12 → Zm w (d + 17) mL_law 1258 [some (aR (some (SC))), some (aR (some (0))), some (aR (some (228))), some (aI (x3))] [] g11 P) ∧ (¬ nm z6 = nm z12 → P (some (aI (0))) g11))))))))) :
    Zm w (d + 17) mL_law 708 [some (aR (some (SC))), some (aR (some (0))), some (aR (some (228))), some (aI (x3))] [] g P := by
  refine z_aload_n dL_law_708 rfl rfl ?_
  refine z_aload_n dL_law_709 rfl rfl ?_
  refine z_iload_n dL_law_710 rfl rfl ?_
  refine z_iconst dL_law_711 ?_
  refine z_iadd dL_law_712 ?_
  obtain ⟨q1, q2, h⟩ := h
  refine z_sld dL_law_713 q1 q2 ?_
  refine z_aload_n dL_law_714 rfl rfl ?_
  refine z_iload_n dL_law_715 rfl rfl ?_
  refine z_iconst dL_law_716 ?_
  refine z_iadd dL_law_717 ?_
  obtain ⟨q3, q4, h⟩ := h
  refine z_sld dL_law_718 q3 q4 ?_
  refine m_callV (as := [aI ((g_xs w (nm (x3 + 1)).toNat).toInt), aI ((g_xs w (nm (x3 + 2)).toNat).toInt)]) dL_law_719 lk_L_89 mok_X10_net in_X10_net sl_X10_net kt_0 rfl rfl rfl (Nat.le_of_ble_eq_true rfl) rfl (Nat.le_of_ble_eq_true rfl) rfl (m_mono (fun r g5 hr => ?_) h)
  obtain ⟨z6, rfl, h⟩ := hr
  show Zm w (d + 17) mL_law 722 [some (aR (some (SC))), some (aR (some (0))), some (aR (some (228))), some (aI (x3))] [aI (z6)] g5 P
  refine z_aload_n dL_law_722 rfl rfl ?_
  refine z_aload_n dL_law_723 rfl rfl ?_
  refine z_iload_n dL_law_724 rfl rfl ?_
  refine z_iconst dL_law_725 ?_
  refine z_iadd dL_law_726 ?_
  obtain ⟨q7, q8, h⟩ := h
  refine z_sld dL_law_727 q7 q8 ?_
  refine z_aload_n dL_law_728 rfl rfl ?_
  refine z_iload_n dL_law_729 rfl rfl ?_
  refine z_iconst dL_law_730 ?_
  refine z_iadd dL_law_731 ?_
  obtain ⟨q9, q10, h⟩ := h
  refine z_sld dL_law_732 q9 q10 ?_
  refine m_callV (as := [aI ((g_xs w (nm (x3 + 1)).toNat).toInt), aI ((g_xs w (nm (x3 + 2)).toNat).toInt)]) dL_law_733 lk_L_92 mok_X11_net in_X11_net sl_X11_net kt_228 rfl rfl rfl (Nat.le_of_ble_eq_true rfl) rfl (Nat.le_of_ble_eq_true rfl) rfl (m_mono (fun r g11 hr => ?_) h)
  obtain ⟨z12, rfl, h⟩ := hr
  show Zm w (d + 17) mL_law 736 [some (aR (some (SC))), some (aR (some (0))), some (aR (some (228))), some (aI (x3))] [aI (z12), aI (z6)] g11 P
  refine z_icmp_eq (tgt := 1258) dL_law_736 (by decide) (fun c13 => ?_) (fun c13 => ?_)
  · replace h := h.1 c13
    exact z_weak (by simp [lle]) h
  · replace h := h.2 c13
    refine z_iconst dL_law_739 ?_
    exact m_zret dL_law_740 rfl (by decide) h
set_option maxRecDepth 4000 in
theorem s_L_law_741 {w : GX} {d : Nat} {P : PN} {g : GI} (x3 : Int)
    (h : (0 ≤ nm (x3 + 1) ∧ nm (x3 + 1) < (g_L w : Int) ∧ (0 ≤ nm (x3 + 2) ∧ nm (x3 + 2) < (g_L w : Int) ∧ (0 ≤ nm (x3 + 3) ∧ nm (x3 + 3) < (g_L w : Int) ∧ Zm w (d + 16) mX10_seen 0 [some (aR (some (0))), some (aI ((g_xs w (nm (x3 + 1)).toNat).toInt)), some (aI ((g_xs w (nm (x3 + 2)).toNat).toInt)), some (aI ((g_xs w (nm (x3 + 3)).toNat).toInt))] [] g (fun r g7 => ∃ z8 : Int, r = some (aI z8) ∧ (0 ≤ nm (x3 + 1) ∧ nm (x3 + 1) < (g_L w : Int) ∧ (0 ≤ nm (x3 + 2) ∧ nm (x3 + 2) < (g_L w : Int) ∧ (0 ≤ nm (x3 + 3) ∧ nm (x3 + 3) < (g_L w : Int) ∧ Zm w (d + 16) mX11_seen 0 [some (aR (some (228))), some (aI ((g_xs w (nm (x3 + 1)).toNat).toInt)), some (aI ((g_xs w (nm (x3 + 2)).toNat).toInt)), some (aI ((g_xs w (nm (x3 + 3)).toNat).toInt))] [] g7 (fun r g15 => ∃ z16 : Int, r = some (aI z16) ∧ ((nm z8 = nm z16 → Zm w (d + 17) mL_law 1258 [some (aR (some (SC))), some (aR (some (0))), some (aR (some (228))), some (aI (x3))] [] g15 P) ∧ (¬ nm z8 = nm z16 → P (some (aI (0))) g15))))))))))) :
    Zm w (d + 17) mL_law 741 [some (aR (some (SC))), some (aR (some (0))), some (aR (some (228))), some (aI (x3))] [] g P := by
  refine z_aload_n dL_law_741 rfl rfl ?_
  refine z_aload_n dL_law_742 rfl rfl ?_
  refine z_iload_n dL_law_743 rfl rfl ?_
  refine z_iconst dL_law_744 ?_
  refine z_iadd dL_law_745 ?_
  obtain ⟨q1, q2, h⟩ := h
  refine z_sld dL_law_746 q1 q2 ?_
  refine z_aload_n dL_law_747 rfl rfl ?_
  refine z_iload_n dL_law_748 rfl rfl ?_
  refine z_iconst dL_law_749 ?_
  refine z_iadd dL_law_750 ?_
  obtain ⟨q3, q4, h⟩ := h
  refine z_sld dL_law_751 q3 q4 ?_
  refine z_aload_n dL_law_752 rfl rfl ?_
  refine z_iload_n dL_law_753 rfl rfl ?_
  refine z_iconst dL_law_754 ?_
  refine z_iadd dL_law_755 ?_
  obtain ⟨q5, q6, h⟩ := h
  refine z_sld dL_law_756 q5 q6 ?_
  refine m_callV (as := [aI ((g_xs w (nm (x3 + 1)).toNat).toInt), aI ((g_xs w (nm (x3 + 2)).toNat).toInt), aI ((g_xs w (nm (x3 + 3)).toNat).toInt)]) dL_law_757 lk_L_93 mok_X10_seen in_X10_seen sl_X10_seen kt_0 rfl rfl rfl (Nat.le_of_ble_eq_true rfl) rfl (Nat.le_of_ble_eq_true rfl) rfl (m_mono (fun r g7 hr => ?_) h)
  obtain ⟨z8, rfl, h⟩ := hr
  show Zm w (d + 17) mL_law 760 [some (aR (some (SC))), some (aR (some (0))), some (aR (some (228))), some (aI (x3))] [aI (z8)] g7 P
  refine z_aload_n dL_law_760 rfl rfl ?_
  refine z_aload_n dL_law_761 rfl rfl ?_
  refine z_iload_n dL_law_762 rfl rfl ?_
  refine z_iconst dL_law_763 ?_
  refine z_iadd dL_law_764 ?_
  obtain ⟨q9, q10, h⟩ := h
  refine z_sld dL_law_765 q9 q10 ?_
  refine z_aload_n dL_law_766 rfl rfl ?_
  refine z_iload_n dL_law_767 rfl rfl ?_
  refine z_iconst dL_law_768 ?_
  refine z_iadd dL_law_769 ?_
  obtain ⟨q11, q12, h⟩ := h
  refine z_sld dL_law_770 q11 q12 ?_
  refine z_aload_n dL_law_771 rfl rfl ?_
  refine z_iload_n dL_law_772 rfl rfl ?_
  refine z_iconst dL_law_773 ?_
  refine z_iadd dL_law_774 ?_
  obtain ⟨q13, q14, h⟩ := h
  refine z_sld dL_law_775 q13 q14 ?_
  refine m_callV (as := [aI ((g_xs w (nm (x3 + 1)).toNat).toInt), aI ((g_xs w (nm (x3 + 2)).toNat).toInt), aI ((g_xs w (nm (x3 + 3)).toNat).toInt)]) dL_law_776 lk_L_96 mok_X11_seen in_X11_seen sl_X11_seen kt_228 rfl rfl rfl (Nat.le_of_ble_eq_true rfl) rfl (Nat.le_of_ble_eq_true rfl) rfl (m_mono (fun r g15 hr => ?_) h)
  obtain ⟨z16, rfl, h⟩ := hr
  show Zm w (d + 17) mL_law 779 [some (aR (some (SC))), some (aR (some (0))), some (aR (some (228))), some (aI (x3))] [aI (z16), aI (z8)] g15 P
  refine z_icmp_eq (tgt := 1258) dL_law_779 (by decide) (fun c17 => ?_) (fun c17 => ?_)
  · replace h := h.1 c17
    exact z_weak (by simp [lle]) h
  · replace h := h.2 c17
    refine z_iconst dL_law_782 ?_
    exact m_zret dL_law_783 rfl (by decide) h
set_option maxRecDepth 4000 in
theorem s_L_law_784 {w : GX} {d : Nat} {P : PN} {g : GI} (x3 : Int)
    (h : Zm w (d + 16) mX10_forget 0 [some (aR (some (0))), none] [] g (fun r g1 => ∃ z2 : Int, r = some (aI z2) ∧ Zm w (d + 16) mX11_forget 0 [some (aR (some (228))), none] [] g1 (fun r g3 => ∃ z4 : Int, r = some (aI z4) ∧ ((nm z2 = nm z4 → Zm w (d + 17) mL_law 1258 [some (aR (some (SC))), some (aR (some (0))), some (aR (some (228))), some (aI (x3))] [] g3 P) ∧ (¬ nm z2 = nm z4 → P (some (aI (0))) g3))))) :
    Zm w (d + 17) mL_law 784 [some (aR (some (SC))), some (aR (some (0))), some (aR (some (228))), some (aI (x3))] [] g P := by
  refine z_aload_n dL_law_784 rfl rfl ?_
  refine m_callV (as := []) dL_law_785 lk_L_97 mok_X10_forget in_X10_forget sl_X10_forget kt_0 rfl rfl rfl (Nat.le_of_ble_eq_true rfl) rfl (Nat.le_of_ble_eq_true rfl) rfl (m_mono (fun r g1 hr => ?_) h)
  obtain ⟨z2, rfl, h⟩ := hr
  show Zm w (d + 17) mL_law 788 [some (aR (some (SC))), some (aR (some (0))), some (aR (some (228))), some (aI (x3))] [aI (z2)] g1 P
  refine z_aload_n dL_law_788 rfl rfl ?_
  refine m_callV (as := []) dL_law_789 lk_L_101 mok_X11_forget in_X11_forget sl_X11_forget kt_228 rfl rfl rfl (Nat.le_of_ble_eq_true rfl) rfl (Nat.le_of_ble_eq_true rfl) rfl (m_mono (fun r g3 hr => ?_) h)
  obtain ⟨z4, rfl, h⟩ := hr
  show Zm w (d + 17) mL_law 792 [some (aR (some (SC))), some (aR (some (0))), some (aR (some (228))), some (aI (x3))] [aI (z4), aI (z2)] g3 P
  refine z_icmp_eq (tgt := 1258) dL_law_792 (by decide) (fun c5 => ?_) (fun c5 => ?_)
  · replace h := h.1 c5
    exact z_weak (by simp [lle]) h
  · replace h := h.2 c5
    refine z_iconst dL_law_795 ?_
    exact m_zret dL_law_796 rfl (by decide) h
set_option maxRecDepth 4000 in
theorem s_L_law_797 {w : GX} {d : Nat} {P : PN} {g : GI} (x3 : Int)
    (h : Zm w (d + 16) mX10_never 0 [some (aR (some (0)))] [] g (fun r g1 => ∃ z2 : Int, r = some (aI z2) ∧ Zm w (d + 16) mX11_never 0 [some (aR (some (228)))] [] g1 (fun r g3 => ∃ z4 : Int, r = some (aI z4) ∧ ((nm z2 = nm z4 → Zm w (d + 17) mL_law 1258 [some (aR (some (SC))), some (aR (some (0))), some (aR (some (228))), some (aI (x3))] [] g3 P) ∧ (¬ nm z2 = nm z4 → P (some (aI (0))) g3))))) :
    Zm w (d + 17) mL_law 797 [some (aR (some (SC))), some (aR (some (0))), some (aR (some (228))), some (aI (x3))] [] g P := by
  refine z_aload_n dL_law_797 rfl rfl ?_
  refine m_callV (as := []) dL_law_798 lk_L_102 mok_X10_never in_X10_never sl_X10_never kt_0 rfl rfl rfl (Nat.le_of_ble_eq_true rfl) rfl (Nat.le_of_ble_eq_true rfl) rfl (m_mono (fun r g1 hr => ?_) h)
  obtain ⟨z2, rfl, h⟩ := hr
  show Zm w (d + 17) mL_law 801 [some (aR (some (SC))), some (aR (some (0))), some (aR (some (228))), some (aI (x3))] [aI (z2)] g1 P
  refine z_aload_n dL_law_801 rfl rfl ?_
  refine m_callV (as := []) dL_law_802 lk_L_105 mok_X11_never in_X11_never sl_X11_never kt_228 rfl rfl rfl (Nat.le_of_ble_eq_true rfl) rfl (Nat.le_of_ble_eq_true rfl) rfl (m_mono (fun r g3 hr => ?_) h)
  obtain ⟨z4, rfl, h⟩ := hr
  show Zm w (d + 17) mL_law 805 [some (aR (some (SC))), some (aR (some (0))), some (aR (some (228))), some (aI (x3))] [aI (z4), aI (z2)] g3 P
  refine z_icmp_eq (tgt := 1258) dL_law_805 (by decide) (fun c5 => ?_) (fun c5 => ?_)
  · replace h := h.1 c5
    exact z_weak (by simp [lle]) h
  · replace h := h.2 c5
    refine z_iconst dL_law_808 ?_
    exact m_zret dL_law_809 rfl (by decide) h
set_option maxRecDepth 4000 in
theorem s_L_law_810 {w : GX} {d : Nat} {P : PN} {g : GI} (x3 : Int)
    (h : (0 ≤ nm (x3 + 1) ∧ nm (x3 + 1) < (g_L w : Int) ∧ Zm w (d + 16) mX10_lucky 0 [some (aR (some (0))), some (aI ((g_xs w (nm (x3 + 1)).toNat).toInt))] [] g (fun r g3 => ∃ z4 : Int, r = some (aI z4) ∧ (0 ≤ nm (x3 + 1) ∧ nm (x3 + 1) < (g_L w : Int) ∧ Zm w (d + 16) mX11_lucky 0 [some (aR (some (228))), some (aI ((g_xs w (nm (x3 + 1)).toNat).toInt))] [] g3 (fun r g7 => ∃ z8 : Int, r = some (aI z8) ∧ ((nm z4 = nm z8 → Zm w (d + 17) mL_law 1258 [some (aR (some (SC))), some (aR (some (0))), some (aR (some (228))), some (aI (x3))] [] g7 P) ∧ (¬ nm z4 = nm z8 → P (some (aI (0))) g7))))))) :
    Zm w (d + 17) mL_law 810 [some (aR (some (SC))), some (aR (some (0))), some (aR (some (228))), some (aI (x3))] [] g P := by
  refine z_aload_n dL_law_810 rfl rfl ?_
  refine z_aload_n dL_law_811 rfl rfl ?_
  refine z_iload_n dL_law_812 rfl rfl ?_
  refine z_iconst dL_law_813 ?_
  refine z_iadd dL_law_814 ?_
  obtain ⟨q1, q2, h⟩ := h
  refine z_sld dL_law_815 q1 q2 ?_
  refine m_callV (as := [aI ((g_xs w (nm (x3 + 1)).toNat).toInt)]) dL_law_816 lk_L_106 mok_X10_lucky in_X10_lucky sl_X10_lucky kt_0 rfl rfl rfl (Nat.le_of_ble_eq_true rfl) rfl (Nat.le_of_ble_eq_true rfl) rfl (m_mono (fun r g3 hr => ?_) h)
  obtain ⟨z4, rfl, h⟩ := hr
  show Zm w (d + 17) mL_law 819 [some (aR (some (SC))), some (aR (some (0))), some (aR (some (228))), some (aI (x3))] [aI (z4)] g3 P
  refine z_aload_n dL_law_819 rfl rfl ?_
  refine z_aload_n dL_law_820 rfl rfl ?_
  refine z_iload_n dL_law_821 rfl rfl ?_
  refine z_iconst dL_law_822 ?_
  refine z_iadd dL_law_823 ?_
  obtain ⟨q5, q6, h⟩ := h
  refine z_sld dL_law_824 q5 q6 ?_
  refine m_callV (as := [aI ((g_xs w (nm (x3 + 1)).toNat).toInt)]) dL_law_825 lk_L_109 mok_X11_lucky in_X11_lucky sl_X11_lucky kt_228 rfl rfl rfl (Nat.le_of_ble_eq_true rfl) rfl (Nat.le_of_ble_eq_true rfl) rfl (m_mono (fun r g7 hr => ?_) h)
  obtain ⟨z8, rfl, h⟩ := hr
  show Zm w (d + 17) mL_law 828 [some (aR (some (SC))), some (aR (some (0))), some (aR (some (228))), some (aI (x3))] [aI (z8), aI (z4)] g7 P
  refine z_icmp_eq (tgt := 1258) dL_law_828 (by decide) (fun c9 => ?_) (fun c9 => ?_)
  · replace h := h.1 c9
    exact z_weak (by simp [lle]) h
  · replace h := h.2 c9
    refine z_iconst dL_law_831 ?_
    exact m_zret dL_law_832 rfl (by decide) h
set_option maxRecDepth 4000 in
theorem s_L_law_833 {w : GX} {d : Nat} {P : PN} {g : GI} (x3 : Int)
    (h : (0 ≤ nm (x3 + 1) ∧ nm (x3 + 1) < (g_L w : Int) ∧ Zm w (d + 16) mX10_ask 0 [some (aR (some (0))), some (aI ((g_xs w (nm (x3 + 1)).toNat).toInt))] [] g (fun r g3 => ∃ z4 : Int, r = some (aI z4) ∧ (0 ≤ nm (x3 + 1) ∧ nm (x3 + 1) < (g_L w : Int) ∧ Zm w (d + 16) mX11_ask 0 [some (aR (some (228))), some (aI ((g_xs w (nm (x3 + 1)).toNat).toInt))] [] g3 (fun r g7 => ∃ z8 : Int, r = some (aI z8) ∧ ((nm z4 = nm z8 → Zm w (d + 17) mL_law 1258 [some (aR (some (SC))), some (aR (some (0))), some (aR (some (228))), some (aI (x3))] [] g7 P) ∧ (¬ nm z4 = nm z8 → P (some (aI (0))) g7))))))) :
    Zm w (d + 17) mL_law 833 [some (aR (some (SC))), some (aR (some (0))), some (aR (some (228))), some (aI (x3))] [] g P := by
  refine z_aload_n dL_law_833 rfl rfl ?_
  refine z_aload_n dL_law_834 rfl rfl ?_
  refine z_iload_n dL_law_835 rfl rfl ?_
  refine z_iconst dL_law_836 ?_
  refine z_iadd dL_law_837 ?_
  obtain ⟨q1, q2, h⟩ := h
  refine z_sld dL_law_838 q1 q2 ?_
  refine m_callV (as := [aI ((g_xs w (nm (x3 + 1)).toNat).toInt)]) dL_law_839 lk_L_110 mok_X10_ask in_X10_ask sl_X10_ask kt_0 rfl rfl rfl (Nat.le_of_ble_eq_true rfl) rfl (Nat.le_of_ble_eq_true rfl) rfl (m_mono (fun r g3 hr => ?_) h)
  obtain ⟨z4, rfl, h⟩ := hr
  show Zm w (d + 17) mL_law 842 [some (aR (some (SC))), some (aR (some (0))), some (aR (some (228))), some (aI (x3))] [aI (z4)] g3 P
  refine z_aload_n dL_law_842 rfl rfl ?_
  refine z_aload_n dL_law_843 rfl rfl ?_
  refine z_iload_n dL_law_844 rfl rfl ?_
  refine z_iconst dL_law_845 ?_
  refine z_iadd dL_law_846 ?_
  obtain ⟨q5, q6, h⟩ := h
  refine z_sld dL_law_847 q5 q6 ?_
  refine m_callV (as := [aI ((g_xs w (nm (x3 + 1)).toNat).toInt)]) dL_law_848 lk_L_113 mok_X11_ask in_X11_ask sl_X11_ask kt_228 rfl rfl rfl (Nat.le_of_ble_eq_true rfl) rfl (Nat.le_of_ble_eq_true rfl) rfl (m_mono (fun r g7 hr => ?_) h)
  obtain ⟨z8, rfl, h⟩ := hr
  show Zm w (d + 17) mL_law 851 [some (aR (some (SC))), some (aR (some (0))), some (aR (some (228))), some (aI (x3))] [aI (z8), aI (z4)] g7 P
  refine z_icmp_eq (tgt := 1258) dL_law_851 (by decide) (fun c9 => ?_) (fun c9 => ?_)
  · replace h := h.1 c9
    exact z_weak (by simp [lle]) h
  · replace h := h.2 c9
    refine z_iconst dL_law_854 ?_
    exact m_zret dL_law_855 rfl (by decide) h
set_option maxRecDepth 4000 in
theorem s_L_law_856 {w : GX} {d : Nat} {P : PN} {g : GI} (x3 : Int)
    (h : (0 ≤ nm (x3 + 1) ∧ nm (x3 + 1) < (g_L w : Int) ∧ (0 ≤ nm (x3 + 2) ∧ nm (x3 + 2) < (g_L w : Int) ∧ (0 ≤ nm (x3 + 3) ∧ nm (x3 + 3) < (g_L w : Int) ∧ (0 ≤ nm (x3 + 4) ∧ nm (x3 + 4) < (g_L w : Int) ∧ (0 ≤ nm (x3 + 5) ∧ nm (x3 + 5) < (g_L w : Int) ∧ Zm w (d + 16) mX10_flooded 0 [some (aR (some (0))), some (aI ((g_xs w (nm (x3 + 1)).toNat).toInt)), some (aI ((g_xs w (nm (x3 + 2)).toNat).toInt)), some (aI ((g_xs w (nm (x3 + 3)).toNat).toInt)), some (aI ((g_xs w (nm (x3 + 4)).toNat).toInt)), some (aI ((g_xs w (nm (x3 + 5)).toNat).toInt))] [] g (fun r g11 => ∃ z12 : Int, r = some (aL z12) ∧ (0 ≤ nm (x3 + 1) ∧ nm (x3 + 1) < (g_L w : Int) ∧ (0 ≤ nm (x3 + 2) ∧ nm (x3 + 2) < (g_L w : Int) ∧ (0 ≤ nm (x3 + 3) ∧ nm (x3 + 3) < (g_L w : Int) ∧ (0 ≤ nm (x3 + 4) ∧ nm (x3 + 4) < (g_L w : Int) ∧ (0 ≤ nm (x3 + 5) ∧ nm (x3 + 5) < (g_L w : Int) ∧ Zm w (d + 16) mX11_flooded 0 [some (aR (some (228))), some (aI ((g_xs w (nm (x3 + 1)).toNat).toInt)), some (aI ((g_xs w (nm (x3 + 2)).toNat).toInt)), some (aI ((g_xs w (nm (x3 + 3)).toNat).toInt)), some (aI ((g_xs w (nm (x3 + 4)).toNat).toInt)), some (aI ((g_xs w (nm (x3 + 5)).toNat).toInt))] [] g11 (fun r g23 => ∃ z24 : Int, r = some (aL z24) ∧ ((nm (lCmp z12 z24) = 0 → Zm w (d + 17) mL_law 1258 [some (aR (some (SC))), some (aR (some (0))), some (aR (some (228))), some (aI (x3))] [] g23 P) ∧ (¬ nm (lCmp z12 z24) = 0 → P (some (aI (0))) g23))))))))))))))) :
    Zm w (d + 17) mL_law 856 [some (aR (some (SC))), some (aR (some (0))), some (aR (some (228))), some (aI (x3))] [] g P := by
  refine z_aload_n dL_law_856 rfl rfl ?_
  refine z_aload_n dL_law_857 rfl rfl ?_
  refine z_iload_n dL_law_858 rfl rfl ?_
  refine z_iconst dL_law_859 ?_
  refine z_iadd dL_law_860 ?_
  obtain ⟨q1, q2, h⟩ := h
  refine z_sld dL_law_861 q1 q2 ?_
  refine z_aload_n dL_law_862 rfl rfl ?_
  refine z_iload_n dL_law_863 rfl rfl ?_
  refine z_iconst dL_law_864 ?_
  refine z_iadd dL_law_865 ?_
  obtain ⟨q3, q4, h⟩ := h
  refine z_sld dL_law_866 q3 q4 ?_
  refine z_aload_n dL_law_867 rfl rfl ?_
  refine z_iload_n dL_law_868 rfl rfl ?_
  refine z_iconst dL_law_869 ?_
  refine z_iadd dL_law_870 ?_
  obtain ⟨q5, q6, h⟩ := h
  refine z_sld dL_law_871 q5 q6 ?_
  refine z_aload_n dL_law_872 rfl rfl ?_
  refine z_iload_n dL_law_873 rfl rfl ?_
  refine z_iconst dL_law_874 ?_
  refine z_iadd dL_law_875 ?_
  obtain ⟨q7, q8, h⟩ := h
  refine z_sld dL_law_876 q7 q8 ?_
  refine z_aload_n dL_law_877 rfl rfl ?_
  refine z_iload_n dL_law_878 rfl rfl ?_
  refine z_iconst dL_law_879 ?_
  refine z_iadd dL_law_880 ?_
  obtain ⟨q9, q10, h⟩ := h
  refine z_sld dL_law_881 q9 q10 ?_
  refine m_callV (as := [aI ((g_xs w (nm (x3 + 1)).toNat).toInt), aI ((g_xs w (nm (x3 + 2)).toNat).toInt), aI ((g_xs w (nm (x3 + 3)).toNat).toInt), aI ((g_xs w (nm (x3 + 4)).toNat).toInt), aI ((g_xs w (nm (x3 + 5)).toNat).toInt)]) dL_law_882 lk_L_114 mok_X10_flooded in_X10_flooded sl_X10_flooded kt_0 rfl rfl rfl (Nat.le_of_ble_eq_true rfl) rfl (Nat.le_of_ble_eq_true rfl) rfl (m_mono (fun r g11 hr => ?_) h)
  obtain ⟨z12, rfl, h⟩ := hr
  show Zm w (d + 17) mL_law 885 [some (aR (some (SC))), some (aR (some (0))), some (aR (some (228))), some (aI (x3))] [aL (z12)] g11 P
  refine z_aload_n dL_law_885 rfl rfl ?_
  refine z_aload_n dL_law_886 rfl rfl ?_
  refine z_iload_n dL_law_887 rfl rfl ?_
  refine z_iconst dL_law_888 ?_
  refine z_iadd dL_law_889 ?_
  obtain ⟨q13, q14, h⟩ := h
  refine z_sld dL_law_890 q13 q14 ?_
  refine z_aload_n dL_law_891 rfl rfl ?_
  refine z_iload_n dL_law_892 rfl rfl ?_
  refine z_iconst dL_law_893 ?_
  refine z_iadd dL_law_894 ?_
  obtain ⟨q15, q16, h⟩ := h
  refine z_sld dL_law_895 q15 q16 ?_
  refine z_aload_n dL_law_896 rfl rfl ?_
  refine z_iload_n dL_law_897 rfl rfl ?_
  refine z_iconst dL_law_898 ?_
  refine z_iadd dL_law_899 ?_
  obtain ⟨q17, q18, h⟩ := h
  refine z_sld dL_law_900 q17 q18 ?_
  refine z_aload_n dL_law_901 rfl rfl ?_
  refine z_iload_n dL_law_902 rfl rfl ?_
  refine z_iconst dL_law_903 ?_
  refine z_iadd dL_law_904 ?_
  obtain ⟨q19, q20, h⟩ := h
  refine z_sld dL_law_905 q19 q20 ?_
  refine z_aload_n dL_law_906 rfl rfl ?_
  refine z_iload_n dL_law_907 rfl rfl ?_
  refine z_iconst dL_law_908 ?_
  refine z_iadd dL_law_909 ?_
  obtain ⟨q21, q22, h⟩ := h
  refine z_sld dL_law_910 q21 q22 ?_
  refine m_callV (as := [aI ((g_xs w (nm (x3 + 1)).toNat).toInt), aI ((g_xs w (nm (x3 + 2)).toNat).toInt), aI ((g_xs w (nm (x3 + 3)).toNat).toInt), aI ((g_xs w (nm (x3 + 4)).toNat).toInt), aI ((g_xs w (nm (x3 + 5)).toNat).toInt)]) dL_law_911 lk_L_118 mok_X11_flooded in_X11_flooded sl_X11_flooded kt_228 rfl rfl rfl (Nat.le_of_ble_eq_true rfl) rfl (Nat.le_of_ble_eq_true rfl) rfl (m_mono (fun r g23 hr => ?_) h)
  obtain ⟨z24, rfl, h⟩ := hr
  show Zm w (d + 17) mL_law 914 [some (aR (some (SC))), some (aR (some (0))), some (aR (some (228))), some (aI (x3))] [aL (z24), aL (z12)] g23 P
  refine z_lcmp dL_law_914 ?_
  refine z_if_eq (tgt := 1258) dL_law_915 (by decide) (fun c25 => ?_) (fun c25 => ?_)
  · replace h := h.1 c25
    exact z_weak (by simp [lle]) h
  · replace h := h.2 c25
    refine z_iconst dL_law_918 ?_
    exact m_zret dL_law_919 rfl (by decide) h
set_option maxRecDepth 4000 in
theorem s_L_law_920 {w : GX} {d : Nat} {P : PN} {g : GI} (x3 : Int)
    (h : (0 ≤ nm (x3 + 1) ∧ nm (x3 + 1) < (g_L w : Int) ∧ (0 ≤ nm (x3 + 2) ∧ nm (x3 + 2) < (g_L w : Int) ∧ (0 ≤ nm (x3 + 3) ∧ nm (x3 + 3) < (g_L w : Int) ∧ Zm w (d + 16) mX10_crowd 0 [some (aR (some (0))), some (aI ((g_xs w (nm (x3 + 1)).toNat).toInt)), some (aI ((g_xs w (nm (x3 + 2)).toNat).toInt)), some (aI ((g_xs w (nm (x3 + 3)).toNat).toInt)), none] [] g (fun r g7 => ∃ z8 : Int, r = some (aI z8) ∧ (0 ≤ nm (x3 + 1) ∧ nm (x3 + 1) < (g_L w : Int) ∧ (0 ≤ nm (x3 + 2) ∧ nm (x3 + 2) < (g_L w : Int) ∧ (0 ≤ nm (x3 + 3) ∧ nm (x3 + 3) < (g_L w : Int) ∧ Zm w (d + 16) mX11_crowd 0 [some (aR (some (228))), some (aI ((g_xs w (nm (x3 + 1)).toNat).toInt)), some (aI ((g_xs w (nm (x3 + 2)).toNat).toInt)), some (aI ((g_xs w (nm (x3 + 3)).toNat).toInt))] [] g7 (fun r g15 => ∃ z16 : Int, r = some (aI z16) ∧ ((nm z8 = nm z16 → Zm w (d + 17) mL_law 1258 [some (aR (some (SC))), some (aR (some (0))), some (aR (some (228))), some (aI (x3))] [] g15 P) ∧ (¬ nm z8 = nm z16 → P (some (aI (0))) g15))))))))))) :
    Zm w (d + 17) mL_law 920 [some (aR (some (SC))), some (aR (some (0))), some (aR (some (228))), some (aI (x3))] [] g P := by
  refine z_aload_n dL_law_920 rfl rfl ?_
  refine z_aload_n dL_law_921 rfl rfl ?_
  refine z_iload_n dL_law_922 rfl rfl ?_
  refine z_iconst dL_law_923 ?_
  refine z_iadd dL_law_924 ?_
  obtain ⟨q1, q2, h⟩ := h
  refine z_sld dL_law_925 q1 q2 ?_
  refine z_aload_n dL_law_926 rfl rfl ?_
  refine z_iload_n dL_law_927 rfl rfl ?_
  refine z_iconst dL_law_928 ?_
  refine z_iadd dL_law_929 ?_
  obtain ⟨q3, q4, h⟩ := h
  refine z_sld dL_law_930 q3 q4 ?_
  refine z_aload_n dL_law_931 rfl rfl ?_
  refine z_iload_n dL_law_932 rfl rfl ?_
  refine z_iconst dL_law_933 ?_
  refine z_iadd dL_law_934 ?_
  obtain ⟨q5, q6, h⟩ := h
  refine z_sld dL_law_935 q5 q6 ?_
  refine m_callV (as := [aI ((g_xs w (nm (x3 + 1)).toNat).toInt), aI ((g_xs w (nm (x3 + 2)).toNat).toInt), aI ((g_xs w (nm (x3 + 3)).toNat).toInt)]) dL_law_936 lk_L_119 mok_X10_crowd in_X10_crowd sl_X10_crowd kt_0 rfl rfl rfl (Nat.le_of_ble_eq_true rfl) rfl (Nat.le_of_ble_eq_true rfl) rfl (m_mono (fun r g7 hr => ?_) h)
  obtain ⟨z8, rfl, h⟩ := hr
  show Zm w (d + 17) mL_law 939 [some (aR (some (SC))), some (aR (some (0))), some (aR (some (228))), some (aI (x3))] [aI (z8)] g7 P
  refine z_aload_n dL_law_939 rfl rfl ?_
  refine z_aload_n dL_law_940 rfl rfl ?_
  refine z_iload_n dL_law_941 rfl rfl ?_
  refine z_iconst dL_law_942 ?_
  refine z_iadd dL_law_943 ?_
  obtain ⟨q9, q10, h⟩ := h
  refine z_sld dL_law_944 q9 q10 ?_
  refine z_aload_n dL_law_945 rfl rfl ?_
  refine z_iload_n dL_law_946 rfl rfl ?_
  refine z_iconst dL_law_947 ?_
  refine z_iadd dL_law_948 ?_
  obtain ⟨q11, q12, h⟩ := h
  refine z_sld dL_law_949 q11 q12 ?_
  refine z_aload_n dL_law_950 rfl rfl ?_
  refine z_iload_n dL_law_951 rfl rfl ?_
  refine z_iconst dL_law_952 ?_
  refine z_iadd dL_law_953 ?_
  obtain ⟨q13, q14, h⟩ := h
  refine z_sld dL_law_954 q13 q14 ?_
  refine m_callV (as := [aI ((g_xs w (nm (x3 + 1)).toNat).toInt), aI ((g_xs w (nm (x3 + 2)).toNat).toInt), aI ((g_xs w (nm (x3 + 3)).toNat).toInt)]) dL_law_955 lk_L_122 mok_X11_crowd in_X11_crowd sl_X11_crowd kt_228 rfl rfl rfl (Nat.le_of_ble_eq_true rfl) rfl (Nat.le_of_ble_eq_true rfl) rfl (m_mono (fun r g15 hr => ?_) h)
  obtain ⟨z16, rfl, h⟩ := hr
  show Zm w (d + 17) mL_law 958 [some (aR (some (SC))), some (aR (some (0))), some (aR (some (228))), some (aI (x3))] [aI (z16), aI (z8)] g15 P
  refine z_icmp_eq (tgt := 1258) dL_law_958 (by decide) (fun c17 => ?_) (fun c17 => ?_)
  · replace h := h.1 c17
    exact z_weak (by simp [lle]) h
  · replace h := h.2 c17
    refine z_iconst dL_law_961 ?_
    exact m_zret dL_law_962 rfl (by decide) h
set_option maxRecDepth 4000 in
theorem s_L_law_963 {w : GX} {d : Nat} {P : PN} {g : GI} (x3 : Int)
    (h : (0 ≤ nm (x3 + 1) ∧ nm (x3 + 1) < (g_L w : Int) ∧ (0 ≤ nm (x3 + 2) ∧ nm (x3 + 2) < (g_L w : Int) ∧ (0 ≤ nm (x3 + 3) ∧ nm (x3 + 3) < (g_L w : Int) ∧ Zm w (d + 16) mX10_sheet 0 [some (aR (some (0))), some (aI ((g_xs w (nm (x3 + 1)).toNat).toInt)), some (aI ((g_xs w (nm (x3 + 2)).toNat).toInt)), some (aI ((g_xs w (nm (x3 + 3)).toNat).toInt))] [] g (fun r g7 => ∃ z8 : Int, r = some (aI z8) ∧ (0 ≤ nm (x3 + 1) ∧ nm (x3 + 1) < (g_L w : Int) ∧ (0 ≤ nm (x3 + 2) ∧ nm (x3 + 2) < (g_L w : Int) ∧ (0 ≤ nm (x3 + 3) ∧ nm (x3 + 3) < (g_L w : Int) ∧ Zm w (d + 16) mX11_sheet 0 [some (aR (some (228))), some (aI ((g_xs w (nm (x3 + 1)).toNat).toInt)), some (aI ((g_xs w (nm (x3 + 2)).toNat).toInt)), some (aI ((g_xs w (nm (x3 + 3)).toNat).toInt)), none] [] g7 (fun r g15 => ∃ z16 : Int, r = some (aI z16) ∧ ((nm z8 = nm z16 → Zm w (d + 17) mL_law 1258 [some (aR (some (SC))), some (aR (some (0))), some (aR (some (228))), some (aI (x3))] [] g15 P) ∧ (¬ nm z8 = nm z16 → P (some (aI (0))) g15))))))))))) :
    Zm w (d + 17) mL_law 963 [some (aR (some (SC))), some (aR (some (0))), some (aR (some (228))), some (aI (x3))] [] g P := by
  refine z_aload_n dL_law_963 rfl rfl ?_
  refine z_aload_n dL_law_964 rfl rfl ?_
  refine z_iload_n dL_law_965 rfl rfl ?_
  refine z_iconst dL_law_966 ?_
  refine z_iadd dL_law_967 ?_
  obtain ⟨q1, q2, h⟩ := h
  refine z_sld dL_law_968 q1 q2 ?_
  refine z_aload_n dL_law_969 rfl rfl ?_
  refine z_iload_n dL_law_970 rfl rfl ?_
  refine z_iconst dL_law_971 ?_
  refine z_iadd dL_law_972 ?_
  obtain ⟨q3, q4, h⟩ := h
  refine z_sld dL_law_973 q3 q4 ?_
  refine z_aload_n dL_law_974 rfl rfl ?_
  refine z_iload_n dL_law_975 rfl rfl ?_
  refine z_iconst dL_law_976 ?_
  refine z_iadd dL_law_977 ?_
  obtain ⟨q5, q6, h⟩ := h
  refine z_sld dL_law_978 q5 q6 ?_
  refine m_callV (as := [aI ((g_xs w (nm (x3 + 1)).toNat).toInt), aI ((g_xs w (nm (x3 + 2)).toNat).toInt), aI ((g_xs w (nm (x3 + 3)).toNat).toInt)]) dL_law_979 lk_L_123 mok_X10_sheet in_X10_sheet sl_X10_sheet kt_0 rfl rfl rfl (Nat.le_of_ble_eq_true rfl) rfl (Nat.le_of_ble_eq_true rfl) rfl (m_mono (fun r g7 hr => ?_) h)
  obtain ⟨z8, rfl, h⟩ := hr
  show Zm w (d + 17) mL_law 982 [some (aR (some (SC))), some (aR (some (0))), some (aR (some (228))), some (aI (x3))] [aI (z8)] g7 P
  refine z_aload_n dL_law_982 rfl rfl ?_
  refine z_aload_n dL_law_983 rfl rfl ?_
  refine z_iload_n dL_law_984 rfl rfl ?_
  refine z_iconst dL_law_985 ?_
  refine z_iadd dL_law_986 ?_
  obtain ⟨q9, q10, h⟩ := h
  refine z_sld dL_law_987 q9 q10 ?_
  refine z_aload_n dL_law_988 rfl rfl ?_
  refine z_iload_n dL_law_989 rfl rfl ?_
  refine z_iconst dL_law_990 ?_
  refine z_iadd dL_law_991 ?_
  obtain ⟨q11, q12, h⟩ := h
  refine z_sld dL_law_992 q11 q12 ?_
  refine z_aload_n dL_law_993 rfl rfl ?_
  refine z_iload_n dL_law_994 rfl rfl ?_
  refine z_iconst dL_law_995 ?_
  refine z_iadd dL_law_996 ?_
  obtain ⟨q13, q14, h⟩ := h
  refine z_sld dL_law_997 q13 q14 ?_
  refine m_callV (as := [aI ((g_xs w (nm (x3 + 1)).toNat).toInt), aI ((g_xs w (nm (x3 + 2)).toNat).toInt), aI ((g_xs w (nm (x3 + 3)).toNat).toInt)]) dL_law_998 lk_L_126 mok_X11_sheet in_X11_sheet sl_X11_sheet kt_228 rfl rfl rfl (Nat.le_of_ble_eq_true rfl) rfl (Nat.le_of_ble_eq_true rfl) rfl (m_mono (fun r g15 hr => ?_) h)
  obtain ⟨z16, rfl, h⟩ := hr
  show Zm w (d + 17) mL_law 1001 [some (aR (some (SC))), some (aR (some (0))), some (aR (some (228))), some (aI (x3))] [aI (z16), aI (z8)] g15 P
  refine z_icmp_eq (tgt := 1258) dL_law_1001 (by decide) (fun c17 => ?_) (fun c17 => ?_)
  · replace h := h.1 c17
    exact z_weak (by simp [lle]) h
  · replace h := h.2 c17
    refine z_iconst dL_law_1004 ?_
    exact m_zret dL_law_1005 rfl (by decide) h
set_option maxRecDepth 4000 in
theorem s_L_law_1006 {w : GX} {d : Nat} {P : PN} {g : GI} (x3 : Int)
    (h : (0 ≤ nm (x3 + 1) ∧ nm (x3 + 1) < (g_L w : Int) ∧ Zm w (d + 16) mX10_lose 0 [some (aR (some (0))), some (aI ((g_xs w (nm (x3 + 1)).toNat).toInt)), none] [] g (fun r g3 => ∃ z4 : Int, r = some (aI z4) ∧ (0 ≤ nm (x3 + 1) ∧ nm (x3 + 1) < (g_L w : Int) ∧ Zm w (d + 16) mX11_lose 0 [some (aR (some (228))), some (aI ((g_xs w (nm (x3 + 1)).toNat).toInt))] [] g3 (fun r g7 => ∃ z8 : Int, r = some (aI z8) ∧ ((nm z4 = nm z8 → Zm w (d + 17) mL_law 1258 [some (aR (some (SC))), some (aR (some (0))), some (aR (some (228))), some (aI (x3))] [] g7 P) ∧ (¬ nm z4 = nm z8 → P (some (aI (0))) g7))))))) :
    Zm w (d + 17) mL_law 1006 [some (aR (some (SC))), some (aR (some (0))), some (aR (some (228))), some (aI (x3))] [] g P := by
  refine z_aload_n dL_law_1006 rfl rfl ?_
  refine z_aload_n dL_law_1007 rfl rfl ?_
  refine z_iload_n dL_law_1008 rfl rfl ?_
  refine z_iconst dL_law_1009 ?_
  refine z_iadd dL_law_1010 ?_
  obtain ⟨q1, q2, h⟩ := h
  refine z_sld dL_law_1011 q1 q2 ?_
  refine m_callV (as := [aI ((g_xs w (nm (x3 + 1)).toNat).toInt)]) dL_law_1012 lk_L_127 mok_X10_lose in_X10_lose sl_X10_lose kt_0 rfl rfl rfl (Nat.le_of_ble_eq_true rfl) rfl (Nat.le_of_ble_eq_true rfl) rfl (m_mono (fun r g3 hr => ?_) h)
  obtain ⟨z4, rfl, h⟩ := hr
  show Zm w (d + 17) mL_law 1015 [some (aR (some (SC))), some (aR (some (0))), some (aR (some (228))), some (aI (x3))] [aI (z4)] g3 P
  refine z_aload_n dL_law_1015 rfl rfl ?_
  refine z_aload_n dL_law_1016 rfl rfl ?_
  refine z_iload_n dL_law_1017 rfl rfl ?_
  refine z_iconst dL_law_1018 ?_
  refine z_iadd dL_law_1019 ?_
  obtain ⟨q5, q6, h⟩ := h
  refine z_sld dL_law_1020 q5 q6 ?_
  refine m_callV (as := [aI ((g_xs w (nm (x3 + 1)).toNat).toInt)]) dL_law_1021 lk_L_130 mok_X11_lose in_X11_lose sl_X11_lose kt_228 rfl rfl rfl (Nat.le_of_ble_eq_true rfl) rfl (Nat.le_of_ble_eq_true rfl) rfl (m_mono (fun r g7 hr => ?_) h)
  obtain ⟨z8, rfl, h⟩ := hr
  show Zm w (d + 17) mL_law 1024 [some (aR (some (SC))), some (aR (some (0))), some (aR (some (228))), some (aI (x3))] [aI (z8), aI (z4)] g7 P
  refine z_icmp_eq (tgt := 1258) dL_law_1024 (by decide) (fun c9 => ?_) (fun c9 => ?_)
  · replace h := h.1 c9
    exact z_weak (by simp [lle]) h
  · replace h := h.2 c9
    refine z_iconst dL_law_1027 ?_
    exact m_zret dL_law_1028 rfl (by decide) h
set_option maxRecDepth 4000 in
theorem s_L_law_1029 {w : GX} {d : Nat} {P : PN} {g : GI} (x3 : Int)
    (h : (0 ≤ nm (x3 + 1) ∧ nm (x3 + 1) < (g_L w : Int) ∧ (0 ≤ nm (x3 + 2) ∧ nm (x3 + 2) < (g_L w : Int) ∧ (0 ≤ nm (x3 + 3) ∧ nm (x3 + 3) < (g_L w : Int) ∧ (0 ≤ nm (x3 + 4) ∧ nm (x3 + 4) < (g_L w : Int) ∧ Zm w (d + 16) mX10_lay 0 [some (aR (some (0))), some (aI ((g_xs w (nm (x3 + 1)).toNat).toInt)), some (aI ((g_xs w (nm (x3 + 2)).toNat).toInt)), some (aI ((g_xs w (nm (x3 + 3)).toNat).toInt)), some (aI ((g_xs w (nm (x3 + 4)).toNat).toInt)), none] [] g (fun r g9 => ∃ z10 : Int, r = some (aI z10) ∧ (0 ≤ nm (x3 + 1) ∧ nm (x3 + 1) < (g_L w : Int) ∧ (0 ≤ nm (x3 + 2) ∧ nm (x3 + 2) < (g_L w : Int) ∧ (0 ≤ nm (x3 + 3) ∧ nm (x3 + 3) < (g_L w : Int) ∧ (0 ≤ nm (x3 + 4) ∧ nm (x3 + 4) < (g_L w : Int) ∧ Zm w (d + 16) mX11_lay 0 [some (aR (some (228))), some (aI ((g_xs w (nm (x3 + 1)).toNat).toInt)), some (aI ((g_xs w (nm (x3 + 2)).toNat).toInt)), some (aI ((g_xs w (nm (x3 + 3)).toNat).toInt)), some (aI ((g_xs w (nm (x3 + 4)).toNat).toInt)), none] [] g9 (fun r g19 => ∃ z20 : Int, r = some (aI z20) ∧ ((nm z10 = nm z20 → Zm w (d + 17) mL_law 1258 [some (aR (some (SC))), some (aR (some (0))), some (aR (some (228))), some (aI (x3))] [] g19 P) ∧ (¬ nm z10 = nm z20 → P (some (aI (0))) g19))))))))))))) :
    Zm w (d + 17) mL_law 1029 [some (aR (some (SC))), some (aR (some (0))), some (aR (some (228))), some (aI (x3))] [] g P := by
  refine z_aload_n dL_law_1029 rfl rfl ?_
  refine z_aload_n dL_law_1030 rfl rfl ?_
  refine z_iload_n dL_law_1031 rfl rfl ?_
  refine z_iconst dL_law_1032 ?_
  refine z_iadd dL_law_1033 ?_
  obtain ⟨q1, q2, h⟩ := h
  refine z_sld dL_law_1034 q1 q2 ?_
  refine z_aload_n dL_law_1035 rfl rfl ?_
  refine z_iload_n dL_law_1036 rfl rfl ?_
  refine z_iconst dL_law_1037 ?_
  refine z_iadd dL_law_1038 ?_
  obtain ⟨q3, q4, h⟩ := h
  refine z_sld dL_law_1039 q3 q4 ?_
  refine z_aload_n dL_law_1040 rfl rfl ?_
  refine z_iload_n dL_law_1041 rfl rfl ?_
  refine z_iconst dL_law_1042 ?_
  refine z_iadd dL_law_1043 ?_
  obtain ⟨q5, q6, h⟩ := h
  refine z_sld dL_law_1044 q5 q6 ?_
  refine z_aload_n dL_law_1045 rfl rfl ?_
  refine z_iload_n dL_law_1046 rfl rfl ?_
  refine z_iconst dL_law_1047 ?_
  refine z_iadd dL_law_1048 ?_
  obtain ⟨q7, q8, h⟩ := h
  refine z_sld dL_law_1049 q7 q8 ?_
  refine m_callV (as := [aI ((g_xs w (nm (x3 + 1)).toNat).toInt), aI ((g_xs w (nm (x3 + 2)).toNat).toInt), aI ((g_xs w (nm (x3 + 3)).toNat).toInt), aI ((g_xs w (nm (x3 + 4)).toNat).toInt)]) dL_law_1050 lk_L_131 mok_X10_lay in_X10_lay sl_X10_lay kt_0 rfl rfl rfl (Nat.le_of_ble_eq_true rfl) rfl (Nat.le_of_ble_eq_true rfl) rfl (m_mono (fun r g9 hr => ?_) h)
  obtain ⟨z10, rfl, h⟩ := hr
  show Zm w (d + 17) mL_law 1053 [some (aR (some (SC))), some (aR (some (0))), some (aR (some (228))), some (aI (x3))] [aI (z10)] g9 P
  refine z_aload_n dL_law_1053 rfl rfl ?_
  refine z_aload_n dL_law_1054 rfl rfl ?_
  refine z_iload_n dL_law_1055 rfl rfl ?_
  refine z_iconst dL_law_1056 ?_
  refine z_iadd dL_law_1057 ?_
  obtain ⟨q11, q12, h⟩ := h
  refine z_sld dL_law_1058 q11 q12 ?_
  refine z_aload_n dL_law_1059 rfl rfl ?_
  refine z_iload_n dL_law_1060 rfl rfl ?_
  refine z_iconst dL_law_1061 ?_
  refine z_iadd dL_law_1062 ?_
  obtain ⟨q13, q14, h⟩ := h
  refine z_sld dL_law_1063 q13 q14 ?_
  refine z_aload_n dL_law_1064 rfl rfl ?_
  refine z_iload_n dL_law_1065 rfl rfl ?_
  refine z_iconst dL_law_1066 ?_
  refine z_iadd dL_law_1067 ?_
  obtain ⟨q15, q16, h⟩ := h
  refine z_sld dL_law_1068 q15 q16 ?_
  refine z_aload_n dL_law_1069 rfl rfl ?_
  refine z_iload_n dL_law_1070 rfl rfl ?_
  refine z_iconst dL_law_1071 ?_
  refine z_iadd dL_law_1072 ?_
  obtain ⟨q17, q18, h⟩ := h
  refine z_sld dL_law_1073 q17 q18 ?_
  refine m_callV (as := [aI ((g_xs w (nm (x3 + 1)).toNat).toInt), aI ((g_xs w (nm (x3 + 2)).toNat).toInt), aI ((g_xs w (nm (x3 + 3)).toNat).toInt), aI ((g_xs w (nm (x3 + 4)).toNat).toInt)]) dL_law_1074 lk_L_134 mok_X11_lay in_X11_lay sl_X11_lay kt_228 rfl rfl rfl (Nat.le_of_ble_eq_true rfl) rfl (Nat.le_of_ble_eq_true rfl) rfl (m_mono (fun r g19 hr => ?_) h)
  obtain ⟨z20, rfl, h⟩ := hr
  show Zm w (d + 17) mL_law 1077 [some (aR (some (SC))), some (aR (some (0))), some (aR (some (228))), some (aI (x3))] [aI (z20), aI (z10)] g19 P
  refine z_icmp_eq (tgt := 1258) dL_law_1077 (by decide) (fun c21 => ?_) (fun c21 => ?_)
  · replace h := h.1 c21
    exact z_weak (by simp [lle]) h
  · replace h := h.2 c21
    refine z_iconst dL_law_1080 ?_
    exact m_zret dL_law_1081 rfl (by decide) h
set_option maxRecDepth 4000 in
theorem s_L_law_1082 {w : GX} {d : Nat} {P : PN} {g : GI} (x3 : Int)
    (h : (0 ≤ nm (x3 + 1) ∧ nm (x3 + 1) < (g_L w : Int) ∧ (0 ≤ nm (x3 + 2) ∧ nm (x3 + 2) < (g_L w : Int) ∧ (0 ≤ nm (x3 + 3) ∧ nm (x3 + 3) < (g_L w : Int) ∧ Zm w (d + 16) mX10_get 0 [some (aR (some (0))), some (aI ((g_xs w (nm (x3 + 1)).toNat).toInt)), some (aI ((g_xs w (nm (x3 + 2)).toNat).toInt)), some (aI ((g_xs w (nm (x3 + 3)).toNat).toInt))] [] g (fun r g7 => ∃ z8 : Int, r = some (aI z8) ∧ (0 ≤ nm (x3 + 1) ∧ nm (x3 + 1) < (g_L w : Int) ∧ (0 ≤ nm (x3 + 2) ∧ nm (x3 + 2) < (g_L w : Int) ∧ (0 ≤ nm (x3 + 3) ∧ nm (x3 + 3) < (g_L w : Int) ∧ Zm w (d + 16) mX11_get 0 [some (aR (some (228))), some (aI ((g_xs w (nm (x3 + 1)).toNat).toInt)), some (aI ((g_xs w (nm (x3 + 2)).toNat).toInt)), some (aI ((g_xs w (nm (x3 + 3)).toNat).toInt))] [] g7 (fun r g15 => ∃ z16 : Int, r = some (aI z16) ∧ ((nm z8 = nm z16 → Zm w (d + 17) mL_law 1258 [some (aR (some (SC))), some (aR (some (0))), some (aR (some (228))), some (aI (x3))] [] g15 P) ∧ (¬ nm z8 = nm z16 → P (some (aI (0))) g15))))))))))) :
    Zm w (d + 17) mL_law 1082 [some (aR (some (SC))), some (aR (some (0))), some (aR (some (228))), some (aI (x3))] [] g P := by
  refine z_aload_n dL_law_1082 rfl rfl ?_
  refine z_aload_n dL_law_1083 rfl rfl ?_
  refine z_iload_n dL_law_1084 rfl rfl ?_
  refine z_iconst dL_law_1085 ?_
  refine z_iadd dL_law_1086 ?_
  obtain ⟨q1, q2, h⟩ := h
  refine z_sld dL_law_1087 q1 q2 ?_
  refine z_aload_n dL_law_1088 rfl rfl ?_
  refine z_iload_n dL_law_1089 rfl rfl ?_
  refine z_iconst dL_law_1090 ?_
  refine z_iadd dL_law_1091 ?_
  obtain ⟨q3, q4, h⟩ := h
  refine z_sld dL_law_1092 q3 q4 ?_
  refine z_aload_n dL_law_1093 rfl rfl ?_
  refine z_iload_n dL_law_1094 rfl rfl ?_
  refine z_iconst dL_law_1095 ?_
  refine z_iadd dL_law_1096 ?_
  obtain ⟨q5, q6, h⟩ := h
  refine z_sld dL_law_1097 q5 q6 ?_
  refine m_callV (as := [aI ((g_xs w (nm (x3 + 1)).toNat).toInt), aI ((g_xs w (nm (x3 + 2)).toNat).toInt), aI ((g_xs w (nm (x3 + 3)).toNat).toInt)]) dL_law_1098 lk_L_135 mok_X10_get in_X10_get sl_X10_get kt_0 rfl rfl rfl (Nat.le_of_ble_eq_true rfl) rfl (Nat.le_of_ble_eq_true rfl) rfl (m_mono (fun r g7 hr => ?_) h)
  obtain ⟨z8, rfl, h⟩ := hr
  show Zm w (d + 17) mL_law 1101 [some (aR (some (SC))), some (aR (some (0))), some (aR (some (228))), some (aI (x3))] [aI (z8)] g7 P
  refine z_aload_n dL_law_1101 rfl rfl ?_
  refine z_aload_n dL_law_1102 rfl rfl ?_
  refine z_iload_n dL_law_1103 rfl rfl ?_
  refine z_iconst dL_law_1104 ?_
  refine z_iadd dL_law_1105 ?_
  obtain ⟨q9, q10, h⟩ := h
  refine z_sld dL_law_1106 q9 q10 ?_
  refine z_aload_n dL_law_1107 rfl rfl ?_
  refine z_iload_n dL_law_1108 rfl rfl ?_
  refine z_iconst dL_law_1109 ?_
  refine z_iadd dL_law_1110 ?_
  obtain ⟨q11, q12, h⟩ := h
  refine z_sld dL_law_1111 q11 q12 ?_
  refine z_aload_n dL_law_1112 rfl rfl ?_
  refine z_iload_n dL_law_1113 rfl rfl ?_
  refine z_iconst dL_law_1114 ?_
  refine z_iadd dL_law_1115 ?_
  obtain ⟨q13, q14, h⟩ := h
  refine z_sld dL_law_1116 q13 q14 ?_
  refine m_callV (as := [aI ((g_xs w (nm (x3 + 1)).toNat).toInt), aI ((g_xs w (nm (x3 + 2)).toNat).toInt), aI ((g_xs w (nm (x3 + 3)).toNat).toInt)]) dL_law_1117 lk_L_138 mok_X11_get in_X11_get sl_X11_get kt_228 rfl rfl rfl (Nat.le_of_ble_eq_true rfl) rfl (Nat.le_of_ble_eq_true rfl) rfl (m_mono (fun r g15 hr => ?_) h)
  obtain ⟨z16, rfl, h⟩ := hr
  show Zm w (d + 17) mL_law 1120 [some (aR (some (SC))), some (aR (some (0))), some (aR (some (228))), some (aI (x3))] [aI (z16), aI (z8)] g15 P
  refine z_icmp_eq (tgt := 1258) dL_law_1120 (by decide) (fun c17 => ?_) (fun c17 => ?_)
  · replace h := h.1 c17
    exact z_weak (by simp [lle]) h
  · replace h := h.2 c17
    refine z_iconst dL_law_1123 ?_
    exact m_zret dL_law_1124 rfl (by decide) h
set_option maxRecDepth 4000 in
theorem s_L_law_1125 {w : GX} {d : Nat} {P : PN} {g : GI} (x3 : Int)
    (h : (0 ≤ nm (x3 + 1) ∧ nm (x3 + 1) < (g_L w : Int) ∧ (0 ≤ nm (x3 + 2) ∧ nm (x3 + 2) < (g_L w : Int) ∧ (0 ≤ nm (x3 + 3) ∧ nm (x3 + 3) < (g_L w : Int) ∧ (0 ≤ nm (x3 + 4) ∧ nm (x3 + 4) < (g_L w : Int) ∧ (0 ≤ nm (x3 + 5) ∧ nm (x3 + 5) < (g_L w : Int) ∧ Zm w (d + 16) mX10_copy 0 [some (aR (some (0))), some (aI ((g_xs w (nm (x3 + 1)).toNat).toInt)), some (aI ((g_xs w (nm (x3 + 2)).toNat).toInt)), some (aI ((g_xs w (nm (x3 + 3)).toNat).toInt)), some (aI ((g_xs w (nm (x3 + 4)).toNat).toInt)), some (aI ((g_xs w (nm (x3 + 5)).toNat).toInt)), none, none] [] g (fun r g11 => ∃ z12 : Int, r = some (aI z12) ∧ (0 ≤ nm (x3 + 1) ∧ nm (x3 + 1) < (g_L w : Int) ∧ (0 ≤ nm (x3 + 2) ∧ nm (x3 + 2) < (g_L w : Int) ∧ (0 ≤ nm (x3 + 3) ∧ nm (x3 + 3) < (g_L w : Int) ∧ (0 ≤ nm (x3 + 4) ∧ nm (x3 + 4) < (g_L w : Int) ∧ (0 ≤ nm (x3 + 5) ∧ nm (x3 + 5) < (g_L w : Int) ∧ Zm w (d + 16) mX11_copy 0 [some (aR (some (228))), some (aI ((g_xs w (nm (x3 + 1)).toNat).toInt)), some (aI ((g_xs w (nm (x3 + 2)).toNat).toInt)), some (aI ((g_xs w (nm (x3 + 3)).toNat).toInt)), some (aI ((g_xs w (nm (x3 + 4)).toNat).toInt)), some (aI ((g_xs w (nm (x3 + 5)).toNat).toInt)), none] [] g11 (fun r g23 => ∃ z24 : Int, r = some (aI z24) ∧ ((nm z12 = nm z24 → Zm w (d + 17) mL_law 1258 [some (aR (some (SC))), some (aR (some (0))), some (aR (some (228))), some (aI (x3))] [] g23 P) ∧ (¬ nm z12 = nm z24 → P (some (aI (0))) g23))))))))))))))) :
    Zm w (d + 17) mL_law 1125 [some (aR (some (SC))), some (aR (some (0))), some (aR (some (228))), some (aI (x3))] [] g P := by
  refine z_aload_n dL_law_1125 rfl rfl ?_
  refine z_aload_n dL_law_1126 rfl rfl ?_
  refine z_iload_n dL_law_1127 rfl rfl ?_
  refine z_iconst dL_law_1128 ?_
  refine z_iadd dL_law_1129 ?_
  obtain ⟨q1, q2, h⟩ := h
  refine z_sld dL_law_1130 q1 q2 ?_
  refine z_aload_n dL_law_1131 rfl rfl ?_
  refine z_iload_n dL_law_1132 rfl rfl ?_
  refine z_iconst dL_law_1133 ?_
  refine z_iadd dL_law_1134 ?_
  obtain ⟨q3, q4, h⟩ := h
  refine z_sld dL_law_1135 q3 q4 ?_
  refine z_aload_n dL_law_1136 rfl rfl ?_
  refine z_iload_n dL_law_1137 rfl rfl ?_
  refine z_iconst dL_law_1138 ?_
  refine z_iadd dL_law_1139 ?_
  obtain ⟨q5, q6, h⟩ := h
  refine z_sld dL_law_1140 q5 q6 ?_
  refine z_aload_n dL_law_1141 rfl rfl ?_
  refine z_iload_n dL_law_1142 rfl rfl ?_
  refine z_iconst dL_law_1143 ?_
  refine z_iadd dL_law_1144 ?_
  obtain ⟨q7, q8, h⟩ := h
  refine z_sld dL_law_1145 q7 q8 ?_
  refine z_aload_n dL_law_1146 rfl rfl ?_
  refine z_iload_n dL_law_1147 rfl rfl ?_
  refine z_iconst dL_law_1148 ?_
  refine z_iadd dL_law_1149 ?_
  obtain ⟨q9, q10, h⟩ := h
  refine z_sld dL_law_1150 q9 q10 ?_
  refine m_callV (as := [aI ((g_xs w (nm (x3 + 1)).toNat).toInt), aI ((g_xs w (nm (x3 + 2)).toNat).toInt), aI ((g_xs w (nm (x3 + 3)).toNat).toInt), aI ((g_xs w (nm (x3 + 4)).toNat).toInt), aI ((g_xs w (nm (x3 + 5)).toNat).toInt)]) dL_law_1151 lk_L_139 mok_X10_copy in_X10_copy sl_X10_copy kt_0 rfl rfl rfl (Nat.le_of_ble_eq_true rfl) rfl (Nat.le_of_ble_eq_true rfl) rfl (m_mono (fun r g11 hr => ?_) h)
  obtain ⟨z12, rfl, h⟩ := hr
  show Zm w (d + 17) mL_law 1154 [some (aR (some (SC))), some (aR (some (0))), some (aR (some (228))), some (aI (x3))] [aI (z12)] g11 P
  refine z_aload_n dL_law_1154 rfl rfl ?_
  refine z_aload_n dL_law_1155 rfl rfl ?_
  refine z_iload_n dL_law_1156 rfl rfl ?_
  refine z_iconst dL_law_1157 ?_
  refine z_iadd dL_law_1158 ?_
  obtain ⟨q13, q14, h⟩ := h
  refine z_sld dL_law_1159 q13 q14 ?_
  refine z_aload_n dL_law_1160 rfl rfl ?_
  refine z_iload_n dL_law_1161 rfl rfl ?_
  refine z_iconst dL_law_1162 ?_
  refine z_iadd dL_law_1163 ?_
  obtain ⟨q15, q16, h⟩ := h
  refine z_sld dL_law_1164 q15 q16 ?_
  refine z_aload_n dL_law_1165 rfl rfl ?_
  refine z_iload_n dL_law_1166 rfl rfl ?_
  refine z_iconst dL_law_1167 ?_
  refine z_iadd dL_law_1168 ?_
  obtain ⟨q17, q18, h⟩ := h
  refine z_sld dL_law_1169 q17 q18 ?_
  refine z_aload_n dL_law_1170 rfl rfl ?_
  refine z_iload_n dL_law_1171 rfl rfl ?_
  refine z_iconst dL_law_1172 ?_
  refine z_iadd dL_law_1173 ?_
  obtain ⟨q19, q20, h⟩ := h
  refine z_sld dL_law_1174 q19 q20 ?_
  refine z_aload_n dL_law_1175 rfl rfl ?_
  refine z_iload_n dL_law_1176 rfl rfl ?_
  refine z_iconst dL_law_1177 ?_
  refine z_iadd dL_law_1178 ?_
  obtain ⟨q21, q22, h⟩ := h
  refine z_sld dL_law_1179 q21 q22 ?_
  refine m_callV (as := [aI ((g_xs w (nm (x3 + 1)).toNat).toInt), aI ((g_xs w (nm (x3 + 2)).toNat).toInt), aI ((g_xs w (nm (x3 + 3)).toNat).toInt), aI ((g_xs w (nm (x3 + 4)).toNat).toInt), aI ((g_xs w (nm (x3 + 5)).toNat).toInt)]) dL_law_1180 lk_L_143 mok_X11_copy in_X11_copy sl_X11_copy kt_228 rfl rfl rfl (Nat.le_of_ble_eq_true rfl) rfl (Nat.le_of_ble_eq_true rfl) rfl (m_mono (fun r g23 hr => ?_) h)
  obtain ⟨z24, rfl, h⟩ := hr
  show Zm w (d + 17) mL_law 1183 [some (aR (some (SC))), some (aR (some (0))), some (aR (some (228))), some (aI (x3))] [aI (z24), aI (z12)] g23 P
  refine z_icmp_eq (tgt := 1258) dL_law_1183 (by decide) (fun c25 => ?_) (fun c25 => ?_)
  · replace h := h.1 c25
    exact z_weak (by simp [lle]) h
  · replace h := h.2 c25
    refine z_iconst dL_law_1186 ?_
    exact m_zret dL_law_1187 rfl (by decide) h
set_option maxRecDepth 4000 in
theorem s_L_law_1188 {w : GX} {d : Nat} {P : PN} {g : GI} (x3 : Int)
    (h : (0 ≤ nm (x3 + 1) ∧ nm (x3 + 1) < (g_L w : Int) ∧ (0 ≤ nm (x3 + 2) ∧ nm (x3 + 2) < (g_L w : Int) ∧ Zm w (d + 16) mX10_write 0 [some (aR (some (0))), some (aI ((g_xs w (nm (x3 + 1)).toNat).toInt)), some (aI ((g_xs w (nm (x3 + 2)).toNat).toInt)), none, none] [] g (fun r g5 => ∃ z6 : Int, r = some (aI z6) ∧ (0 ≤ nm (x3 + 1) ∧ nm (x3 + 1) < (g_L w : Int) ∧ (0 ≤ nm (x3 + 2) ∧ nm (x3 + 2) < (g_L w : Int) ∧ Zm w (d + 16) mX11_write 0 [some (aR (some (228))), some (aI ((g_xs w (nm (x3 + 1)).toNat).toInt)), some (aI ((g_xs w (nm (x3 + 2)).toNat).toInt)), none, none] [] g5 (fun r g11 => ∃ z12 : Int, r = some (aI z12) ∧ ((nm z6 = nm z12 → Zm w (d + 17) mL_law 1258 [some (aR (some (SC))), some (aR (some (0))), some (aR (some (228))), some (aI (x3))] [] g11 P) ∧ (¬ nm z6 = nm z12 → P (some (aI (0))) g11))))))))) :
    Zm w (d + 17) mL_law 1188 [some (aR (some (SC))), some (aR (some (0))), some (aR (some (228))), some (aI (x3))] [] g P := by
  refine z_aload_n dL_law_1188 rfl rfl ?_
  refine z_aload_n dL_law_1189 rfl rfl ?_
  refine z_iload_n dL_law_1190 rfl rfl ?_
  refine z_iconst dL_law_1191 ?_
  refine z_iadd dL_law_1192 ?_
  obtain ⟨q1, q2, h⟩ := h
  refine z_sld dL_law_1193 q1 q2 ?_
  refine z_aload_n dL_law_1194 rfl rfl ?_
  refine z_iload_n dL_law_1195 rfl rfl ?_
  refine z_iconst dL_law_1196 ?_
  refine z_iadd dL_law_1197 ?_
  obtain ⟨q3, q4, h⟩ := h
  refine z_sld dL_law_1198 q3 q4 ?_
  refine m_callV (as := [aI ((g_xs w (nm (x3 + 1)).toNat).toInt), aI ((g_xs w (nm (x3 + 2)).toNat).toInt)]) dL_law_1199 lk_L_144 mok_X10_write in_X10_write sl_X10_write kt_0 rfl rfl rfl (Nat.le_of_ble_eq_true rfl) rfl (Nat.le_of_ble_eq_true rfl) rfl (m_mono (fun r g5 hr => ?_) h)
  obtain ⟨z6, rfl, h⟩ := hr
  show Zm w (d + 17) mL_law 1202 [some (aR (some (SC))), some (aR (some (0))), some (aR (some (228))), some (aI (x3))] [aI (z6)] g5 P
  refine z_aload_n dL_law_1202 rfl rfl ?_
  refine z_aload_n dL_law_1203 rfl rfl ?_
  refine z_iload_n dL_law_1204 rfl rfl ?_
  refine z_iconst dL_law_1205 ?_
  refine z_iadd dL_law_1206 ?_
  obtain ⟨q7, q8, h⟩ := h
  refine z_sld dL_law_1207 q7 q8 ?_
  refine z_aload_n dL_law_1208 rfl rfl ?_
  refine z_iload_n dL_law_1209 rfl rfl ?_
  refine z_iconst dL_law_1210 ?_
  refine z_iadd dL_law_1211 ?_
  obtain ⟨q9, q10, h⟩ := h
  refine z_sld dL_law_1212 q9 q10 ?_
  refine m_callV (as := [aI ((g_xs w (nm (x3 + 1)).toNat).toInt), aI ((g_xs w (nm (x3 + 2)).toNat).toInt)]) dL_law_1213 lk_L_147 mok_X11_write in_X11_write sl_X11_write kt_228 rfl rfl rfl (Nat.le_of_ble_eq_true rfl) rfl (Nat.le_of_ble_eq_true rfl) rfl (m_mono (fun r g11 hr => ?_) h)
  obtain ⟨z12, rfl, h⟩ := hr
  show Zm w (d + 17) mL_law 1216 [some (aR (some (SC))), some (aR (some (0))), some (aR (some (228))), some (aI (x3))] [aI (z12), aI (z6)] g11 P
  refine z_icmp_eq (tgt := 1258) dL_law_1216 (by decide) (fun c13 => ?_) (fun c13 => ?_)
  · replace h := h.1 c13
    exact z_weak (by simp [lle]) h
  · replace h := h.2 c13
    refine z_iconst dL_law_1219 ?_
    exact m_zret dL_law_1220 rfl (by decide) h
set_option maxRecDepth 4000 in
theorem s_L_law_1221 {w : GX} {d : Nat} {P : PN} {g : GI} (x3 : Int)
    (h : (0 ≤ nm (x3 + 1) ∧ nm (x3 + 1) < (g_L w : Int) ∧ Zm w (d + 16) mX10_count 0 [some (aR (some (0))), some (aI ((g_xs w (nm (x3 + 1)).toNat).toInt))] [] g (fun r g3 => ∃ z4 : Int, r = some (aI z4) ∧ (0 ≤ nm (x3 + 1) ∧ nm (x3 + 1) < (g_L w : Int) ∧ Zm w (d + 16) mX11_count 0 [some (aR (some (228))), some (aI ((g_xs w (nm (x3 + 1)).toNat).toInt))] [] g3 (fun r g7 => ∃ z8 : Int, r = some (aI z8) ∧ ((nm z4 = nm z8 → Zm w (d + 17) mL_law 1258 [some (aR (some (SC))), some (aR (some (0))), some (aR (some (228))), some (aI (x3))] [] g7 P) ∧ (¬ nm z4 = nm z8 → P (some (aI (0))) g7))))))) :
    Zm w (d + 17) mL_law 1221 [some (aR (some (SC))), some (aR (some (0))), some (aR (some (228))), some (aI (x3))] [] g P := by
  refine z_aload_n dL_law_1221 rfl rfl ?_
  refine z_aload_n dL_law_1222 rfl rfl ?_
  refine z_iload_n dL_law_1223 rfl rfl ?_
  refine z_iconst dL_law_1224 ?_
  refine z_iadd dL_law_1225 ?_
  obtain ⟨q1, q2, h⟩ := h
  refine z_sld dL_law_1226 q1 q2 ?_
  refine m_callV (as := [aI ((g_xs w (nm (x3 + 1)).toNat).toInt)]) dL_law_1227 lk_L_148 mok_X10_count in_X10_count sl_X10_count kt_0 rfl rfl rfl (Nat.le_of_ble_eq_true rfl) rfl (Nat.le_of_ble_eq_true rfl) rfl (m_mono (fun r g3 hr => ?_) h)
  obtain ⟨z4, rfl, h⟩ := hr
  show Zm w (d + 17) mL_law 1230 [some (aR (some (SC))), some (aR (some (0))), some (aR (some (228))), some (aI (x3))] [aI (z4)] g3 P
  refine z_aload_n dL_law_1230 rfl rfl ?_
  refine z_aload_n dL_law_1231 rfl rfl ?_
  refine z_iload_n dL_law_1232 rfl rfl ?_
  refine z_iconst dL_law_1233 ?_
  refine z_iadd dL_law_1234 ?_
  obtain ⟨q5, q6, h⟩ := h
  refine z_sld dL_law_1235 q5 q6 ?_
  refine m_callV (as := [aI ((g_xs w (nm (x3 + 1)).toNat).toInt)]) dL_law_1236 lk_L_151 mok_X11_count in_X11_count sl_X11_count kt_228 rfl rfl rfl (Nat.le_of_ble_eq_true rfl) rfl (Nat.le_of_ble_eq_true rfl) rfl (m_mono (fun r g7 hr => ?_) h)
  obtain ⟨z8, rfl, h⟩ := hr
  show Zm w (d + 17) mL_law 1239 [some (aR (some (SC))), some (aR (some (0))), some (aR (some (228))), some (aI (x3))] [aI (z8), aI (z4)] g7 P
  refine z_icmp_eq (tgt := 1258) dL_law_1239 (by decide) (fun c9 => ?_) (fun c9 => ?_)
  · replace h := h.1 c9
    exact z_weak (by simp [lle]) h
  · replace h := h.2 c9
    refine z_iconst dL_law_1242 ?_
    exact m_zret dL_law_1243 rfl (by decide) h
set_option maxRecDepth 4000 in
theorem s_L_law_1244 {w : GX} {d : Nat} {P : PN} {g : GI} (x3 : Int)
    (h : Zm w (d + 16) mX10_digest 0 [some (aR (some (0))), none, none, none, none, none] [] g (fun r g1 => ∃ z2 : Int, r = some (aL z2) ∧ Zm w (d + 16) mX11_digest 0 [some (aR (some (228))), none, none, none, none] [] g1 (fun r g3 => ∃ z4 : Int, r = some (aL z4) ∧ ((nm (lCmp z2 z4) = 0 → Zm w (d + 17) mL_law 1258 [some (aR (some (SC))), some (aR (some (0))), some (aR (some (228))), some (aI (x3))] [] g3 P) ∧ (¬ nm (lCmp z2 z4) = 0 → P (some (aI (0))) g3))))) :
    Zm w (d + 17) mL_law 1244 [some (aR (some (SC))), some (aR (some (0))), some (aR (some (228))), some (aI (x3))] [] g P := by
  refine z_aload_n dL_law_1244 rfl rfl ?_
  refine m_callV (as := []) dL_law_1245 lk_L_152 mok_X10_digest in_X10_digest sl_X10_digest kt_0 rfl rfl rfl (Nat.le_of_ble_eq_true rfl) rfl (Nat.le_of_ble_eq_true rfl) rfl (m_mono (fun r g1 hr => ?_) h)
  obtain ⟨z2, rfl, h⟩ := hr
  show Zm w (d + 17) mL_law 1248 [some (aR (some (SC))), some (aR (some (0))), some (aR (some (228))), some (aI (x3))] [aL (z2)] g1 P
  refine z_aload_n dL_law_1248 rfl rfl ?_
  refine m_callV (as := []) dL_law_1249 lk_L_156 mok_X11_digest in_X11_digest sl_X11_digest kt_228 rfl rfl rfl (Nat.le_of_ble_eq_true rfl) rfl (Nat.le_of_ble_eq_true rfl) rfl (m_mono (fun r g3 hr => ?_) h)
  obtain ⟨z4, rfl, h⟩ := hr
  show Zm w (d + 17) mL_law 1252 [some (aR (some (SC))), some (aR (some (0))), some (aR (some (228))), some (aI (x3))] [aL (z4), aL (z2)] g3 P
  refine z_lcmp dL_law_1252 ?_
  refine z_if_eq (tgt := 1258) dL_law_1253 (by decide) (fun c5 => ?_) (fun c5 => ?_)
  · replace h := h.1 c5
    exact z_weak (by simp [lle]) h
  · replace h := h.2 c5
    refine z_iconst dL_law_1256 ?_
    exact m_zret dL_law_1257 rfl (by decide) h
set_option maxRecDepth 4000 in
theorem s_L_law_1258 {w : GX} {d : Nat} {P : PN} {g : GI} (x3 : Int)
    (h : Zm w (d + 17) mL_law 18 [some (aR (some (SC))), some (aR (some (0))), some (aR (some (228))), some (aI (x3 + 6))] [] g P) :
    Zm w (d + 17) mL_law 1258 [some (aR (some (SC))), some (aR (some (0))), some (aR (some (228))), some (aI (x3))] [] g P := by
  refine z_iinc dL_law_1258 rfl (by decide) rfl ?_
  show Zm w (d + 17) mL_law 1261 [some (aR (some (SC))), some (aR (some (0))), some (aR (some (228))), some (aI (x3 + 6))] [] g P
  refine z_goto (tgt := 18) dL_law_1261 (by decide) ?_
  exact z_weak (by simp [lle]) h
