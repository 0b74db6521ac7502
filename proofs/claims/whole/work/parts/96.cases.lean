/-! The law, case by case: what the two systems answer alike goes on. -/
theorem dL_law_0 : decode cL_law 0 = .ok (.new 7, 3) := by decide +kernel
theorem dL_law_3 : decode cL_law 3 = .ok (.dup, 1) := by decide +kernel
theorem dL_law_4 : decode cL_law 4 = .ok (.invokespecial 9, 3) := by decide +kernel
theorem dL_law_7 : decode cL_law 7 = .ok (.astore_n 1, 1) := by decide +kernel
theorem dL_law_8 : decode cL_law 8 = .ok (.new 10, 3) := by decide +kernel
theorem dL_law_11 : decode cL_law 11 = .ok (.dup, 1) := by decide +kernel
theorem dL_law_12 : decode cL_law 12 = .ok (.invokespecial 12, 3) := by decide +kernel
theorem dL_law_15 : decode cL_law 15 = .ok (.astore_n 2, 1) := by decide +kernel
theorem dL_law_16 : decode cL_law 16 = .ok (.iconst 0, 1) := by decide +kernel
theorem dL_law_17 : decode cL_law 17 = .ok (.istore_n 3, 1) := by decide +kernel
theorem dL_law_18 : decode cL_law 18 = .ok (.iload_n 3, 1) := by decide +kernel
theorem dL_law_19 : decode cL_law 19 = .ok (.aload_n 0, 1) := by decide +kernel
theorem dL_law_20 : decode cL_law 20 = .ok (.arraylength, 1) := by decide +kernel
theorem dL_law_21 : decode cL_law 21 = .ok (.bipush 6, 2) := by decide +kernel
theorem dL_law_23 : decode cL_law 23 = .ok (.isub, 1) := by decide +kernel
theorem dL_law_24 : decode cL_law 24 = .ok (.if_icmp .gt 1155, 3) := by decide +kernel
theorem dL_law_27 : decode cL_law 27 = .ok (.aload_n 0, 1) := by decide +kernel
theorem dL_law_28 : decode cL_law 28 = .ok (.iload_n 3, 1) := by decide +kernel
theorem dL_law_29 : decode cL_law 29 = .ok (.iaload, 1) := by decide +kernel
theorem dL_law_30 : decode cL_law 30 = .ok (.bipush 63, 2) := by decide +kernel
theorem dL_law_32 : decode cL_law 32 = .ok (.iand, 1) := by decide +kernel
theorem dL_law_33 : decode cL_law 33 = .ok (.tableswitch 1140 0 32 #[147, 210, 233, 256, 299, 332, 355, 378, 401, 424, 458, 492, 526, 559, 592, 615, 649, 683, 717, 751, 785, 819, 853, 877, 911, 944, 967, 1001, 1034, 1068, 1091, 1104, 1117], 147) := by decide +kernel
theorem dL_law_180 : decode cL_law 180 = .ok (.aload_n 1, 1) := by decide +kernel
theorem dL_law_181 : decode cL_law 181 = .ok (.aload_n 0, 1) := by decide +kernel
theorem dL_law_182 : decode cL_law 182 = .ok (.iload_n 3, 1) := by decide +kernel
theorem dL_law_183 : decode cL_law 183 = .ok (.iconst 1, 1) := by decide +kernel
theorem dL_law_184 : decode cL_law 184 = .ok (.iadd, 1) := by decide +kernel
theorem dL_law_185 : decode cL_law 185 = .ok (.iaload, 1) := by decide +kernel
theorem dL_law_186 : decode cL_law 186 = .ok (.aload_n 0, 1) := by decide +kernel
theorem dL_law_187 : decode cL_law 187 = .ok (.iload_n 3, 1) := by decide +kernel
theorem dL_law_188 : decode cL_law 188 = .ok (.iconst 2, 1) := by decide +kernel
theorem dL_law_189 : decode cL_law 189 = .ok (.iadd, 1) := by decide +kernel
theorem dL_law_190 : decode cL_law 190 = .ok (.iaload, 1) := by decide +kernel
theorem dL_law_191 : decode cL_law 191 = .ok (.aload_n 0, 1) := by decide +kernel
theorem dL_law_192 : decode cL_law 192 = .ok (.iload_n 3, 1) := by decide +kernel
theorem dL_law_193 : decode cL_law 193 = .ok (.iconst 3, 1) := by decide +kernel
theorem dL_law_194 : decode cL_law 194 = .ok (.iadd, 1) := by decide +kernel
theorem dL_law_195 : decode cL_law 195 = .ok (.iaload, 1) := by decide +kernel
theorem dL_law_196 : decode cL_law 196 = .ok (.aload_n 0, 1) := by decide +kernel
theorem dL_law_197 : decode cL_law 197 = .ok (.iload_n 3, 1) := by decide +kernel
theorem dL_law_198 : decode cL_law 198 = .ok (.iconst 4, 1) := by decide +kernel
theorem dL_law_199 : decode cL_law 199 = .ok (.iadd, 1) := by decide +kernel
theorem dL_law_200 : decode cL_law 200 = .ok (.iaload, 1) := by decide +kernel
theorem dL_law_201 : decode cL_law 201 = .ok (.aload_n 0, 1) := by decide +kernel
theorem dL_law_202 : decode cL_law 202 = .ok (.iload_n 3, 1) := by decide +kernel
theorem dL_law_203 : decode cL_law 203 = .ok (.iconst 5, 1) := by decide +kernel
theorem dL_law_204 : decode cL_law 204 = .ok (.iadd, 1) := by decide +kernel
theorem dL_law_205 : decode cL_law 205 = .ok (.iaload, 1) := by decide +kernel
theorem dL_law_206 : decode cL_law 206 = .ok (.invokevirtual 13, 3) := by decide +kernel
theorem dL_law_209 : decode cL_law 209 = .ok (.aload_n 2, 1) := by decide +kernel
theorem dL_law_210 : decode cL_law 210 = .ok (.aload_n 0, 1) := by decide +kernel
theorem dL_law_211 : decode cL_law 211 = .ok (.iload_n 3, 1) := by decide +kernel
theorem dL_law_212 : decode cL_law 212 = .ok (.iconst 1, 1) := by decide +kernel
theorem dL_law_213 : decode cL_law 213 = .ok (.iadd, 1) := by decide +kernel
theorem dL_law_214 : decode cL_law 214 = .ok (.iaload, 1) := by decide +kernel
theorem dL_law_215 : decode cL_law 215 = .ok (.aload_n 0, 1) := by decide +kernel
theorem dL_law_216 : decode cL_law 216 = .ok (.iload_n 3, 1) := by decide +kernel
theorem dL_law_217 : decode cL_law 217 = .ok (.iconst 2, 1) := by decide +kernel
theorem dL_law_218 : decode cL_law 218 = .ok (.iadd, 1) := by decide +kernel
theorem dL_law_219 : decode cL_law 219 = .ok (.iaload, 1) := by decide +kernel
theorem dL_law_220 : decode cL_law 220 = .ok (.aload_n 0, 1) := by decide +kernel
theorem dL_law_221 : decode cL_law 221 = .ok (.iload_n 3, 1) := by decide +kernel
theorem dL_law_222 : decode cL_law 222 = .ok (.iconst 3, 1) := by decide +kernel
theorem dL_law_223 : decode cL_law 223 = .ok (.iadd, 1) := by decide +kernel
theorem dL_law_224 : decode cL_law 224 = .ok (.iaload, 1) := by decide +kernel
theorem dL_law_225 : decode cL_law 225 = .ok (.aload_n 0, 1) := by decide +kernel
theorem dL_law_226 : decode cL_law 226 = .ok (.iload_n 3, 1) := by decide +kernel
theorem dL_law_227 : decode cL_law 227 = .ok (.iconst 4, 1) := by decide +kernel
theorem dL_law_228 : decode cL_law 228 = .ok (.iadd, 1) := by decide +kernel
theorem dL_law_229 : decode cL_law 229 = .ok (.iaload, 1) := by decide +kernel
theorem dL_law_230 : decode cL_law 230 = .ok (.aload_n 0, 1) := by decide +kernel
theorem dL_law_231 : decode cL_law 231 = .ok (.iload_n 3, 1) := by decide +kernel
theorem dL_law_232 : decode cL_law 232 = .ok (.iconst 5, 1) := by decide +kernel
theorem dL_law_233 : decode cL_law 233 = .ok (.iadd, 1) := by decide +kernel
theorem dL_law_234 : decode cL_law 234 = .ok (.iaload, 1) := by decide +kernel
theorem dL_law_235 : decode cL_law 235 = .ok (.invokevirtual 17, 3) := by decide +kernel
theorem dL_law_238 : decode cL_law 238 = .ok (.if_icmp .eq 935, 3) := by decide +kernel
theorem dL_law_241 : decode cL_law 241 = .ok (.iconst 0, 1) := by decide +kernel
theorem dL_law_242 : decode cL_law 242 = .ok (.ireturn, 1) := by decide +kernel
theorem dL_law_243 : decode cL_law 243 = .ok (.aload_n 1, 1) := by decide +kernel
theorem dL_law_244 : decode cL_law 244 = .ok (.aload_n 0, 1) := by decide +kernel
theorem dL_law_245 : decode cL_law 245 = .ok (.iload_n 3, 1) := by decide +kernel
theorem dL_law_246 : decode cL_law 246 = .ok (.iconst 1, 1) := by decide +kernel
theorem dL_law_247 : decode cL_law 247 = .ok (.iadd, 1) := by decide +kernel
theorem dL_law_248 : decode cL_law 248 = .ok (.iaload, 1) := by decide +kernel
theorem dL_law_249 : decode cL_law 249 = .ok (.invokevirtual 18, 3) := by decide +kernel
theorem dL_law_252 : decode cL_law 252 = .ok (.aload_n 2, 1) := by decide +kernel
theorem dL_law_253 : decode cL_law 253 = .ok (.aload_n 0, 1) := by decide +kernel
theorem dL_law_254 : decode cL_law 254 = .ok (.iload_n 3, 1) := by decide +kernel
theorem dL_law_255 : decode cL_law 255 = .ok (.iconst 1, 1) := by decide +kernel
theorem dL_law_256 : decode cL_law 256 = .ok (.iadd, 1) := by decide +kernel
theorem dL_law_257 : decode cL_law 257 = .ok (.iaload, 1) := by decide +kernel
theorem dL_law_258 : decode cL_law 258 = .ok (.invokevirtual 22, 3) := by decide +kernel
theorem dL_law_261 : decode cL_law 261 = .ok (.if_icmp .eq 912, 3) := by decide +kernel
theorem dL_law_264 : decode cL_law 264 = .ok (.iconst 0, 1) := by decide +kernel
theorem dL_law_265 : decode cL_law 265 = .ok (.ireturn, 1) := by decide +kernel
theorem dL_law_266 : decode cL_law 266 = .ok (.aload_n 1, 1) := by decide +kernel
theorem dL_law_267 : decode cL_law 267 = .ok (.aload_n 0, 1) := by decide +kernel
theorem dL_law_268 : decode cL_law 268 = .ok (.iload_n 3, 1) := by decide +kernel
theorem dL_law_269 : decode cL_law 269 = .ok (.iconst 1, 1) := by decide +kernel
theorem dL_law_270 : decode cL_law 270 = .ok (.iadd, 1) := by decide +kernel
theorem dL_law_271 : decode cL_law 271 = .ok (.iaload, 1) := by decide +kernel
theorem dL_law_272 : decode cL_law 272 = .ok (.invokevirtual 23, 3) := by decide +kernel
theorem dL_law_275 : decode cL_law 275 = .ok (.aload_n 2, 1) := by decide +kernel
theorem dL_law_276 : decode cL_law 276 = .ok (.aload_n 0, 1) := by decide +kernel
theorem dL_law_277 : decode cL_law 277 = .ok (.iload_n 3, 1) := by decide +kernel
theorem dL_law_278 : decode cL_law 278 = .ok (.iconst 1, 1) := by decide +kernel
theorem dL_law_279 : decode cL_law 279 = .ok (.iadd, 1) := by decide +kernel
theorem dL_law_280 : decode cL_law 280 = .ok (.iaload, 1) := by decide +kernel
theorem dL_law_281 : decode cL_law 281 = .ok (.invokevirtual 26, 3) := by decide +kernel
theorem dL_law_284 : decode cL_law 284 = .ok (.if_icmp .eq 889, 3) := by decide +kernel
theorem dL_law_287 : decode cL_law 287 = .ok (.iconst 0, 1) := by decide +kernel
theorem dL_law_288 : decode cL_law 288 = .ok (.ireturn, 1) := by decide +kernel
theorem dL_law_289 : decode cL_law 289 = .ok (.aload_n 1, 1) := by decide +kernel
theorem dL_law_290 : decode cL_law 290 = .ok (.aload_n 0, 1) := by decide +kernel
theorem dL_law_291 : decode cL_law 291 = .ok (.iload_n 3, 1) := by decide +kernel
theorem dL_law_292 : decode cL_law 292 = .ok (.iconst 1, 1) := by decide +kernel
theorem dL_law_293 : decode cL_law 293 = .ok (.iadd, 1) := by decide +kernel
theorem dL_law_294 : decode cL_law 294 = .ok (.iaload, 1) := by decide +kernel
theorem dL_law_295 : decode cL_law 295 = .ok (.aload_n 0, 1) := by decide +kernel
theorem dL_law_296 : decode cL_law 296 = .ok (.iload_n 3, 1) := by decide +kernel
theorem dL_law_297 : decode cL_law 297 = .ok (.iconst 2, 1) := by decide +kernel
theorem dL_law_298 : decode cL_law 298 = .ok (.iadd, 1) := by decide +kernel
theorem dL_law_299 : decode cL_law 299 = .ok (.iaload, 1) := by decide +kernel
theorem dL_law_300 : decode cL_law 300 = .ok (.aload_n 0, 1) := by decide +kernel
theorem dL_law_301 : decode cL_law 301 = .ok (.iload_n 3, 1) := by decide +kernel
theorem dL_law_302 : decode cL_law 302 = .ok (.iconst 3, 1) := by decide +kernel
theorem dL_law_303 : decode cL_law 303 = .ok (.iadd, 1) := by decide +kernel
theorem dL_law_304 : decode cL_law 304 = .ok (.iaload, 1) := by decide +kernel
theorem dL_law_305 : decode cL_law 305 = .ok (.invokevirtual 27, 3) := by decide +kernel
theorem dL_law_308 : decode cL_law 308 = .ok (.aload_n 2, 1) := by decide +kernel
theorem dL_law_309 : decode cL_law 309 = .ok (.aload_n 0, 1) := by decide +kernel
theorem dL_law_310 : decode cL_law 310 = .ok (.iload_n 3, 1) := by decide +kernel
theorem dL_law_311 : decode cL_law 311 = .ok (.iconst 1, 1) := by decide +kernel
theorem dL_law_312 : decode cL_law 312 = .ok (.iadd, 1) := by decide +kernel
theorem dL_law_313 : decode cL_law 313 = .ok (.iaload, 1) := by decide +kernel
theorem dL_law_314 : decode cL_law 314 = .ok (.aload_n 0, 1) := by decide +kernel
theorem dL_law_315 : decode cL_law 315 = .ok (.iload_n 3, 1) := by decide +kernel
theorem dL_law_316 : decode cL_law 316 = .ok (.iconst 2, 1) := by decide +kernel
theorem dL_law_317 : decode cL_law 317 = .ok (.iadd, 1) := by decide +kernel
theorem dL_law_318 : decode cL_law 318 = .ok (.iaload, 1) := by decide +kernel
theorem dL_law_319 : decode cL_law 319 = .ok (.aload_n 0, 1) := by decide +kernel
theorem dL_law_320 : decode cL_law 320 = .ok (.iload_n 3, 1) := by decide +kernel
theorem dL_law_321 : decode cL_law 321 = .ok (.iconst 3, 1) := by decide +kernel
theorem dL_law_322 : decode cL_law 322 = .ok (.iadd, 1) := by decide +kernel
theorem dL_law_323 : decode cL_law 323 = .ok (.iaload, 1) := by decide +kernel
theorem dL_law_324 : decode cL_law 324 = .ok (.invokevirtual 31, 3) := by decide +kernel
theorem dL_law_327 : decode cL_law 327 = .ok (.if_icmp .eq 846, 3) := by decide +kernel
theorem dL_law_330 : decode cL_law 330 = .ok (.iconst 0, 1) := by decide +kernel
theorem dL_law_331 : decode cL_law 331 = .ok (.ireturn, 1) := by decide +kernel
theorem dL_law_332 : decode cL_law 332 = .ok (.aload_n 1, 1) := by decide +kernel
theorem dL_law_333 : decode cL_law 333 = .ok (.aload_n 0, 1) := by decide +kernel
theorem dL_law_334 : decode cL_law 334 = .ok (.iload_n 3, 1) := by decide +kernel
theorem dL_law_335 : decode cL_law 335 = .ok (.iconst 1, 1) := by decide +kernel
theorem dL_law_336 : decode cL_law 336 = .ok (.iadd, 1) := by decide +kernel
theorem dL_law_337 : decode cL_law 337 = .ok (.iaload, 1) := by decide +kernel
theorem dL_law_338 : decode cL_law 338 = .ok (.aload_n 0, 1) := by decide +kernel
theorem dL_law_339 : decode cL_law 339 = .ok (.iload_n 3, 1) := by decide +kernel
theorem dL_law_340 : decode cL_law 340 = .ok (.iconst 2, 1) := by decide +kernel
theorem dL_law_341 : decode cL_law 341 = .ok (.iadd, 1) := by decide +kernel
theorem dL_law_342 : decode cL_law 342 = .ok (.iaload, 1) := by decide +kernel
theorem dL_law_343 : decode cL_law 343 = .ok (.invokevirtual 32, 3) := by decide +kernel
theorem dL_law_346 : decode cL_law 346 = .ok (.aload_n 2, 1) := by decide +kernel
theorem dL_law_347 : decode cL_law 347 = .ok (.aload_n 0, 1) := by decide +kernel
theorem dL_law_348 : decode cL_law 348 = .ok (.iload_n 3, 1) := by decide +kernel
theorem dL_law_349 : decode cL_law 349 = .ok (.iconst 1, 1) := by decide +kernel
theorem dL_law_350 : decode cL_law 350 = .ok (.iadd, 1) := by decide +kernel
theorem dL_law_351 : decode cL_law 351 = .ok (.iaload, 1) := by decide +kernel
theorem dL_law_352 : decode cL_law 352 = .ok (.aload_n 0, 1) := by decide +kernel
theorem dL_law_353 : decode cL_law 353 = .ok (.iload_n 3, 1) := by decide +kernel
theorem dL_law_354 : decode cL_law 354 = .ok (.iconst 2, 1) := by decide +kernel
theorem dL_law_355 : decode cL_law 355 = .ok (.iadd, 1) := by decide +kernel
theorem dL_law_356 : decode cL_law 356 = .ok (.iaload, 1) := by decide +kernel
theorem dL_law_357 : decode cL_law 357 = .ok (.invokevirtual 36, 3) := by decide +kernel
theorem dL_law_360 : decode cL_law 360 = .ok (.if_icmp .eq 813, 3) := by decide +kernel
theorem dL_law_363 : decode cL_law 363 = .ok (.iconst 0, 1) := by decide +kernel
theorem dL_law_364 : decode cL_law 364 = .ok (.ireturn, 1) := by decide +kernel
theorem dL_law_365 : decode cL_law 365 = .ok (.aload_n 1, 1) := by decide +kernel
theorem dL_law_366 : decode cL_law 366 = .ok (.aload_n 0, 1) := by decide +kernel
theorem dL_law_367 : decode cL_law 367 = .ok (.iload_n 3, 1) := by decide +kernel
theorem dL_law_368 : decode cL_law 368 = .ok (.iconst 1, 1) := by decide +kernel
theorem dL_law_369 : decode cL_law 369 = .ok (.iadd, 1) := by decide +kernel
theorem dL_law_370 : decode cL_law 370 = .ok (.iaload, 1) := by decide +kernel
theorem dL_law_371 : decode cL_law 371 = .ok (.invokevirtual 37, 3) := by decide +kernel
theorem dL_law_374 : decode cL_law 374 = .ok (.aload_n 2, 1) := by decide +kernel
theorem dL_law_375 : decode cL_law 375 = .ok (.aload_n 0, 1) := by decide +kernel
theorem dL_law_376 : decode cL_law 376 = .ok (.iload_n 3, 1) := by decide +kernel
theorem dL_law_377 : decode cL_law 377 = .ok (.iconst 1, 1) := by decide +kernel
theorem dL_law_378 : decode cL_law 378 = .ok (.iadd, 1) := by decide +kernel
theorem dL_law_379 : decode cL_law 379 = .ok (.iaload, 1) := by decide +kernel
theorem dL_law_380 : decode cL_law 380 = .ok (.invokevirtual 40, 3) := by decide +kernel
theorem dL_law_383 : decode cL_law 383 = .ok (.if_icmp .eq 790, 3) := by decide +kernel
theorem dL_law_386 : decode cL_law 386 = .ok (.iconst 0, 1) := by decide +kernel
theorem dL_law_387 : decode cL_law 387 = .ok (.ireturn, 1) := by decide +kernel
theorem dL_law_388 : decode cL_law 388 = .ok (.aload_n 1, 1) := by decide +kernel
theorem dL_law_389 : decode cL_law 389 = .ok (.aload_n 0, 1) := by decide +kernel
theorem dL_law_390 : decode cL_law 390 = .ok (.iload_n 3, 1) := by decide +kernel
theorem dL_law_391 : decode cL_law 391 = .ok (.iconst 1, 1) := by decide +kernel
theorem dL_law_392 : decode cL_law 392 = .ok (.iadd, 1) := by decide +kernel
theorem dL_law_393 : decode cL_law 393 = .ok (.iaload, 1) := by decide +kernel
theorem dL_law_394 : decode cL_law 394 = .ok (.invokevirtual 41, 3) := by decide +kernel
theorem dL_law_397 : decode cL_law 397 = .ok (.aload_n 2, 1) := by decide +kernel
theorem dL_law_398 : decode cL_law 398 = .ok (.aload_n 0, 1) := by decide +kernel
theorem dL_law_399 : decode cL_law 399 = .ok (.iload_n 3, 1) := by decide +kernel
theorem dL_law_400 : decode cL_law 400 = .ok (.iconst 1, 1) := by decide +kernel
theorem dL_law_401 : decode cL_law 401 = .ok (.iadd, 1) := by decide +kernel
theorem dL_law_402 : decode cL_law 402 = .ok (.iaload, 1) := by decide +kernel
theorem dL_law_403 : decode cL_law 403 = .ok (.invokevirtual 44, 3) := by decide +kernel
theorem dL_law_406 : decode cL_law 406 = .ok (.if_icmp .eq 767, 3) := by decide +kernel
theorem dL_law_409 : decode cL_law 409 = .ok (.iconst 0, 1) := by decide +kernel
theorem dL_law_410 : decode cL_law 410 = .ok (.ireturn, 1) := by decide +kernel
theorem dL_law_411 : decode cL_law 411 = .ok (.aload_n 1, 1) := by decide +kernel
theorem dL_law_412 : decode cL_law 412 = .ok (.aload_n 0, 1) := by decide +kernel
theorem dL_law_413 : decode cL_law 413 = .ok (.iload_n 3, 1) := by decide +kernel
theorem dL_law_414 : decode cL_law 414 = .ok (.iconst 1, 1) := by decide +kernel
theorem dL_law_415 : decode cL_law 415 = .ok (.iadd, 1) := by decide +kernel
theorem dL_law_416 : decode cL_law 416 = .ok (.iaload, 1) := by decide +kernel
theorem dL_law_417 : decode cL_law 417 = .ok (.invokevirtual 45, 3) := by decide +kernel
theorem dL_law_420 : decode cL_law 420 = .ok (.aload_n 2, 1) := by decide +kernel
theorem dL_law_421 : decode cL_law 421 = .ok (.aload_n 0, 1) := by decide +kernel
theorem dL_law_422 : decode cL_law 422 = .ok (.iload_n 3, 1) := by decide +kernel
theorem dL_law_423 : decode cL_law 423 = .ok (.iconst 1, 1) := by decide +kernel
theorem dL_law_424 : decode cL_law 424 = .ok (.iadd, 1) := by decide +kernel
theorem dL_law_425 : decode cL_law 425 = .ok (.iaload, 1) := by decide +kernel
theorem dL_law_426 : decode cL_law 426 = .ok (.invokevirtual 48, 3) := by decide +kernel
theorem dL_law_429 : decode cL_law 429 = .ok (.if_icmp .eq 744, 3) := by decide +kernel
theorem dL_law_432 : decode cL_law 432 = .ok (.iconst 0, 1) := by decide +kernel
theorem dL_law_433 : decode cL_law 433 = .ok (.ireturn, 1) := by decide +kernel
theorem dL_law_434 : decode cL_law 434 = .ok (.aload_n 1, 1) := by decide +kernel
theorem dL_law_435 : decode cL_law 435 = .ok (.aload_n 0, 1) := by decide +kernel
theorem dL_law_436 : decode cL_law 436 = .ok (.iload_n 3, 1) := by decide +kernel
theorem dL_law_437 : decode cL_law 437 = .ok (.iconst 1, 1) := by decide +kernel
theorem dL_law_438 : decode cL_law 438 = .ok (.iadd, 1) := by decide +kernel
theorem dL_law_439 : decode cL_law 439 = .ok (.iaload, 1) := by decide +kernel
theorem dL_law_440 : decode cL_law 440 = .ok (.invokevirtual 49, 3) := by decide +kernel
theorem dL_law_443 : decode cL_law 443 = .ok (.aload_n 2, 1) := by decide +kernel
theorem dL_law_444 : decode cL_law 444 = .ok (.aload_n 0, 1) := by decide +kernel
theorem dL_law_445 : decode cL_law 445 = .ok (.iload_n 3, 1) := by decide +kernel
theorem dL_law_446 : decode cL_law 446 = .ok (.iconst 1, 1) := by decide +kernel
theorem dL_law_447 : decode cL_law 447 = .ok (.iadd, 1) := by decide +kernel
theorem dL_law_448 : decode cL_law 448 = .ok (.iaload, 1) := by decide +kernel
theorem dL_law_449 : decode cL_law 449 = .ok (.invokevirtual 52, 3) := by decide +kernel
theorem dL_law_452 : decode cL_law 452 = .ok (.if_icmp .eq 721, 3) := by decide +kernel
theorem dL_law_455 : decode cL_law 455 = .ok (.iconst 0, 1) := by decide +kernel
theorem dL_law_456 : decode cL_law 456 = .ok (.ireturn, 1) := by decide +kernel
theorem dL_law_457 : decode cL_law 457 = .ok (.aload_n 1, 1) := by decide +kernel
theorem dL_law_458 : decode cL_law 458 = .ok (.aload_n 0, 1) := by decide +kernel
theorem dL_law_459 : decode cL_law 459 = .ok (.iload_n 3, 1) := by decide +kernel
theorem dL_law_460 : decode cL_law 460 = .ok (.iconst 1, 1) := by decide +kernel
theorem dL_law_461 : decode cL_law 461 = .ok (.iadd, 1) := by decide +kernel
theorem dL_law_462 : decode cL_law 462 = .ok (.iaload, 1) := by decide +kernel
theorem dL_law_463 : decode cL_law 463 = .ok (.aload_n 0, 1) := by decide +kernel
theorem dL_law_464 : decode cL_law 464 = .ok (.iload_n 3, 1) := by decide +kernel
theorem dL_law_465 : decode cL_law 465 = .ok (.iconst 2, 1) := by decide +kernel
theorem dL_law_466 : decode cL_law 466 = .ok (.iadd, 1) := by decide +kernel
theorem dL_law_467 : decode cL_law 467 = .ok (.iaload, 1) := by decide +kernel
theorem dL_law_468 : decode cL_law 468 = .ok (.invokevirtual 53, 3) := by decide +kernel
theorem dL_law_471 : decode cL_law 471 = .ok (.aload_n 2, 1) := by decide +kernel
theorem dL_law_472 : decode cL_law 472 = .ok (.aload_n 0, 1) := by decide +kernel
theorem dL_law_473 : decode cL_law 473 = .ok (.iload_n 3, 1) := by decide +kernel
theorem dL_law_474 : decode cL_law 474 = .ok (.iconst 1, 1) := by decide +kernel
theorem dL_law_475 : decode cL_law 475 = .ok (.iadd, 1) := by decide +kernel
theorem dL_law_476 : decode cL_law 476 = .ok (.iaload, 1) := by decide +kernel
theorem dL_law_477 : decode cL_law 477 = .ok (.aload_n 0, 1) := by decide +kernel
theorem dL_law_478 : decode cL_law 478 = .ok (.iload_n 3, 1) := by decide +kernel
theorem dL_law_479 : decode cL_law 479 = .ok (.iconst 2, 1) := by decide +kernel
theorem dL_law_480 : decode cL_law 480 = .ok (.iadd, 1) := by decide +kernel
theorem dL_law_481 : decode cL_law 481 = .ok (.iaload, 1) := by decide +kernel
theorem dL_law_482 : decode cL_law 482 = .ok (.invokevirtual 57, 3) := by decide +kernel
theorem dL_law_485 : decode cL_law 485 = .ok (.lcmp, 1) := by decide +kernel
theorem dL_law_486 : decode cL_law 486 = .ok (.ifCond .eq 687, 3) := by decide +kernel
theorem dL_law_489 : decode cL_law 489 = .ok (.iconst 0, 1) := by decide +kernel
theorem dL_law_490 : decode cL_law 490 = .ok (.ireturn, 1) := by decide +kernel
theorem dL_law_491 : decode cL_law 491 = .ok (.aload_n 1, 1) := by decide +kernel
theorem dL_law_492 : decode cL_law 492 = .ok (.aload_n 0, 1) := by decide +kernel
theorem dL_law_493 : decode cL_law 493 = .ok (.iload_n 3, 1) := by decide +kernel
theorem dL_law_494 : decode cL_law 494 = .ok (.iconst 1, 1) := by decide +kernel
theorem dL_law_495 : decode cL_law 495 = .ok (.iadd, 1) := by decide +kernel
theorem dL_law_496 : decode cL_law 496 = .ok (.iaload, 1) := by decide +kernel
theorem dL_law_497 : decode cL_law 497 = .ok (.aload_n 0, 1) := by decide +kernel
theorem dL_law_498 : decode cL_law 498 = .ok (.iload_n 3, 1) := by decide +kernel
theorem dL_law_499 : decode cL_law 499 = .ok (.iconst 2, 1) := by decide +kernel
theorem dL_law_500 : decode cL_law 500 = .ok (.iadd, 1) := by decide +kernel
theorem dL_law_501 : decode cL_law 501 = .ok (.iaload, 1) := by decide +kernel
theorem dL_law_502 : decode cL_law 502 = .ok (.invokevirtual 58, 3) := by decide +kernel
theorem dL_law_505 : decode cL_law 505 = .ok (.aload_n 2, 1) := by decide +kernel
theorem dL_law_506 : decode cL_law 506 = .ok (.aload_n 0, 1) := by decide +kernel
theorem dL_law_507 : decode cL_law 507 = .ok (.iload_n 3, 1) := by decide +kernel
theorem dL_law_508 : decode cL_law 508 = .ok (.iconst 1, 1) := by decide +kernel
theorem dL_law_509 : decode cL_law 509 = .ok (.iadd, 1) := by decide +kernel
theorem dL_law_510 : decode cL_law 510 = .ok (.iaload, 1) := by decide +kernel
theorem dL_law_511 : decode cL_law 511 = .ok (.aload_n 0, 1) := by decide +kernel
theorem dL_law_512 : decode cL_law 512 = .ok (.iload_n 3, 1) := by decide +kernel
theorem dL_law_513 : decode cL_law 513 = .ok (.iconst 2, 1) := by decide +kernel
theorem dL_law_514 : decode cL_law 514 = .ok (.iadd, 1) := by decide +kernel
theorem dL_law_515 : decode cL_law 515 = .ok (.iaload, 1) := by decide +kernel
theorem dL_law_516 : decode cL_law 516 = .ok (.invokevirtual 61, 3) := by decide +kernel
theorem dL_law_519 : decode cL_law 519 = .ok (.lcmp, 1) := by decide +kernel
theorem dL_law_520 : decode cL_law 520 = .ok (.ifCond .eq 653, 3) := by decide +kernel
theorem dL_law_523 : decode cL_law 523 = .ok (.iconst 0, 1) := by decide +kernel
theorem dL_law_524 : decode cL_law 524 = .ok (.ireturn, 1) := by decide +kernel
theorem dL_law_525 : decode cL_law 525 = .ok (.aload_n 1, 1) := by decide +kernel
theorem dL_law_526 : decode cL_law 526 = .ok (.aload_n 0, 1) := by decide +kernel
theorem dL_law_527 : decode cL_law 527 = .ok (.iload_n 3, 1) := by decide +kernel
theorem dL_law_528 : decode cL_law 528 = .ok (.iconst 1, 1) := by decide +kernel
theorem dL_law_529 : decode cL_law 529 = .ok (.iadd, 1) := by decide +kernel
theorem dL_law_530 : decode cL_law 530 = .ok (.iaload, 1) := by decide +kernel
theorem dL_law_531 : decode cL_law 531 = .ok (.aload_n 0, 1) := by decide +kernel
theorem dL_law_532 : decode cL_law 532 = .ok (.iload_n 3, 1) := by decide +kernel
theorem dL_law_533 : decode cL_law 533 = .ok (.iconst 2, 1) := by decide +kernel
theorem dL_law_534 : decode cL_law 534 = .ok (.iadd, 1) := by decide +kernel
theorem dL_law_535 : decode cL_law 535 = .ok (.iaload, 1) := by decide +kernel
theorem dL_law_536 : decode cL_law 536 = .ok (.invokevirtual 62, 3) := by decide +kernel
theorem dL_law_539 : decode cL_law 539 = .ok (.aload_n 2, 1) := by decide +kernel
theorem dL_law_540 : decode cL_law 540 = .ok (.aload_n 0, 1) := by decide +kernel
theorem dL_law_541 : decode cL_law 541 = .ok (.iload_n 3, 1) := by decide +kernel
theorem dL_law_542 : decode cL_law 542 = .ok (.iconst 1, 1) := by decide +kernel
theorem dL_law_543 : decode cL_law 543 = .ok (.iadd, 1) := by decide +kernel
theorem dL_law_544 : decode cL_law 544 = .ok (.iaload, 1) := by decide +kernel
theorem dL_law_545 : decode cL_law 545 = .ok (.aload_n 0, 1) := by decide +kernel
theorem dL_law_546 : decode cL_law 546 = .ok (.iload_n 3, 1) := by decide +kernel
theorem dL_law_547 : decode cL_law 547 = .ok (.iconst 2, 1) := by decide +kernel
theorem dL_law_548 : decode cL_law 548 = .ok (.iadd, 1) := by decide +kernel
theorem dL_law_549 : decode cL_law 549 = .ok (.iaload, 1) := by decide +kernel
theorem dL_law_550 : decode cL_law 550 = .ok (.invokevirtual 65, 3) := by decide +kernel
theorem dL_law_553 : decode cL_law 553 = .ok (.lcmp, 1) := by decide +kernel
theorem dL_law_554 : decode cL_law 554 = .ok (.ifCond .eq 619, 3) := by decide +kernel
theorem dL_law_557 : decode cL_law 557 = .ok (.iconst 0, 1) := by decide +kernel
theorem dL_law_558 : decode cL_law 558 = .ok (.ireturn, 1) := by decide +kernel
theorem dL_law_559 : decode cL_law 559 = .ok (.aload_n 1, 1) := by decide +kernel
theorem dL_law_560 : decode cL_law 560 = .ok (.aload_n 0, 1) := by decide +kernel
theorem dL_law_561 : decode cL_law 561 = .ok (.iload_n 3, 1) := by decide +kernel
theorem dL_law_562 : decode cL_law 562 = .ok (.iconst 1, 1) := by decide +kernel
theorem dL_law_563 : decode cL_law 563 = .ok (.iadd, 1) := by decide +kernel
theorem dL_law_564 : decode cL_law 564 = .ok (.iaload, 1) := by decide +kernel
theorem dL_law_565 : decode cL_law 565 = .ok (.aload_n 0, 1) := by decide +kernel
theorem dL_law_566 : decode cL_law 566 = .ok (.iload_n 3, 1) := by decide +kernel
theorem dL_law_567 : decode cL_law 567 = .ok (.iconst 2, 1) := by decide +kernel
theorem dL_law_568 : decode cL_law 568 = .ok (.iadd, 1) := by decide +kernel
theorem dL_law_569 : decode cL_law 569 = .ok (.iaload, 1) := by decide +kernel
theorem dL_law_570 : decode cL_law 570 = .ok (.invokevirtual 66, 3) := by decide +kernel
theorem dL_law_573 : decode cL_law 573 = .ok (.aload_n 2, 1) := by decide +kernel
theorem dL_law_574 : decode cL_law 574 = .ok (.aload_n 0, 1) := by decide +kernel
theorem dL_law_575 : decode cL_law 575 = .ok (.iload_n 3, 1) := by decide +kernel
theorem dL_law_576 : decode cL_law 576 = .ok (.iconst 1, 1) := by decide +kernel
theorem dL_law_577 : decode cL_law 577 = .ok (.iadd, 1) := by decide +kernel
theorem dL_law_578 : decode cL_law 578 = .ok (.iaload, 1) := by decide +kernel
theorem dL_law_579 : decode cL_law 579 = .ok (.aload_n 0, 1) := by decide +kernel
theorem dL_law_580 : decode cL_law 580 = .ok (.iload_n 3, 1) := by decide +kernel
theorem dL_law_581 : decode cL_law 581 = .ok (.iconst 2, 1) := by decide +kernel
theorem dL_law_582 : decode cL_law 582 = .ok (.iadd, 1) := by decide +kernel
theorem dL_law_583 : decode cL_law 583 = .ok (.iaload, 1) := by decide +kernel
theorem dL_law_584 : decode cL_law 584 = .ok (.invokevirtual 69, 3) := by decide +kernel
theorem dL_law_587 : decode cL_law 587 = .ok (.if_icmp .eq 586, 3) := by decide +kernel
theorem dL_law_590 : decode cL_law 590 = .ok (.iconst 0, 1) := by decide +kernel
theorem dL_law_591 : decode cL_law 591 = .ok (.ireturn, 1) := by decide +kernel
theorem dL_law_592 : decode cL_law 592 = .ok (.aload_n 1, 1) := by decide +kernel
theorem dL_law_593 : decode cL_law 593 = .ok (.aload_n 0, 1) := by decide +kernel
theorem dL_law_594 : decode cL_law 594 = .ok (.iload_n 3, 1) := by decide +kernel
theorem dL_law_595 : decode cL_law 595 = .ok (.iconst 1, 1) := by decide +kernel
theorem dL_law_596 : decode cL_law 596 = .ok (.iadd, 1) := by decide +kernel
theorem dL_law_597 : decode cL_law 597 = .ok (.iaload, 1) := by decide +kernel
theorem dL_law_598 : decode cL_law 598 = .ok (.aload_n 0, 1) := by decide +kernel
theorem dL_law_599 : decode cL_law 599 = .ok (.iload_n 3, 1) := by decide +kernel
theorem dL_law_600 : decode cL_law 600 = .ok (.iconst 2, 1) := by decide +kernel
theorem dL_law_601 : decode cL_law 601 = .ok (.iadd, 1) := by decide +kernel
theorem dL_law_602 : decode cL_law 602 = .ok (.iaload, 1) := by decide +kernel
theorem dL_law_603 : decode cL_law 603 = .ok (.invokevirtual 70, 3) := by decide +kernel
theorem dL_law_606 : decode cL_law 606 = .ok (.aload_n 2, 1) := by decide +kernel
theorem dL_law_607 : decode cL_law 607 = .ok (.aload_n 0, 1) := by decide +kernel
theorem dL_law_608 : decode cL_law 608 = .ok (.iload_n 3, 1) := by decide +kernel
theorem dL_law_609 : decode cL_law 609 = .ok (.iconst 1, 1) := by decide +kernel
theorem dL_law_610 : decode cL_law 610 = .ok (.iadd, 1) := by decide +kernel
theorem dL_law_611 : decode cL_law 611 = .ok (.iaload, 1) := by decide +kernel
theorem dL_law_612 : decode cL_law 612 = .ok (.aload_n 0, 1) := by decide +kernel
theorem dL_law_613 : decode cL_law 613 = .ok (.iload_n 3, 1) := by decide +kernel
theorem dL_law_614 : decode cL_law 614 = .ok (.iconst 2, 1) := by decide +kernel
theorem dL_law_615 : decode cL_law 615 = .ok (.iadd, 1) := by decide +kernel
theorem dL_law_616 : decode cL_law 616 = .ok (.iaload, 1) := by decide +kernel
theorem dL_law_617 : decode cL_law 617 = .ok (.invokevirtual 73, 3) := by decide +kernel
theorem dL_law_620 : decode cL_law 620 = .ok (.if_icmp .eq 553, 3) := by decide +kernel
theorem dL_law_623 : decode cL_law 623 = .ok (.iconst 0, 1) := by decide +kernel
theorem dL_law_624 : decode cL_law 624 = .ok (.ireturn, 1) := by decide +kernel
theorem dL_law_625 : decode cL_law 625 = .ok (.aload_n 1, 1) := by decide +kernel
theorem dL_law_626 : decode cL_law 626 = .ok (.aload_n 0, 1) := by decide +kernel
theorem dL_law_627 : decode cL_law 627 = .ok (.iload_n 3, 1) := by decide +kernel
theorem dL_law_628 : decode cL_law 628 = .ok (.iconst 1, 1) := by decide +kernel
theorem dL_law_629 : decode cL_law 629 = .ok (.iadd, 1) := by decide +kernel
theorem dL_law_630 : decode cL_law 630 = .ok (.iaload, 1) := by decide +kernel
theorem dL_law_631 : decode cL_law 631 = .ok (.invokevirtual 74, 3) := by decide +kernel
theorem dL_law_634 : decode cL_law 634 = .ok (.aload_n 2, 1) := by decide +kernel
theorem dL_law_635 : decode cL_law 635 = .ok (.aload_n 0, 1) := by decide +kernel
theorem dL_law_636 : decode cL_law 636 = .ok (.iload_n 3, 1) := by decide +kernel
theorem dL_law_637 : decode cL_law 637 = .ok (.iconst 1, 1) := by decide +kernel
theorem dL_law_638 : decode cL_law 638 = .ok (.iadd, 1) := by decide +kernel
theorem dL_law_639 : decode cL_law 639 = .ok (.iaload, 1) := by decide +kernel
theorem dL_law_640 : decode cL_law 640 = .ok (.invokevirtual 77, 3) := by decide +kernel
theorem dL_law_643 : decode cL_law 643 = .ok (.if_icmp .eq 530, 3) := by decide +kernel
theorem dL_law_646 : decode cL_law 646 = .ok (.iconst 0, 1) := by decide +kernel
theorem dL_law_647 : decode cL_law 647 = .ok (.ireturn, 1) := by decide +kernel
theorem dL_law_648 : decode cL_law 648 = .ok (.aload_n 1, 1) := by decide +kernel
theorem dL_law_649 : decode cL_law 649 = .ok (.aload_n 0, 1) := by decide +kernel
theorem dL_law_650 : decode cL_law 650 = .ok (.iload_n 3, 1) := by decide +kernel
theorem dL_law_651 : decode cL_law 651 = .ok (.iconst 1, 1) := by decide +kernel
theorem dL_law_652 : decode cL_law 652 = .ok (.iadd, 1) := by decide +kernel
theorem dL_law_653 : decode cL_law 653 = .ok (.iaload, 1) := by decide +kernel
theorem dL_law_654 : decode cL_law 654 = .ok (.aload_n 0, 1) := by decide +kernel
theorem dL_law_655 : decode cL_law 655 = .ok (.iload_n 3, 1) := by decide +kernel
theorem dL_law_656 : decode cL_law 656 = .ok (.iconst 2, 1) := by decide +kernel
theorem dL_law_657 : decode cL_law 657 = .ok (.iadd, 1) := by decide +kernel
theorem dL_law_658 : decode cL_law 658 = .ok (.iaload, 1) := by decide +kernel
theorem dL_law_659 : decode cL_law 659 = .ok (.invokevirtual 78, 3) := by decide +kernel
theorem dL_law_662 : decode cL_law 662 = .ok (.aload_n 2, 1) := by decide +kernel
theorem dL_law_663 : decode cL_law 663 = .ok (.aload_n 0, 1) := by decide +kernel
theorem dL_law_664 : decode cL_law 664 = .ok (.iload_n 3, 1) := by decide +kernel
theorem dL_law_665 : decode cL_law 665 = .ok (.iconst 1, 1) := by decide +kernel
theorem dL_law_666 : decode cL_law 666 = .ok (.iadd, 1) := by decide +kernel
theorem dL_law_667 : decode cL_law 667 = .ok (.iaload, 1) := by decide +kernel
theorem dL_law_668 : decode cL_law 668 = .ok (.aload_n 0, 1) := by decide +kernel
theorem dL_law_669 : decode cL_law 669 = .ok (.iload_n 3, 1) := by decide +kernel
theorem dL_law_670 : decode cL_law 670 = .ok (.iconst 2, 1) := by decide +kernel
theorem dL_law_671 : decode cL_law 671 = .ok (.iadd, 1) := by decide +kernel
theorem dL_law_672 : decode cL_law 672 = .ok (.iaload, 1) := by decide +kernel
theorem dL_law_673 : decode cL_law 673 = .ok (.invokevirtual 81, 3) := by decide +kernel
theorem dL_law_676 : decode cL_law 676 = .ok (.lcmp, 1) := by decide +kernel
theorem dL_law_677 : decode cL_law 677 = .ok (.ifCond .eq 496, 3) := by decide +kernel
theorem dL_law_680 : decode cL_law 680 = .ok (.iconst 0, 1) := by decide +kernel
theorem dL_law_681 : decode cL_law 681 = .ok (.ireturn, 1) := by decide +kernel
theorem dL_law_682 : decode cL_law 682 = .ok (.aload_n 1, 1) := by decide +kernel
theorem dL_law_683 : decode cL_law 683 = .ok (.aload_n 0, 1) := by decide +kernel
theorem dL_law_684 : decode cL_law 684 = .ok (.iload_n 3, 1) := by decide +kernel
theorem dL_law_685 : decode cL_law 685 = .ok (.iconst 1, 1) := by decide +kernel
theorem dL_law_686 : decode cL_law 686 = .ok (.iadd, 1) := by decide +kernel
theorem dL_law_687 : decode cL_law 687 = .ok (.iaload, 1) := by decide +kernel
theorem dL_law_688 : decode cL_law 688 = .ok (.aload_n 0, 1) := by decide +kernel
theorem dL_law_689 : decode cL_law 689 = .ok (.iload_n 3, 1) := by decide +kernel
theorem dL_law_690 : decode cL_law 690 = .ok (.iconst 2, 1) := by decide +kernel
theorem dL_law_691 : decode cL_law 691 = .ok (.iadd, 1) := by decide +kernel
theorem dL_law_692 : decode cL_law 692 = .ok (.iaload, 1) := by decide +kernel
theorem dL_law_693 : decode cL_law 693 = .ok (.invokevirtual 82, 3) := by decide +kernel
theorem dL_law_696 : decode cL_law 696 = .ok (.aload_n 2, 1) := by decide +kernel
theorem dL_law_697 : decode cL_law 697 = .ok (.aload_n 0, 1) := by decide +kernel
theorem dL_law_698 : decode cL_law 698 = .ok (.iload_n 3, 1) := by decide +kernel
theorem dL_law_699 : decode cL_law 699 = .ok (.iconst 1, 1) := by decide +kernel
theorem dL_law_700 : decode cL_law 700 = .ok (.iadd, 1) := by decide +kernel
theorem dL_law_701 : decode cL_law 701 = .ok (.iaload, 1) := by decide +kernel
theorem dL_law_702 : decode cL_law 702 = .ok (.aload_n 0, 1) := by decide +kernel
theorem dL_law_703 : decode cL_law 703 = .ok (.iload_n 3, 1) := by decide +kernel
theorem dL_law_704 : decode cL_law 704 = .ok (.iconst 2, 1) := by decide +kernel
theorem dL_law_705 : decode cL_law 705 = .ok (.iadd, 1) := by decide +kernel
theorem dL_law_706 : decode cL_law 706 = .ok (.iaload, 1) := by decide +kernel
theorem dL_law_707 : decode cL_law 707 = .ok (.invokevirtual 85, 3) := by decide +kernel
theorem dL_law_710 : decode cL_law 710 = .ok (.lcmp, 1) := by decide +kernel
theorem dL_law_711 : decode cL_law 711 = .ok (.ifCond .eq 462, 3) := by decide +kernel
theorem dL_law_714 : decode cL_law 714 = .ok (.iconst 0, 1) := by decide +kernel
theorem dL_law_715 : decode cL_law 715 = .ok (.ireturn, 1) := by decide +kernel
theorem dL_law_716 : decode cL_law 716 = .ok (.aload_n 1, 1) := by decide +kernel
theorem dL_law_717 : decode cL_law 717 = .ok (.aload_n 0, 1) := by decide +kernel
theorem dL_law_718 : decode cL_law 718 = .ok (.iload_n 3, 1) := by decide +kernel
theorem dL_law_719 : decode cL_law 719 = .ok (.iconst 1, 1) := by decide +kernel
theorem dL_law_720 : decode cL_law 720 = .ok (.iadd, 1) := by decide +kernel
theorem dL_law_721 : decode cL_law 721 = .ok (.iaload, 1) := by decide +kernel
theorem dL_law_722 : decode cL_law 722 = .ok (.aload_n 0, 1) := by decide +kernel
theorem dL_law_723 : decode cL_law 723 = .ok (.iload_n 3, 1) := by decide +kernel
theorem dL_law_724 : decode cL_law 724 = .ok (.iconst 2, 1) := by decide +kernel
theorem dL_law_725 : decode cL_law 725 = .ok (.iadd, 1) := by decide +kernel
theorem dL_law_726 : decode cL_law 726 = .ok (.iaload, 1) := by decide +kernel
theorem dL_law_727 : decode cL_law 727 = .ok (.invokevirtual 86, 3) := by decide +kernel
theorem dL_law_730 : decode cL_law 730 = .ok (.aload_n 2, 1) := by decide +kernel
theorem dL_law_731 : decode cL_law 731 = .ok (.aload_n 0, 1) := by decide +kernel
theorem dL_law_732 : decode cL_law 732 = .ok (.iload_n 3, 1) := by decide +kernel
theorem dL_law_733 : decode cL_law 733 = .ok (.iconst 1, 1) := by decide +kernel
theorem dL_law_734 : decode cL_law 734 = .ok (.iadd, 1) := by decide +kernel
theorem dL_law_735 : decode cL_law 735 = .ok (.iaload, 1) := by decide +kernel
theorem dL_law_736 : decode cL_law 736 = .ok (.aload_n 0, 1) := by decide +kernel
theorem dL_law_737 : decode cL_law 737 = .ok (.iload_n 3, 1) := by decide +kernel
theorem dL_law_738 : decode cL_law 738 = .ok (.iconst 2, 1) := by decide +kernel
theorem dL_law_739 : decode cL_law 739 = .ok (.iadd, 1) := by decide +kernel
theorem dL_law_740 : decode cL_law 740 = .ok (.iaload, 1) := by decide +kernel
theorem dL_law_741 : decode cL_law 741 = .ok (.invokevirtual 89, 3) := by decide +kernel
theorem dL_law_744 : decode cL_law 744 = .ok (.lcmp, 1) := by decide +kernel
theorem dL_law_745 : decode cL_law 745 = .ok (.ifCond .eq 428, 3) := by decide +kernel
theorem dL_law_748 : decode cL_law 748 = .ok (.iconst 0, 1) := by decide +kernel
theorem dL_law_749 : decode cL_law 749 = .ok (.ireturn, 1) := by decide +kernel
theorem dL_law_750 : decode cL_law 750 = .ok (.aload_n 1, 1) := by decide +kernel
theorem dL_law_751 : decode cL_law 751 = .ok (.aload_n 0, 1) := by decide +kernel
theorem dL_law_752 : decode cL_law 752 = .ok (.iload_n 3, 1) := by decide +kernel
theorem dL_law_753 : decode cL_law 753 = .ok (.iconst 1, 1) := by decide +kernel
theorem dL_law_754 : decode cL_law 754 = .ok (.iadd, 1) := by decide +kernel
theorem dL_law_755 : decode cL_law 755 = .ok (.iaload, 1) := by decide +kernel
theorem dL_law_756 : decode cL_law 756 = .ok (.aload_n 0, 1) := by decide +kernel
theorem dL_law_757 : decode cL_law 757 = .ok (.iload_n 3, 1) := by decide +kernel
theorem dL_law_758 : decode cL_law 758 = .ok (.iconst 2, 1) := by decide +kernel
theorem dL_law_759 : decode cL_law 759 = .ok (.iadd, 1) := by decide +kernel
theorem dL_law_760 : decode cL_law 760 = .ok (.iaload, 1) := by decide +kernel
theorem dL_law_761 : decode cL_law 761 = .ok (.invokevirtual 90, 3) := by decide +kernel
theorem dL_law_764 : decode cL_law 764 = .ok (.aload_n 2, 1) := by decide +kernel
theorem dL_law_765 : decode cL_law 765 = .ok (.aload_n 0, 1) := by decide +kernel
theorem dL_law_766 : decode cL_law 766 = .ok (.iload_n 3, 1) := by decide +kernel
theorem dL_law_767 : decode cL_law 767 = .ok (.iconst 1, 1) := by decide +kernel
theorem dL_law_768 : decode cL_law 768 = .ok (.iadd, 1) := by decide +kernel
theorem dL_law_769 : decode cL_law 769 = .ok (.iaload, 1) := by decide +kernel
theorem dL_law_770 : decode cL_law 770 = .ok (.aload_n 0, 1) := by decide +kernel
theorem dL_law_771 : decode cL_law 771 = .ok (.iload_n 3, 1) := by decide +kernel
theorem dL_law_772 : decode cL_law 772 = .ok (.iconst 2, 1) := by decide +kernel
theorem dL_law_773 : decode cL_law 773 = .ok (.iadd, 1) := by decide +kernel
theorem dL_law_774 : decode cL_law 774 = .ok (.iaload, 1) := by decide +kernel
theorem dL_law_775 : decode cL_law 775 = .ok (.invokevirtual 93, 3) := by decide +kernel
theorem dL_law_778 : decode cL_law 778 = .ok (.lcmp, 1) := by decide +kernel
theorem dL_law_779 : decode cL_law 779 = .ok (.ifCond .eq 394, 3) := by decide +kernel
theorem dL_law_782 : decode cL_law 782 = .ok (.iconst 0, 1) := by decide +kernel
theorem dL_law_783 : decode cL_law 783 = .ok (.ireturn, 1) := by decide +kernel
theorem dL_law_784 : decode cL_law 784 = .ok (.aload_n 1, 1) := by decide +kernel
theorem dL_law_785 : decode cL_law 785 = .ok (.aload_n 0, 1) := by decide +kernel
theorem dL_law_786 : decode cL_law 786 = .ok (.iload_n 3, 1) := by decide +kernel
theorem dL_law_787 : decode cL_law 787 = .ok (.iconst 1, 1) := by decide +kernel
theorem dL_law_788 : decode cL_law 788 = .ok (.iadd, 1) := by decide +kernel
theorem dL_law_789 : decode cL_law 789 = .ok (.iaload, 1) := by decide +kernel
theorem dL_law_790 : decode cL_law 790 = .ok (.aload_n 0, 1) := by decide +kernel
theorem dL_law_791 : decode cL_law 791 = .ok (.iload_n 3, 1) := by decide +kernel
theorem dL_law_792 : decode cL_law 792 = .ok (.iconst 2, 1) := by decide +kernel
theorem dL_law_793 : decode cL_law 793 = .ok (.iadd, 1) := by decide +kernel
theorem dL_law_794 : decode cL_law 794 = .ok (.iaload, 1) := by decide +kernel
theorem dL_law_795 : decode cL_law 795 = .ok (.invokevirtual 94, 3) := by decide +kernel
theorem dL_law_798 : decode cL_law 798 = .ok (.aload_n 2, 1) := by decide +kernel
theorem dL_law_799 : decode cL_law 799 = .ok (.aload_n 0, 1) := by decide +kernel
theorem dL_law_800 : decode cL_law 800 = .ok (.iload_n 3, 1) := by decide +kernel
theorem dL_law_801 : decode cL_law 801 = .ok (.iconst 1, 1) := by decide +kernel
theorem dL_law_802 : decode cL_law 802 = .ok (.iadd, 1) := by decide +kernel
theorem dL_law_803 : decode cL_law 803 = .ok (.iaload, 1) := by decide +kernel
theorem dL_law_804 : decode cL_law 804 = .ok (.aload_n 0, 1) := by decide +kernel
theorem dL_law_805 : decode cL_law 805 = .ok (.iload_n 3, 1) := by decide +kernel
theorem dL_law_806 : decode cL_law 806 = .ok (.iconst 2, 1) := by decide +kernel
theorem dL_law_807 : decode cL_law 807 = .ok (.iadd, 1) := by decide +kernel
theorem dL_law_808 : decode cL_law 808 = .ok (.iaload, 1) := by decide +kernel
theorem dL_law_809 : decode cL_law 809 = .ok (.invokevirtual 97, 3) := by decide +kernel
theorem dL_law_812 : decode cL_law 812 = .ok (.lcmp, 1) := by decide +kernel
theorem dL_law_813 : decode cL_law 813 = .ok (.ifCond .eq 360, 3) := by decide +kernel
theorem dL_law_816 : decode cL_law 816 = .ok (.iconst 0, 1) := by decide +kernel
theorem dL_law_817 : decode cL_law 817 = .ok (.ireturn, 1) := by decide +kernel
theorem dL_law_818 : decode cL_law 818 = .ok (.aload_n 1, 1) := by decide +kernel
theorem dL_law_819 : decode cL_law 819 = .ok (.aload_n 0, 1) := by decide +kernel
theorem dL_law_820 : decode cL_law 820 = .ok (.iload_n 3, 1) := by decide +kernel
theorem dL_law_821 : decode cL_law 821 = .ok (.iconst 1, 1) := by decide +kernel
theorem dL_law_822 : decode cL_law 822 = .ok (.iadd, 1) := by decide +kernel
theorem dL_law_823 : decode cL_law 823 = .ok (.iaload, 1) := by decide +kernel
theorem dL_law_824 : decode cL_law 824 = .ok (.aload_n 0, 1) := by decide +kernel
theorem dL_law_825 : decode cL_law 825 = .ok (.iload_n 3, 1) := by decide +kernel
theorem dL_law_826 : decode cL_law 826 = .ok (.iconst 2, 1) := by decide +kernel
theorem dL_law_827 : decode cL_law 827 = .ok (.iadd, 1) := by decide +kernel
theorem dL_law_828 : decode cL_law 828 = .ok (.iaload, 1) := by decide +kernel
theorem dL_law_829 : decode cL_law 829 = .ok (.invokevirtual 98, 3) := by decide +kernel
theorem dL_law_832 : decode cL_law 832 = .ok (.aload_n 2, 1) := by decide +kernel
theorem dL_law_833 : decode cL_law 833 = .ok (.aload_n 0, 1) := by decide +kernel
theorem dL_law_834 : decode cL_law 834 = .ok (.iload_n 3, 1) := by decide +kernel
theorem dL_law_835 : decode cL_law 835 = .ok (.iconst 1, 1) := by decide +kernel
theorem dL_law_836 : decode cL_law 836 = .ok (.iadd, 1) := by decide +kernel
theorem dL_law_837 : decode cL_law 837 = .ok (.iaload, 1) := by decide +kernel
theorem dL_law_838 : decode cL_law 838 = .ok (.aload_n 0, 1) := by decide +kernel
theorem dL_law_839 : decode cL_law 839 = .ok (.iload_n 3, 1) := by decide +kernel
theorem dL_law_840 : decode cL_law 840 = .ok (.iconst 2, 1) := by decide +kernel
theorem dL_law_841 : decode cL_law 841 = .ok (.iadd, 1) := by decide +kernel
theorem dL_law_842 : decode cL_law 842 = .ok (.iaload, 1) := by decide +kernel
theorem dL_law_843 : decode cL_law 843 = .ok (.invokevirtual 101, 3) := by decide +kernel
theorem dL_law_846 : decode cL_law 846 = .ok (.lcmp, 1) := by decide +kernel
theorem dL_law_847 : decode cL_law 847 = .ok (.ifCond .eq 326, 3) := by decide +kernel
theorem dL_law_850 : decode cL_law 850 = .ok (.iconst 0, 1) := by decide +kernel
theorem dL_law_851 : decode cL_law 851 = .ok (.ireturn, 1) := by decide +kernel
theorem dL_law_852 : decode cL_law 852 = .ok (.aload_n 1, 1) := by decide +kernel
theorem dL_law_853 : decode cL_law 853 = .ok (.aload_n 0, 1) := by decide +kernel
theorem dL_law_854 : decode cL_law 854 = .ok (.iload_n 3, 1) := by decide +kernel
theorem dL_law_855 : decode cL_law 855 = .ok (.iconst 1, 1) := by decide +kernel
theorem dL_law_856 : decode cL_law 856 = .ok (.iadd, 1) := by decide +kernel
theorem dL_law_857 : decode cL_law 857 = .ok (.iaload, 1) := by decide +kernel
theorem dL_law_858 : decode cL_law 858 = .ok (.aload_n 0, 1) := by decide +kernel
theorem dL_law_859 : decode cL_law 859 = .ok (.iload_n 3, 1) := by decide +kernel
theorem dL_law_860 : decode cL_law 860 = .ok (.iconst 2, 1) := by decide +kernel
theorem dL_law_861 : decode cL_law 861 = .ok (.iadd, 1) := by decide +kernel
theorem dL_law_862 : decode cL_law 862 = .ok (.iaload, 1) := by decide +kernel
theorem dL_law_863 : decode cL_law 863 = .ok (.invokevirtual 102, 3) := by decide +kernel
theorem dL_law_866 : decode cL_law 866 = .ok (.aload_n 2, 1) := by decide +kernel
theorem dL_law_867 : decode cL_law 867 = .ok (.aload_n 0, 1) := by decide +kernel
theorem dL_law_868 : decode cL_law 868 = .ok (.iload_n 3, 1) := by decide +kernel
theorem dL_law_869 : decode cL_law 869 = .ok (.iconst 1, 1) := by decide +kernel
theorem dL_law_870 : decode cL_law 870 = .ok (.iadd, 1) := by decide +kernel
theorem dL_law_871 : decode cL_law 871 = .ok (.iaload, 1) := by decide +kernel
theorem dL_law_872 : decode cL_law 872 = .ok (.aload_n 0, 1) := by decide +kernel
theorem dL_law_873 : decode cL_law 873 = .ok (.iload_n 3, 1) := by decide +kernel
theorem dL_law_874 : decode cL_law 874 = .ok (.iconst 2, 1) := by decide +kernel
theorem dL_law_875 : decode cL_law 875 = .ok (.iadd, 1) := by decide +kernel
theorem dL_law_876 : decode cL_law 876 = .ok (.iaload, 1) := by decide +kernel
theorem dL_law_877 : decode cL_law 877 = .ok (.invokevirtual 105, 3) := by decide +kernel
theorem dL_law_880 : decode cL_law 880 = .ok (.lcmp, 1) := by decide +kernel
theorem dL_law_881 : decode cL_law 881 = .ok (.ifCond .eq 292, 3) := by decide +kernel
theorem dL_law_884 : decode cL_law 884 = .ok (.iconst 0, 1) := by decide +kernel
theorem dL_law_885 : decode cL_law 885 = .ok (.ireturn, 1) := by decide +kernel
theorem dL_law_886 : decode cL_law 886 = .ok (.aload_n 1, 1) := by decide +kernel
theorem dL_law_887 : decode cL_law 887 = .ok (.aload_n 0, 1) := by decide +kernel
theorem dL_law_888 : decode cL_law 888 = .ok (.iload_n 3, 1) := by decide +kernel
theorem dL_law_889 : decode cL_law 889 = .ok (.iconst 1, 1) := by decide +kernel
theorem dL_law_890 : decode cL_law 890 = .ok (.iadd, 1) := by decide +kernel
theorem dL_law_891 : decode cL_law 891 = .ok (.iaload, 1) := by decide +kernel
theorem dL_law_892 : decode cL_law 892 = .ok (.invokevirtual 106, 3) := by decide +kernel
theorem dL_law_895 : decode cL_law 895 = .ok (.aload_n 2, 1) := by decide +kernel
theorem dL_law_896 : decode cL_law 896 = .ok (.aload_n 0, 1) := by decide +kernel
theorem dL_law_897 : decode cL_law 897 = .ok (.iload_n 3, 1) := by decide +kernel
theorem dL_law_898 : decode cL_law 898 = .ok (.iconst 1, 1) := by decide +kernel
theorem dL_law_899 : decode cL_law 899 = .ok (.iadd, 1) := by decide +kernel
theorem dL_law_900 : decode cL_law 900 = .ok (.iaload, 1) := by decide +kernel
theorem dL_law_901 : decode cL_law 901 = .ok (.invokevirtual 110, 3) := by decide +kernel
theorem dL_law_904 : decode cL_law 904 = .ok (.lcmp, 1) := by decide +kernel
theorem dL_law_905 : decode cL_law 905 = .ok (.ifCond .eq 268, 3) := by decide +kernel
theorem dL_law_908 : decode cL_law 908 = .ok (.iconst 0, 1) := by decide +kernel
theorem dL_law_909 : decode cL_law 909 = .ok (.ireturn, 1) := by decide +kernel
theorem dL_law_910 : decode cL_law 910 = .ok (.aload_n 1, 1) := by decide +kernel
theorem dL_law_911 : decode cL_law 911 = .ok (.aload_n 0, 1) := by decide +kernel
theorem dL_law_912 : decode cL_law 912 = .ok (.iload_n 3, 1) := by decide +kernel
theorem dL_law_913 : decode cL_law 913 = .ok (.iconst 1, 1) := by decide +kernel
theorem dL_law_914 : decode cL_law 914 = .ok (.iadd, 1) := by decide +kernel
theorem dL_law_915 : decode cL_law 915 = .ok (.iaload, 1) := by decide +kernel
theorem dL_law_916 : decode cL_law 916 = .ok (.aload_n 0, 1) := by decide +kernel
theorem dL_law_917 : decode cL_law 917 = .ok (.iload_n 3, 1) := by decide +kernel
theorem dL_law_918 : decode cL_law 918 = .ok (.iconst 2, 1) := by decide +kernel
theorem dL_law_919 : decode cL_law 919 = .ok (.iadd, 1) := by decide +kernel
theorem dL_law_920 : decode cL_law 920 = .ok (.iaload, 1) := by decide +kernel
theorem dL_law_921 : decode cL_law 921 = .ok (.invokevirtual 111, 3) := by decide +kernel
theorem dL_law_924 : decode cL_law 924 = .ok (.aload_n 2, 1) := by decide +kernel
theorem dL_law_925 : decode cL_law 925 = .ok (.aload_n 0, 1) := by decide +kernel
theorem dL_law_926 : decode cL_law 926 = .ok (.iload_n 3, 1) := by decide +kernel
theorem dL_law_927 : decode cL_law 927 = .ok (.iconst 1, 1) := by decide +kernel
theorem dL_law_928 : decode cL_law 928 = .ok (.iadd, 1) := by decide +kernel
theorem dL_law_929 : decode cL_law 929 = .ok (.iaload, 1) := by decide +kernel
theorem dL_law_930 : decode cL_law 930 = .ok (.aload_n 0, 1) := by decide +kernel
theorem dL_law_931 : decode cL_law 931 = .ok (.iload_n 3, 1) := by decide +kernel
theorem dL_law_932 : decode cL_law 932 = .ok (.iconst 2, 1) := by decide +kernel
theorem dL_law_933 : decode cL_law 933 = .ok (.iadd, 1) := by decide +kernel
theorem dL_law_934 : decode cL_law 934 = .ok (.iaload, 1) := by decide +kernel
theorem dL_law_935 : decode cL_law 935 = .ok (.invokevirtual 114, 3) := by decide +kernel
theorem dL_law_938 : decode cL_law 938 = .ok (.lcmp, 1) := by decide +kernel
theorem dL_law_939 : decode cL_law 939 = .ok (.ifCond .eq 234, 3) := by decide +kernel
theorem dL_law_942 : decode cL_law 942 = .ok (.iconst 0, 1) := by decide +kernel
theorem dL_law_943 : decode cL_law 943 = .ok (.ireturn, 1) := by decide +kernel
theorem dL_law_944 : decode cL_law 944 = .ok (.aload_n 1, 1) := by decide +kernel
theorem dL_law_945 : decode cL_law 945 = .ok (.aload_n 0, 1) := by decide +kernel
theorem dL_law_946 : decode cL_law 946 = .ok (.iload_n 3, 1) := by decide +kernel
theorem dL_law_947 : decode cL_law 947 = .ok (.iconst 1, 1) := by decide +kernel
theorem dL_law_948 : decode cL_law 948 = .ok (.iadd, 1) := by decide +kernel
theorem dL_law_949 : decode cL_law 949 = .ok (.iaload, 1) := by decide +kernel
theorem dL_law_950 : decode cL_law 950 = .ok (.aload_n 0, 1) := by decide +kernel
theorem dL_law_951 : decode cL_law 951 = .ok (.iload_n 3, 1) := by decide +kernel
theorem dL_law_952 : decode cL_law 952 = .ok (.iconst 2, 1) := by decide +kernel
theorem dL_law_953 : decode cL_law 953 = .ok (.iadd, 1) := by decide +kernel
theorem dL_law_954 : decode cL_law 954 = .ok (.iaload, 1) := by decide +kernel
theorem dL_law_955 : decode cL_law 955 = .ok (.invokevirtual 115, 3) := by decide +kernel
theorem dL_law_958 : decode cL_law 958 = .ok (.aload_n 2, 1) := by decide +kernel
theorem dL_law_959 : decode cL_law 959 = .ok (.aload_n 0, 1) := by decide +kernel
theorem dL_law_960 : decode cL_law 960 = .ok (.iload_n 3, 1) := by decide +kernel
theorem dL_law_961 : decode cL_law 961 = .ok (.iconst 1, 1) := by decide +kernel
theorem dL_law_962 : decode cL_law 962 = .ok (.iadd, 1) := by decide +kernel
theorem dL_law_963 : decode cL_law 963 = .ok (.iaload, 1) := by decide +kernel
theorem dL_law_964 : decode cL_law 964 = .ok (.aload_n 0, 1) := by decide +kernel
theorem dL_law_965 : decode cL_law 965 = .ok (.iload_n 3, 1) := by decide +kernel
theorem dL_law_966 : decode cL_law 966 = .ok (.iconst 2, 1) := by decide +kernel
theorem dL_law_967 : decode cL_law 967 = .ok (.iadd, 1) := by decide +kernel
theorem dL_law_968 : decode cL_law 968 = .ok (.iaload, 1) := by decide +kernel
theorem dL_law_969 : decode cL_law 969 = .ok (.invokevirtual 118, 3) := by decide +kernel
theorem dL_law_972 : decode cL_law 972 = .ok (.if_icmp .eq 201, 3) := by decide +kernel
theorem dL_law_975 : decode cL_law 975 = .ok (.iconst 0, 1) := by decide +kernel
theorem dL_law_976 : decode cL_law 976 = .ok (.ireturn, 1) := by decide +kernel
theorem dL_law_977 : decode cL_law 977 = .ok (.aload_n 1, 1) := by decide +kernel
theorem dL_law_978 : decode cL_law 978 = .ok (.aload_n 0, 1) := by decide +kernel
theorem dL_law_979 : decode cL_law 979 = .ok (.iload_n 3, 1) := by decide +kernel
theorem dL_law_980 : decode cL_law 980 = .ok (.iconst 1, 1) := by decide +kernel
theorem dL_law_981 : decode cL_law 981 = .ok (.iadd, 1) := by decide +kernel
theorem dL_law_982 : decode cL_law 982 = .ok (.iaload, 1) := by decide +kernel
theorem dL_law_983 : decode cL_law 983 = .ok (.invokevirtual 119, 3) := by decide +kernel
theorem dL_law_986 : decode cL_law 986 = .ok (.aload_n 2, 1) := by decide +kernel
theorem dL_law_987 : decode cL_law 987 = .ok (.aload_n 0, 1) := by decide +kernel
theorem dL_law_988 : decode cL_law 988 = .ok (.iload_n 3, 1) := by decide +kernel
theorem dL_law_989 : decode cL_law 989 = .ok (.iconst 1, 1) := by decide +kernel
theorem dL_law_990 : decode cL_law 990 = .ok (.iadd, 1) := by decide +kernel
theorem dL_law_991 : decode cL_law 991 = .ok (.iaload, 1) := by decide +kernel
theorem dL_law_992 : decode cL_law 992 = .ok (.invokevirtual 123, 3) := by decide +kernel
theorem dL_law_995 : decode cL_law 995 = .ok (.if_icmp .eq 178, 3) := by decide +kernel
theorem dL_law_998 : decode cL_law 998 = .ok (.iconst 0, 1) := by decide +kernel
theorem dL_law_999 : decode cL_law 999 = .ok (.ireturn, 1) := by decide +kernel
theorem dL_law_1000 : decode cL_law 1000 = .ok (.aload_n 1, 1) := by decide +kernel
theorem dL_law_1001 : decode cL_law 1001 = .ok (.aload_n 0, 1) := by decide +kernel
theorem dL_law_1002 : decode cL_law 1002 = .ok (.iload_n 3, 1) := by decide +kernel
theorem dL_law_1003 : decode cL_law 1003 = .ok (.iconst 1, 1) := by decide +kernel
theorem dL_law_1004 : decode cL_law 1004 = .ok (.iadd, 1) := by decide +kernel
theorem dL_law_1005 : decode cL_law 1005 = .ok (.iaload, 1) := by decide +kernel
theorem dL_law_1006 : decode cL_law 1006 = .ok (.aload_n 0, 1) := by decide +kernel
theorem dL_law_1007 : decode cL_law 1007 = .ok (.iload_n 3, 1) := by decide +kernel
theorem dL_law_1008 : decode cL_law 1008 = .ok (.iconst 2, 1) := by decide +kernel
theorem dL_law_1009 : decode cL_law 1009 = .ok (.iadd, 1) := by decide +kernel
theorem dL_law_1010 : decode cL_law 1010 = .ok (.iaload, 1) := by decide +kernel
theorem dL_law_1011 : decode cL_law 1011 = .ok (.invokevirtual 124, 3) := by decide +kernel
theorem dL_law_1014 : decode cL_law 1014 = .ok (.aload_n 2, 1) := by decide +kernel
theorem dL_law_1015 : decode cL_law 1015 = .ok (.aload_n 0, 1) := by decide +kernel
theorem dL_law_1016 : decode cL_law 1016 = .ok (.iload_n 3, 1) := by decide +kernel
theorem dL_law_1017 : decode cL_law 1017 = .ok (.iconst 1, 1) := by decide +kernel
theorem dL_law_1018 : decode cL_law 1018 = .ok (.iadd, 1) := by decide +kernel
theorem dL_law_1019 : decode cL_law 1019 = .ok (.iaload, 1) := by decide +kernel
theorem dL_law_1020 : decode cL_law 1020 = .ok (.aload_n 0, 1) := by decide +kernel
theorem dL_law_1021 : decode cL_law 1021 = .ok (.iload_n 3, 1) := by decide +kernel
theorem dL_law_1022 : decode cL_law 1022 = .ok (.iconst 2, 1) := by decide +kernel
theorem dL_law_1023 : decode cL_law 1023 = .ok (.iadd, 1) := by decide +kernel
theorem dL_law_1024 : decode cL_law 1024 = .ok (.iaload, 1) := by decide +kernel
theorem dL_law_1025 : decode cL_law 1025 = .ok (.invokevirtual 127, 3) := by decide +kernel
theorem dL_law_1028 : decode cL_law 1028 = .ok (.lcmp, 1) := by decide +kernel
theorem dL_law_1029 : decode cL_law 1029 = .ok (.ifCond .eq 144, 3) := by decide +kernel
theorem dL_law_1032 : decode cL_law 1032 = .ok (.iconst 0, 1) := by decide +kernel
theorem dL_law_1033 : decode cL_law 1033 = .ok (.ireturn, 1) := by decide +kernel
theorem dL_law_1034 : decode cL_law 1034 = .ok (.aload_n 1, 1) := by decide +kernel
theorem dL_law_1035 : decode cL_law 1035 = .ok (.aload_n 0, 1) := by decide +kernel
theorem dL_law_1036 : decode cL_law 1036 = .ok (.iload_n 3, 1) := by decide +kernel
theorem dL_law_1037 : decode cL_law 1037 = .ok (.iconst 1, 1) := by decide +kernel
theorem dL_law_1038 : decode cL_law 1038 = .ok (.iadd, 1) := by decide +kernel
theorem dL_law_1039 : decode cL_law 1039 = .ok (.iaload, 1) := by decide +kernel
theorem dL_law_1040 : decode cL_law 1040 = .ok (.aload_n 0, 1) := by decide +kernel
theorem dL_law_1041 : decode cL_law 1041 = .ok (.iload_n 3, 1) := by decide +kernel
theorem dL_law_1042 : decode cL_law 1042 = .ok (.iconst 2, 1) := by decide +kernel
theorem dL_law_1043 : decode cL_law 1043 = .ok (.iadd, 1) := by decide +kernel
theorem dL_law_1044 : decode cL_law 1044 = .ok (.iaload, 1) := by decide +kernel
theorem dL_law_1045 : decode cL_law 1045 = .ok (.invokevirtual 128, 3) := by decide +kernel
theorem dL_law_1048 : decode cL_law 1048 = .ok (.aload_n 2, 1) := by decide +kernel
theorem dL_law_1049 : decode cL_law 1049 = .ok (.aload_n 0, 1) := by decide +kernel
theorem dL_law_1050 : decode cL_law 1050 = .ok (.iload_n 3, 1) := by decide +kernel
theorem dL_law_1051 : decode cL_law 1051 = .ok (.iconst 1, 1) := by decide +kernel
theorem dL_law_1052 : decode cL_law 1052 = .ok (.iadd, 1) := by decide +kernel
theorem dL_law_1053 : decode cL_law 1053 = .ok (.iaload, 1) := by decide +kernel
theorem dL_law_1054 : decode cL_law 1054 = .ok (.aload_n 0, 1) := by decide +kernel
theorem dL_law_1055 : decode cL_law 1055 = .ok (.iload_n 3, 1) := by decide +kernel
theorem dL_law_1056 : decode cL_law 1056 = .ok (.iconst 2, 1) := by decide +kernel
theorem dL_law_1057 : decode cL_law 1057 = .ok (.iadd, 1) := by decide +kernel
theorem dL_law_1058 : decode cL_law 1058 = .ok (.iaload, 1) := by decide +kernel
theorem dL_law_1059 : decode cL_law 1059 = .ok (.invokevirtual 131, 3) := by decide +kernel
theorem dL_law_1062 : decode cL_law 1062 = .ok (.if_icmp .eq 111, 3) := by decide +kernel
theorem dL_law_1065 : decode cL_law 1065 = .ok (.iconst 0, 1) := by decide +kernel
theorem dL_law_1066 : decode cL_law 1066 = .ok (.ireturn, 1) := by decide +kernel
theorem dL_law_1067 : decode cL_law 1067 = .ok (.aload_n 1, 1) := by decide +kernel
theorem dL_law_1068 : decode cL_law 1068 = .ok (.aload_n 0, 1) := by decide +kernel
theorem dL_law_1069 : decode cL_law 1069 = .ok (.iload_n 3, 1) := by decide +kernel
theorem dL_law_1070 : decode cL_law 1070 = .ok (.iconst 1, 1) := by decide +kernel
theorem dL_law_1071 : decode cL_law 1071 = .ok (.iadd, 1) := by decide +kernel
theorem dL_law_1072 : decode cL_law 1072 = .ok (.iaload, 1) := by decide +kernel
theorem dL_law_1073 : decode cL_law 1073 = .ok (.aload_n 0, 1) := by decide +kernel
theorem dL_law_1074 : decode cL_law 1074 = .ok (.iload_n 3, 1) := by decide +kernel
theorem dL_law_1075 : decode cL_law 1075 = .ok (.iconst 2, 1) := by decide +kernel
theorem dL_law_1076 : decode cL_law 1076 = .ok (.iadd, 1) := by decide +kernel
theorem dL_law_1077 : decode cL_law 1077 = .ok (.iaload, 1) := by decide +kernel
theorem dL_law_1078 : decode cL_law 1078 = .ok (.invokevirtual 132, 3) := by decide +kernel
theorem dL_law_1081 : decode cL_law 1081 = .ok (.aload_n 2, 1) := by decide +kernel
theorem dL_law_1082 : decode cL_law 1082 = .ok (.aload_n 0, 1) := by decide +kernel
theorem dL_law_1083 : decode cL_law 1083 = .ok (.iload_n 3, 1) := by decide +kernel
theorem dL_law_1084 : decode cL_law 1084 = .ok (.iconst 1, 1) := by decide +kernel
theorem dL_law_1085 : decode cL_law 1085 = .ok (.iadd, 1) := by decide +kernel
theorem dL_law_1086 : decode cL_law 1086 = .ok (.iaload, 1) := by decide +kernel
theorem dL_law_1087 : decode cL_law 1087 = .ok (.aload_n 0, 1) := by decide +kernel
theorem dL_law_1088 : decode cL_law 1088 = .ok (.iload_n 3, 1) := by decide +kernel
theorem dL_law_1089 : decode cL_law 1089 = .ok (.iconst 2, 1) := by decide +kernel
theorem dL_law_1090 : decode cL_law 1090 = .ok (.iadd, 1) := by decide +kernel
theorem dL_law_1091 : decode cL_law 1091 = .ok (.iaload, 1) := by decide +kernel
theorem dL_law_1092 : decode cL_law 1092 = .ok (.invokevirtual 135, 3) := by decide +kernel
theorem dL_law_1095 : decode cL_law 1095 = .ok (.lcmp, 1) := by decide +kernel
theorem dL_law_1096 : decode cL_law 1096 = .ok (.ifCond .eq 77, 3) := by decide +kernel
theorem dL_law_1099 : decode cL_law 1099 = .ok (.iconst 0, 1) := by decide +kernel
theorem dL_law_1100 : decode cL_law 1100 = .ok (.ireturn, 1) := by decide +kernel
theorem dL_law_1101 : decode cL_law 1101 = .ok (.aload_n 1, 1) := by decide +kernel
theorem dL_law_1102 : decode cL_law 1102 = .ok (.aload_n 0, 1) := by decide +kernel
theorem dL_law_1103 : decode cL_law 1103 = .ok (.iload_n 3, 1) := by decide +kernel
theorem dL_law_1104 : decode cL_law 1104 = .ok (.iconst 1, 1) := by decide +kernel
theorem dL_law_1105 : decode cL_law 1105 = .ok (.iadd, 1) := by decide +kernel
theorem dL_law_1106 : decode cL_law 1106 = .ok (.iaload, 1) := by decide +kernel
theorem dL_law_1107 : decode cL_law 1107 = .ok (.invokevirtual 136, 3) := by decide +kernel
theorem dL_law_1110 : decode cL_law 1110 = .ok (.aload_n 2, 1) := by decide +kernel
theorem dL_law_1111 : decode cL_law 1111 = .ok (.aload_n 0, 1) := by decide +kernel
theorem dL_law_1112 : decode cL_law 1112 = .ok (.iload_n 3, 1) := by decide +kernel
theorem dL_law_1113 : decode cL_law 1113 = .ok (.iconst 1, 1) := by decide +kernel
theorem dL_law_1114 : decode cL_law 1114 = .ok (.iadd, 1) := by decide +kernel
theorem dL_law_1115 : decode cL_law 1115 = .ok (.iaload, 1) := by decide +kernel
theorem dL_law_1116 : decode cL_law 1116 = .ok (.invokevirtual 139, 3) := by decide +kernel
theorem dL_law_1119 : decode cL_law 1119 = .ok (.if_icmp .eq 54, 3) := by decide +kernel
theorem dL_law_1122 : decode cL_law 1122 = .ok (.iconst 0, 1) := by decide +kernel
theorem dL_law_1123 : decode cL_law 1123 = .ok (.ireturn, 1) := by decide +kernel
theorem dL_law_1124 : decode cL_law 1124 = .ok (.aload_n 1, 1) := by decide +kernel
theorem dL_law_1125 : decode cL_law 1125 = .ok (.invokevirtual 140, 3) := by decide +kernel
theorem dL_law_1128 : decode cL_law 1128 = .ok (.aload_n 2, 1) := by decide +kernel
theorem dL_law_1129 : decode cL_law 1129 = .ok (.invokevirtual 144, 3) := by decide +kernel
theorem dL_law_1132 : decode cL_law 1132 = .ok (.if_icmp .eq 41, 3) := by decide +kernel
theorem dL_law_1135 : decode cL_law 1135 = .ok (.iconst 0, 1) := by decide +kernel
theorem dL_law_1136 : decode cL_law 1136 = .ok (.ireturn, 1) := by decide +kernel
theorem dL_law_1137 : decode cL_law 1137 = .ok (.aload_n 1, 1) := by decide +kernel
theorem dL_law_1138 : decode cL_law 1138 = .ok (.invokevirtual 145, 3) := by decide +kernel
theorem dL_law_1141 : decode cL_law 1141 = .ok (.aload_n 2, 1) := by decide +kernel
theorem dL_law_1142 : decode cL_law 1142 = .ok (.invokevirtual 149, 3) := by decide +kernel
theorem dL_law_1145 : decode cL_law 1145 = .ok (.if_icmp .eq 28, 3) := by decide +kernel
theorem dL_law_1148 : decode cL_law 1148 = .ok (.iconst 0, 1) := by decide +kernel
theorem dL_law_1149 : decode cL_law 1149 = .ok (.ireturn, 1) := by decide +kernel
theorem dL_law_1150 : decode cL_law 1150 = .ok (.aload_n 1, 1) := by decide +kernel
theorem dL_law_1151 : decode cL_law 1151 = .ok (.aload_n 0, 1) := by decide +kernel
theorem dL_law_1152 : decode cL_law 1152 = .ok (.iload_n 3, 1) := by decide +kernel
theorem dL_law_1153 : decode cL_law 1153 = .ok (.iconst 1, 1) := by decide +kernel
theorem dL_law_1154 : decode cL_law 1154 = .ok (.iadd, 1) := by decide +kernel
theorem dL_law_1155 : decode cL_law 1155 = .ok (.iaload, 1) := by decide +kernel
theorem dL_law_1156 : decode cL_law 1156 = .ok (.invokevirtual 150, 3) := by decide +kernel
theorem dL_law_1159 : decode cL_law 1159 = .ok (.aload_n 2, 1) := by decide +kernel
theorem dL_law_1160 : decode cL_law 1160 = .ok (.aload_n 0, 1) := by decide +kernel
theorem dL_law_1161 : decode cL_law 1161 = .ok (.iload_n 3, 1) := by decide +kernel
theorem dL_law_1162 : decode cL_law 1162 = .ok (.iconst 1, 1) := by decide +kernel
theorem dL_law_1163 : decode cL_law 1163 = .ok (.iadd, 1) := by decide +kernel
theorem dL_law_1164 : decode cL_law 1164 = .ok (.iaload, 1) := by decide +kernel
theorem dL_law_1165 : decode cL_law 1165 = .ok (.invokevirtual 153, 3) := by decide +kernel
theorem dL_law_1168 : decode cL_law 1168 = .ok (.if_icmp .eq 5, 3) := by decide +kernel
theorem dL_law_1171 : decode cL_law 1171 = .ok (.iconst 0, 1) := by decide +kernel
theorem dL_law_1172 : decode cL_law 1172 = .ok (.ireturn, 1) := by decide +kernel
theorem dL_law_1173 : decode cL_law 1173 = .ok (.iinc 3 6, 3) := by decide +kernel
theorem dL_law_1176 : decode cL_law 1176 = .ok (.goto (-1158), 3) := by decide +kernel
theorem dL_law_1179 : decode cL_law 1179 = .ok (.iconst 1, 1) := by decide +kernel
theorem dL_law_1180 : decode cL_law 1180 = .ok (.ireturn, 1) := by decide +kernel
theorem mVX9_feed : kw_MV μX9_feed 5 := ⟨⟨kw_word 111 (by decide +kernel) rfl, kw_word 485 (by decide +kernel) rfl, by decide +kernel, Nat.le_of_ble_eq_true rfl⟩, kw_word 483 (by decide +kernel) rfl, kw_word 484 (by decide +kernel) rfl⟩
theorem mVX10_feed : kw_MV μX10_feed 5 := ⟨⟨kw_word 122 (by decide +kernel) rfl, kw_word 1385 (by decide +kernel) rfl, by decide +kernel, Nat.le_of_ble_eq_true rfl⟩, kw_word 1383 (by decide +kernel) rfl, kw_word 1384 (by decide +kernel) rfl⟩
theorem mVX9_net : kw_MV μX9_net 1 := ⟨⟨kw_word 111 (by decide +kernel) rfl, kw_word 493 (by decide +kernel) rfl, by decide +kernel, Nat.le_of_ble_eq_true rfl⟩, kw_word 491 (by decide +kernel) rfl, kw_word 492 (by decide +kernel) rfl⟩
theorem mVX10_net : kw_MV μX10_net 1 := ⟨⟨kw_word 122 (by decide +kernel) rfl, kw_word 1393 (by decide +kernel) rfl, by decide +kernel, Nat.le_of_ble_eq_true rfl⟩, kw_word 1391 (by decide +kernel) rfl, kw_word 1392 (by decide +kernel) rfl⟩
theorem mVX9_orders : kw_MV μX9_orders 1 := ⟨⟨kw_word 111 (by decide +kernel) rfl, kw_word 658 (by decide +kernel) rfl, by decide +kernel, Nat.le_of_ble_eq_true rfl⟩, kw_word 656 (by decide +kernel) rfl, kw_word 657 (by decide +kernel) rfl⟩
theorem mVX10_orders : kw_MV μX10_orders 1 := ⟨⟨kw_word 122 (by decide +kernel) rfl, kw_word 1469 (by decide +kernel) rfl, by decide +kernel, Nat.le_of_ble_eq_true rfl⟩, kw_word 1467 (by decide +kernel) rfl, kw_word 1468 (by decide +kernel) rfl⟩
theorem mVX9_lay : kw_MV μX9_lay 3 := ⟨⟨kw_word 111 (by decide +kernel) rfl, kw_word 755 (by decide +kernel) rfl, by decide +kernel, Nat.le_of_ble_eq_true rfl⟩, kw_word 753 (by decide +kernel) rfl, kw_word 754 (by decide +kernel) rfl⟩
theorem mVX9_length : kw_MV μX9_length 2 := ⟨⟨kw_word 111 (by decide +kernel) rfl, kw_word 759 (by decide +kernel) rfl, by decide +kernel, Nat.le_of_ble_eq_true rfl⟩, kw_word 757 (by decide +kernel) rfl, kw_word 758 (by decide +kernel) rfl⟩
theorem mVX9_close : kw_MV μX9_close 1 := ⟨⟨kw_word 111 (by decide +kernel) rfl, kw_word 763 (by decide +kernel) rfl, by decide +kernel, Nat.le_of_ble_eq_true rfl⟩, kw_word 761 (by decide +kernel) rfl, kw_word 762 (by decide +kernel) rfl⟩
theorem mVX9_open : kw_MV μX9_open 1 := ⟨⟨kw_word 111 (by decide +kernel) rfl, kw_word 767 (by decide +kernel) rfl, by decide +kernel, Nat.le_of_ble_eq_true rfl⟩, kw_word 765 (by decide +kernel) rfl, kw_word 766 (by decide +kernel) rfl⟩
theorem mVX9_origin : kw_MV μX9_origin 1 := ⟨⟨kw_word 111 (by decide +kernel) rfl, kw_word 771 (by decide +kernel) rfl, by decide +kernel, Nat.le_of_ble_eq_true rfl⟩, kw_word 769 (by decide +kernel) rfl, kw_word 770 (by decide +kernel) rfl⟩
theorem mVX9_count : kw_MV μX9_count 1 := ⟨⟨kw_word 111 (by decide +kernel) rfl, kw_word 775 (by decide +kernel) rfl, by decide +kernel, Nat.le_of_ble_eq_true rfl⟩, kw_word 773 (by decide +kernel) rfl, kw_word 774 (by decide +kernel) rfl⟩
theorem mVX10_count : kw_MV μX10_count 1 := ⟨⟨kw_word 122 (by decide +kernel) rfl, kw_word 1582 (by decide +kernel) rfl, by decide +kernel, Nat.le_of_ble_eq_true rfl⟩, kw_word 1580 (by decide +kernel) rfl, kw_word 1581 (by decide +kernel) rfl⟩
theorem mVX9_road : kw_MV μX9_road 2 := ⟨⟨kw_word 111 (by decide +kernel) rfl, kw_word 830 (by decide +kernel) rfl, by decide +kernel, Nat.le_of_ble_eq_true rfl⟩, kw_word 828 (by decide +kernel) rfl, kw_word 829 (by decide +kernel) rfl⟩
theorem mVX10_road : kw_MV μX10_road 2 := ⟨⟨kw_word 122 (by decide +kernel) rfl, kw_word 1610 (by decide +kernel) rfl, by decide +kernel, Nat.le_of_ble_eq_true rfl⟩, kw_word 1608 (by decide +kernel) rfl, kw_word 1609 (by decide +kernel) rfl⟩
theorem mVX9_change : kw_MV μX9_change 2 := ⟨⟨kw_word 111 (by decide +kernel) rfl, kw_word 835 (by decide +kernel) rfl, by decide +kernel, Nat.le_of_ble_eq_true rfl⟩, kw_word 833 (by decide +kernel) rfl, kw_word 834 (by decide +kernel) rfl⟩
theorem mVX10_change : kw_MV μX10_change 2 := ⟨⟨kw_word 122 (by decide +kernel) rfl, kw_word 1615 (by decide +kernel) rfl, by decide +kernel, Nat.le_of_ble_eq_true rfl⟩, kw_word 1613 (by decide +kernel) rfl, kw_word 1614 (by decide +kernel) rfl⟩
theorem mVX9_town : kw_MV μX9_town 2 := ⟨⟨kw_word 111 (by decide +kernel) rfl, kw_word 845 (by decide +kernel) rfl, by decide +kernel, Nat.le_of_ble_eq_true rfl⟩, kw_word 843 (by decide +kernel) rfl, kw_word 844 (by decide +kernel) rfl⟩
theorem mVX10_town : kw_MV μX10_town 2 := ⟨⟨kw_word 122 (by decide +kernel) rfl, kw_word 1490 (by decide +kernel) rfl, by decide +kernel, Nat.le_of_ble_eq_true rfl⟩, kw_word 1488 (by decide +kernel) rfl, kw_word 1489 (by decide +kernel) rfl⟩
theorem mVX9_way : kw_MV μX9_way 2 := ⟨⟨kw_word 111 (by decide +kernel) rfl, kw_word 978 (by decide +kernel) rfl, by decide +kernel, Nat.le_of_ble_eq_true rfl⟩, kw_word 976 (by decide +kernel) rfl, kw_word 977 (by decide +kernel) rfl⟩
theorem mVX10_way : kw_MV μX10_way 2 := ⟨⟨kw_word 122 (by decide +kernel) rfl, kw_word 1619 (by decide +kernel) rfl, by decide +kernel, Nat.le_of_ble_eq_true rfl⟩, kw_word 1617 (by decide +kernel) rfl, kw_word 1618 (by decide +kernel) rfl⟩
theorem mVX9_needed : kw_MV μX9_needed 2 := ⟨⟨kw_word 111 (by decide +kernel) rfl, kw_word 982 (by decide +kernel) rfl, by decide +kernel, Nat.le_of_ble_eq_true rfl⟩, kw_word 980 (by decide +kernel) rfl, kw_word 981 (by decide +kernel) rfl⟩
theorem mVX10_needed : kw_MV μX10_needed 2 := ⟨⟨kw_word 122 (by decide +kernel) rfl, kw_word 1623 (by decide +kernel) rfl, by decide +kernel, Nat.le_of_ble_eq_true rfl⟩, kw_word 1621 (by decide +kernel) rfl, kw_word 1622 (by decide +kernel) rfl⟩
theorem mVX9_touched : kw_MV μX9_touched 1 := ⟨⟨kw_word 111 (by decide +kernel) rfl, kw_word 986 (by decide +kernel) rfl, by decide +kernel, Nat.le_of_ble_eq_true rfl⟩, kw_word 984 (by decide +kernel) rfl, kw_word 985 (by decide +kernel) rfl⟩
theorem mVX10_touched : kw_MV μX10_touched 1 := ⟨⟨kw_word 122 (by decide +kernel) rfl, kw_word 1381 (by decide +kernel) rfl, by decide +kernel, Nat.le_of_ble_eq_true rfl⟩, kw_word 1379 (by decide +kernel) rfl, kw_word 1380 (by decide +kernel) rfl⟩
theorem mVX9_without : kw_MV μX9_without 2 := ⟨⟨kw_word 111 (by decide +kernel) rfl, kw_word 990 (by decide +kernel) rfl, by decide +kernel, Nat.le_of_ble_eq_true rfl⟩, kw_word 988 (by decide +kernel) rfl, kw_word 989 (by decide +kernel) rfl⟩
theorem mVX10_without : kw_MV μX10_without 2 := ⟨⟨kw_word 122 (by decide +kernel) rfl, kw_word 1627 (by decide +kernel) rfl, by decide +kernel, Nat.le_of_ble_eq_true rfl⟩, kw_word 1625 (by decide +kernel) rfl, kw_word 1626 (by decide +kernel) rfl⟩
theorem mVX9_between : kw_MV μX9_between 2 := ⟨⟨kw_word 111 (by decide +kernel) rfl, kw_word 994 (by decide +kernel) rfl, by decide +kernel, Nat.le_of_ble_eq_true rfl⟩, kw_word 992 (by decide +kernel) rfl, kw_word 993 (by decide +kernel) rfl⟩
theorem mVX10_between : kw_MV μX10_between 2 := ⟨⟨kw_word 122 (by decide +kernel) rfl, kw_word 1631 (by decide +kernel) rfl, by decide +kernel, Nat.le_of_ble_eq_true rfl⟩, kw_word 1629 (by decide +kernel) rfl, kw_word 1630 (by decide +kernel) rfl⟩
theorem mVX9_free : kw_MV μX9_free 2 := ⟨⟨kw_word 111 (by decide +kernel) rfl, kw_word 999 (by decide +kernel) rfl, by decide +kernel, Nat.le_of_ble_eq_true rfl⟩, kw_word 997 (by decide +kernel) rfl, kw_word 998 (by decide +kernel) rfl⟩
theorem mVX10_free : kw_MV μX10_free 2 := ⟨⟨kw_word 122 (by decide +kernel) rfl, kw_word 1635 (by decide +kernel) rfl, by decide +kernel, Nat.le_of_ble_eq_true rfl⟩, kw_word 1633 (by decide +kernel) rfl, kw_word 1634 (by decide +kernel) rfl⟩
theorem mVX9_hops : kw_MV μX9_hops 2 := ⟨⟨kw_word 111 (by decide +kernel) rfl, kw_word 1012 (by decide +kernel) rfl, by decide +kernel, Nat.le_of_ble_eq_true rfl⟩, kw_word 1010 (by decide +kernel) rfl, kw_word 1011 (by decide +kernel) rfl⟩
theorem mVX10_hops : kw_MV μX10_hops 2 := ⟨⟨kw_word 122 (by decide +kernel) rfl, kw_word 1644 (by decide +kernel) rfl, by decide +kernel, Nat.le_of_ble_eq_true rfl⟩, kw_word 1642 (by decide +kernel) rfl, kw_word 1643 (by decide +kernel) rfl⟩
theorem mVX9_meet : kw_MV μX9_meet 2 := ⟨⟨kw_word 111 (by decide +kernel) rfl, kw_word 1026 (by decide +kernel) rfl, by decide +kernel, Nat.le_of_ble_eq_true rfl⟩, kw_word 1024 (by decide +kernel) rfl, kw_word 1025 (by decide +kernel) rfl⟩
theorem mVX10_meet : kw_MV μX10_meet 2 := ⟨⟨kw_word 122 (by decide +kernel) rfl, kw_word 1682 (by decide +kernel) rfl, by decide +kernel, Nat.le_of_ble_eq_true rfl⟩, kw_word 1680 (by decide +kernel) rfl, kw_word 1681 (by decide +kernel) rfl⟩
theorem mVX9_through : kw_MV μX9_through 2 := ⟨⟨kw_word 111 (by decide +kernel) rfl, kw_word 1044 (by decide +kernel) rfl, by decide +kernel, Nat.le_of_ble_eq_true rfl⟩, kw_word 1042 (by decide +kernel) rfl, kw_word 1043 (by decide +kernel) rfl⟩
theorem mVX10_through : kw_MV μX10_through 2 := ⟨⟨kw_word 122 (by decide +kernel) rfl, kw_word 1690 (by decide +kernel) rfl, by decide +kernel, Nat.le_of_ble_eq_true rfl⟩, kw_word 1688 (by decide +kernel) rfl, kw_word 1689 (by decide +kernel) rfl⟩
theorem mVX9_shortcut : kw_MV μX9_shortcut 2 := ⟨⟨kw_word 111 (by decide +kernel) rfl, kw_word 1049 (by decide +kernel) rfl, by decide +kernel, Nat.le_of_ble_eq_true rfl⟩, kw_word 1047 (by decide +kernel) rfl, kw_word 1048 (by decide +kernel) rfl⟩
theorem mVX10_shortcut : kw_MV μX10_shortcut 2 := ⟨⟨kw_word 122 (by decide +kernel) rfl, kw_word 1694 (by decide +kernel) rfl, by decide +kernel, Nat.le_of_ble_eq_true rfl⟩, kw_word 1692 (by decide +kernel) rfl, kw_word 1693 (by decide +kernel) rfl⟩
theorem mVX9_mean : kw_MV μX9_mean 1 := ⟨⟨kw_word 111 (by decide +kernel) rfl, kw_word 1066 (by decide +kernel) rfl, by decide +kernel, Nat.le_of_ble_eq_true rfl⟩, kw_word 1064 (by decide +kernel) rfl, kw_word 1065 (by decide +kernel) rfl⟩
theorem mVX10_mean : kw_MV μX10_mean 1 := ⟨⟨kw_word 122 (by decide +kernel) rfl, kw_word 1657 (by decide +kernel) rfl, by decide +kernel, Nat.le_of_ble_eq_true rfl⟩, kw_word 1655 (by decide +kernel) rfl, kw_word 1656 (by decide +kernel) rfl⟩
theorem mVX9_round : kw_MV μX9_round 2 := ⟨⟨kw_word 111 (by decide +kernel) rfl, kw_word 1084 (by decide +kernel) rfl, by decide +kernel, Nat.le_of_ble_eq_true rfl⟩, kw_word 1082 (by decide +kernel) rfl, kw_word 1083 (by decide +kernel) rfl⟩
theorem mVX10_round : kw_MV μX10_round 2 := ⟨⟨kw_word 122 (by decide +kernel) rfl, kw_word 1664 (by decide +kernel) rfl, by decide +kernel, Nat.le_of_ble_eq_true rfl⟩, kw_word 1662 (by decide +kernel) rfl, kw_word 1663 (by decide +kernel) rfl⟩
theorem mVX9_watch : kw_MV μX9_watch 2 := ⟨⟨kw_word 111 (by decide +kernel) rfl, kw_word 1109 (by decide +kernel) rfl, by decide +kernel, Nat.le_of_ble_eq_true rfl⟩, kw_word 1107 (by decide +kernel) rfl, kw_word 1108 (by decide +kernel) rfl⟩
theorem mVX9_forget : kw_MV μX9_forget 1 := ⟨⟨kw_word 111 (by decide +kernel) rfl, kw_word 1113 (by decide +kernel) rfl, by decide +kernel, Nat.le_of_ble_eq_true rfl⟩, kw_word 1111 (by decide +kernel) rfl, kw_word 1112 (by decide +kernel) rfl⟩
theorem mVX9_event : kw_MV μX9_event 2 := ⟨⟨kw_word 111 (by decide +kernel) rfl, kw_word 1117 (by decide +kernel) rfl, by decide +kernel, Nat.le_of_ble_eq_true rfl⟩, kw_word 1115 (by decide +kernel) rfl, kw_word 1116 (by decide +kernel) rfl⟩
theorem mVX10_event : kw_MV μX10_event 2 := ⟨⟨kw_word 122 (by decide +kernel) rfl, kw_word 1704 (by decide +kernel) rfl, by decide +kernel, Nat.le_of_ble_eq_true rfl⟩, kw_word 1702 (by decide +kernel) rfl, kw_word 1703 (by decide +kernel) rfl⟩
theorem mVX9_ifLength : kw_MV μX9_ifLength 2 := ⟨⟨kw_word 111 (by decide +kernel) rfl, kw_word 1121 (by decide +kernel) rfl, by decide +kernel, Nat.le_of_ble_eq_true rfl⟩, kw_word 1119 (by decide +kernel) rfl, kw_word 1120 (by decide +kernel) rfl⟩
theorem mVX10_ifLength : kw_MV μX10_ifLength 2 := ⟨⟨kw_word 122 (by decide +kernel) rfl, kw_word 1708 (by decide +kernel) rfl, by decide +kernel, Nat.le_of_ble_eq_true rfl⟩, kw_word 1706 (by decide +kernel) rfl, kw_word 1707 (by decide +kernel) rfl⟩
theorem mVX9_drawn : kw_MV μX9_drawn 2 := ⟨⟨kw_word 111 (by decide +kernel) rfl, kw_word 1129 (by decide +kernel) rfl, by decide +kernel, Nat.le_of_ble_eq_true rfl⟩, kw_word 1127 (by decide +kernel) rfl, kw_word 1128 (by decide +kernel) rfl⟩
theorem mVX10_drawn : kw_MV μX10_drawn 2 := ⟨⟨kw_word 122 (by decide +kernel) rfl, kw_word 1712 (by decide +kernel) rfl, by decide +kernel, Nat.le_of_ble_eq_true rfl⟩, kw_word 1710 (by decide +kernel) rfl, kw_word 1711 (by decide +kernel) rfl⟩
theorem mVX9_seed : kw_MV μX9_seed 1 := ⟨⟨kw_word 111 (by decide +kernel) rfl, kw_word 1147 (by decide +kernel) rfl, by decide +kernel, Nat.le_of_ble_eq_true rfl⟩, kw_word 1145 (by decide +kernel) rfl, kw_word 1146 (by decide +kernel) rfl⟩
theorem mVX10_seed : kw_MV μX10_seed 1 := ⟨⟨kw_word 122 (by decide +kernel) rfl, kw_word 1732 (by decide +kernel) rfl, by decide +kernel, Nat.le_of_ble_eq_true rfl⟩, kw_word 1730 (by decide +kernel) rfl, kw_word 1731 (by decide +kernel) rfl⟩
theorem mVX9_keep : kw_MV μX9_keep 0 := ⟨⟨kw_word 111 (by decide +kernel) rfl, kw_word 1151 (by decide +kernel) rfl, by decide +kernel, Nat.le_of_ble_eq_true rfl⟩, kw_word 1149 (by decide +kernel) rfl, kw_word 1150 (by decide +kernel) rfl⟩
theorem mVX10_keep : kw_MV μX10_keep 0 := ⟨⟨kw_word 122 (by decide +kernel) rfl, kw_word 1737 (by decide +kernel) rfl, by decide +kernel, Nat.le_of_ble_eq_true rfl⟩, kw_word 1735 (by decide +kernel) rfl, kw_word 1736 (by decide +kernel) rfl⟩
theorem mVX9_undo : kw_MV μX9_undo 0 := ⟨⟨kw_word 111 (by decide +kernel) rfl, kw_word 1164 (by decide +kernel) rfl, by decide +kernel, Nat.le_of_ble_eq_true rfl⟩, kw_word 1162 (by decide +kernel) rfl, kw_word 1163 (by decide +kernel) rfl⟩
theorem mVX10_undo : kw_MV μX10_undo 0 := ⟨⟨kw_word 122 (by decide +kernel) rfl, kw_word 1741 (by decide +kernel) rfl, by decide +kernel, Nat.le_of_ble_eq_true rfl⟩, kw_word 1739 (by decide +kernel) rfl, kw_word 1740 (by decide +kernel) rfl⟩
theorem mVX9_check : kw_MV μX9_check 1 := ⟨⟨kw_word 111 (by decide +kernel) rfl, kw_word 1168 (by decide +kernel) rfl, by decide +kernel, Nat.le_of_ble_eq_true rfl⟩, kw_word 1166 (by decide +kernel) rfl, kw_word 1167 (by decide +kernel) rfl⟩
theorem mVX10_check : kw_MV μX10_check 1 := ⟨⟨kw_word 122 (by decide +kernel) rfl, kw_word 1745 (by decide +kernel) rfl, by decide +kernel, Nat.le_of_ble_eq_true rfl⟩, kw_word 1743 (by decide +kernel) rfl, kw_word 1744 (by decide +kernel) rfl⟩
theorem lmRL_13 : Cond.methodLink RL 13 yX9_feed ∈ kw_all := kw_word 482 (by decide +kernel) rfl
theorem lmRL_17 : Cond.methodLink RL 17 yX10_feed ∈ kw_all := kw_word 1382 (by decide +kernel) rfl
theorem lmRL_18 : Cond.methodLink RL 18 yX9_net ∈ kw_all := kw_word 490 (by decide +kernel) rfl
theorem lmRL_22 : Cond.methodLink RL 22 yX10_net ∈ kw_all := kw_word 1390 (by decide +kernel) rfl
theorem lmRL_23 : Cond.methodLink RL 23 yX9_orders ∈ kw_all := kw_word 655 (by decide +kernel) rfl
theorem lmRL_26 : Cond.methodLink RL 26 yX10_orders ∈ kw_all := kw_word 1466 (by decide +kernel) rfl
theorem lmRL_27 : Cond.methodLink RL 27 yX9_lay ∈ kw_all := kw_word 752 (by decide +kernel) rfl
theorem lmRL_31 : Cond.methodLink RL 31 yX10_lay ∈ kw_all := kw_word 1277 (by decide +kernel) rfl
theorem lmRL_32 : Cond.methodLink RL 32 yX9_length ∈ kw_all := kw_word 756 (by decide +kernel) rfl
theorem lmRL_36 : Cond.methodLink RL 36 yX10_length ∈ kw_all := kw_word 1354 (by decide +kernel) rfl
theorem lmRL_37 : Cond.methodLink RL 37 yX9_close ∈ kw_all := kw_word 760 (by decide +kernel) rfl
theorem lmRL_40 : Cond.methodLink RL 40 yX10_close ∈ kw_all := kw_word 1362 (by decide +kernel) rfl
theorem lmRL_41 : Cond.methodLink RL 41 yX9_open ∈ kw_all := kw_word 764 (by decide +kernel) rfl
theorem lmRL_44 : Cond.methodLink RL 44 yX10_open ∈ kw_all := kw_word 1370 (by decide +kernel) rfl
theorem lmRL_45 : Cond.methodLink RL 45 yX9_origin ∈ kw_all := kw_word 768 (by decide +kernel) rfl
theorem lmRL_48 : Cond.methodLink RL 48 yX10_origin ∈ kw_all := kw_word 1374 (by decide +kernel) rfl
theorem lmRL_49 : Cond.methodLink RL 49 yX9_count ∈ kw_all := kw_word 772 (by decide +kernel) rfl
theorem lmRL_52 : Cond.methodLink RL 52 yX10_count ∈ kw_all := kw_word 1579 (by decide +kernel) rfl
theorem lmRL_53 : Cond.methodLink RL 53 yX9_road ∈ kw_all := kw_word 827 (by decide +kernel) rfl
theorem lmRL_57 : Cond.methodLink RL 57 yX10_road ∈ kw_all := kw_word 1607 (by decide +kernel) rfl
theorem lmRL_58 : Cond.methodLink RL 58 yX9_change ∈ kw_all := kw_word 832 (by decide +kernel) rfl
theorem lmRL_61 : Cond.methodLink RL 61 yX10_change ∈ kw_all := kw_word 1612 (by decide +kernel) rfl
theorem lmRL_62 : Cond.methodLink RL 62 yX9_town ∈ kw_all := kw_word 842 (by decide +kernel) rfl
theorem lmRL_65 : Cond.methodLink RL 65 yX10_town ∈ kw_all := kw_word 1487 (by decide +kernel) rfl
theorem lmRL_66 : Cond.methodLink RL 66 yX9_way ∈ kw_all := kw_word 975 (by decide +kernel) rfl
theorem lmRL_69 : Cond.methodLink RL 69 yX10_way ∈ kw_all := kw_word 1616 (by decide +kernel) rfl
theorem lmRL_70 : Cond.methodLink RL 70 yX9_needed ∈ kw_all := kw_word 979 (by decide +kernel) rfl
theorem lmRL_73 : Cond.methodLink RL 73 yX10_needed ∈ kw_all := kw_word 1620 (by decide +kernel) rfl
theorem lmRL_74 : Cond.methodLink RL 74 yX9_touched ∈ kw_all := kw_word 983 (by decide +kernel) rfl
theorem lmRL_77 : Cond.methodLink RL 77 yX10_touched ∈ kw_all := kw_word 1378 (by decide +kernel) rfl
theorem lmRL_78 : Cond.methodLink RL 78 yX9_without ∈ kw_all := kw_word 987 (by decide +kernel) rfl
theorem lmRL_81 : Cond.methodLink RL 81 yX10_without ∈ kw_all := kw_word 1624 (by decide +kernel) rfl
theorem lmRL_82 : Cond.methodLink RL 82 yX9_between ∈ kw_all := kw_word 991 (by decide +kernel) rfl
theorem lmRL_85 : Cond.methodLink RL 85 yX10_between ∈ kw_all := kw_word 1628 (by decide +kernel) rfl
theorem lmRL_86 : Cond.methodLink RL 86 yX9_free ∈ kw_all := kw_word 996 (by decide +kernel) rfl
theorem lmRL_89 : Cond.methodLink RL 89 yX10_free ∈ kw_all := kw_word 1632 (by decide +kernel) rfl
theorem lmRL_90 : Cond.methodLink RL 90 yX9_hops ∈ kw_all := kw_word 1009 (by decide +kernel) rfl
theorem lmRL_93 : Cond.methodLink RL 93 yX10_hops ∈ kw_all := kw_word 1641 (by decide +kernel) rfl
theorem lmRL_94 : Cond.methodLink RL 94 yX9_meet ∈ kw_all := kw_word 1023 (by decide +kernel) rfl
theorem lmRL_97 : Cond.methodLink RL 97 yX10_meet ∈ kw_all := kw_word 1679 (by decide +kernel) rfl
theorem lmRL_98 : Cond.methodLink RL 98 yX9_through ∈ kw_all := kw_word 1041 (by decide +kernel) rfl
theorem lmRL_101 : Cond.methodLink RL 101 yX10_through ∈ kw_all := kw_word 1687 (by decide +kernel) rfl
theorem lmRL_102 : Cond.methodLink RL 102 yX9_shortcut ∈ kw_all := kw_word 1046 (by decide +kernel) rfl
theorem lmRL_105 : Cond.methodLink RL 105 yX10_shortcut ∈ kw_all := kw_word 1691 (by decide +kernel) rfl
theorem lmRL_106 : Cond.methodLink RL 106 yX9_mean ∈ kw_all := kw_word 1063 (by decide +kernel) rfl
theorem lmRL_110 : Cond.methodLink RL 110 yX10_mean ∈ kw_all := kw_word 1654 (by decide +kernel) rfl
theorem lmRL_111 : Cond.methodLink RL 111 yX9_round ∈ kw_all := kw_word 1081 (by decide +kernel) rfl
theorem lmRL_114 : Cond.methodLink RL 114 yX10_round ∈ kw_all := kw_word 1661 (by decide +kernel) rfl
theorem lmRL_115 : Cond.methodLink RL 115 yX9_watch ∈ kw_all := kw_word 1106 (by decide +kernel) rfl
theorem lmRL_118 : Cond.methodLink RL 118 yX10_watch ∈ kw_all := kw_word 1699 (by decide +kernel) rfl
theorem lmRL_119 : Cond.methodLink RL 119 yX9_forget ∈ kw_all := kw_word 1110 (by decide +kernel) rfl
theorem lmRL_123 : Cond.methodLink RL 123 yX10_forget ∈ kw_all := kw_word 1700 (by decide +kernel) rfl
theorem lmRL_124 : Cond.methodLink RL 124 yX9_event ∈ kw_all := kw_word 1114 (by decide +kernel) rfl
theorem lmRL_127 : Cond.methodLink RL 127 yX10_event ∈ kw_all := kw_word 1701 (by decide +kernel) rfl
theorem lmRL_128 : Cond.methodLink RL 128 yX9_ifLength ∈ kw_all := kw_word 1118 (by decide +kernel) rfl
theorem lmRL_131 : Cond.methodLink RL 131 yX10_ifLength ∈ kw_all := kw_word 1705 (by decide +kernel) rfl
theorem lmRL_132 : Cond.methodLink RL 132 yX9_drawn ∈ kw_all := kw_word 1126 (by decide +kernel) rfl
theorem lmRL_135 : Cond.methodLink RL 135 yX10_drawn ∈ kw_all := kw_word 1709 (by decide +kernel) rfl
theorem lmRL_136 : Cond.methodLink RL 136 yX9_seed ∈ kw_all := kw_word 1144 (by decide +kernel) rfl
theorem lmRL_139 : Cond.methodLink RL 139 yX10_seed ∈ kw_all := kw_word 1729 (by decide +kernel) rfl
theorem lmRL_140 : Cond.methodLink RL 140 yX9_keep ∈ kw_all := kw_word 1148 (by decide +kernel) rfl
theorem lmRL_144 : Cond.methodLink RL 144 yX10_keep ∈ kw_all := kw_word 1734 (by decide +kernel) rfl
theorem lmRL_145 : Cond.methodLink RL 145 yX9_undo ∈ kw_all := kw_word 1161 (by decide +kernel) rfl
theorem lmRL_149 : Cond.methodLink RL 149 yX10_undo ∈ kw_all := kw_word 1738 (by decide +kernel) rfl
theorem lmRL_150 : Cond.methodLink RL 150 yX9_check ∈ kw_all := kw_word 1165 (by decide +kernel) rfl
theorem lmRL_153 : Cond.methodLink RL 153 yX10_check ∈ kw_all := kw_word 1742 (by decide +kernel) rfl
section KC
variable {E E' : kw_E} {p : Program} {e : Env} {s : State} {m : MethodId} {below : List Frame} {meth : Method} {c : Code} {b L : Nat} {xs : Nat → Int32} {H : Heap} {locs : List Loc} {cells slots : Nat} {Q : State → Prop} {ls : Array Slot} {σX σM : kw_M} {i : Int32}
set_option maxHeartbeats 4000000 in
set_option maxRecDepth 100000 in
theorem kl_c0 (C : kl_Cx E E' p s m meth c b L xs cells slots) (hl : lv_has ls 4 [(3, .int i), (2, .ref (E'.2.2.2 0)), (1, .ref (E.2.2.2 0)), (0, .ref b)]) (hS0 : kl_S E E' s σX σM H locs) (h1 : vp_in (i + 1) L) (h2 : vp_in (i + 2) L) (h3 : vp_in (i + 3) L) (h4 : vp_in (i + 4) L) (h5 : vp_in (i + 5) L) {rX : Int32 × kw_M} {rM : Int32 × kw_M} (hX : fX9_feed (xs (i + 1).toNatClampNeg) (xs (i + 2).toNatClampNeg) (xs (i + 3).toNatClampNeg) (xs (i + 4).toNatClampNeg) (xs (i + 5).toNatClampNeg) σX = some rX) (hM : fX10_feed (xs (i + 1).toNatClampNeg) (xs (i + 2).toNatClampNeg) (xs (i + 3).toNatClampNeg) (xs (i + 4).toNatClampNeg) (xs (i + 5).toNatClampNeg) σM = some rM) (heq : rX.1 = rM.1) (kk : ∀ (H1 : Heap) (locs1 : List Loc), kl_S E E' s rX.2 rM.2 H1 locs1 → W p E.1 e room_1 s m #[Value.ref b] below meth c H1 locs1 cells slots Q (F0 m 1173 ls [])) : W p E.1 e room_1 s m #[Value.ref b] below meth c H locs cells slots Q (F0 m 180 ls []) := by
  have hX0 := C.2.2.2.2.2.2.2.2.2.1
  refine lv_aload_n C.1 C.2.1 dL_law_180 rfl (lv_at hl 2 rfl) ?_
  refine lv_aload_n C.1 C.2.1 dL_law_181 rfl (lv_at hl 3 rfl) ?_
  refine lv_iload_n C.1 C.2.1 dL_law_182 rfl (lv_at hl 0 rfl) ?_
  refine lv_iconst (v := 1) C.1 C.2.1 dL_law_183 (by decide) ?_
  refine lv_iadd C.1 C.2.1 dL_law_184 ?_
  refine va_sld C.1 C.2.1 hX0.1 hX0.2.1 hX0.2.2 hS0.2.2 h1 dL_law_185 ?_
  refine lv_aload_n C.1 C.2.1 dL_law_186 rfl (lv_at hl 3 rfl) ?_
  refine lv_iload_n C.1 C.2.1 dL_law_187 rfl (lv_at hl 0 rfl) ?_
  refine lv_iconst (v := 2) C.1 C.2.1 dL_law_188 (by decide) ?_
  refine lv_iadd C.1 C.2.1 dL_law_189 ?_
  refine va_sld C.1 C.2.1 hX0.1 hX0.2.1 hX0.2.2 hS0.2.2 h2 dL_law_190 ?_
  refine lv_aload_n C.1 C.2.1 dL_law_191 rfl (lv_at hl 3 rfl) ?_
  refine lv_iload_n C.1 C.2.1 dL_law_192 rfl (lv_at hl 0 rfl) ?_
  refine lv_iconst (v := 3) C.1 C.2.1 dL_law_193 (by decide) ?_
  refine lv_iadd C.1 C.2.1 dL_law_194 ?_
  refine va_sld C.1 C.2.1 hX0.1 hX0.2.1 hX0.2.2 hS0.2.2 h3 dL_law_195 ?_
  refine lv_aload_n C.1 C.2.1 dL_law_196 rfl (lv_at hl 3 rfl) ?_
  refine lv_iload_n C.1 C.2.1 dL_law_197 rfl (lv_at hl 0 rfl) ?_
  refine lv_iconst (v := 4) C.1 C.2.1 dL_law_198 (by decide) ?_
  refine lv_iadd C.1 C.2.1 dL_law_199 ?_
  refine va_sld C.1 C.2.1 hX0.1 hX0.2.1 hX0.2.2 hS0.2.2 h4 dL_law_200 ?_
  refine lv_aload_n C.1 C.2.1 dL_law_201 rfl (lv_at hl 3 rfl) ?_
  refine lv_iload_n C.1 C.2.1 dL_law_202 rfl (lv_at hl 0 rfl) ?_
  refine lv_iconst (v := 5) C.1 C.2.1 dL_law_203 (by decide) ?_
  refine lv_iadd C.1 C.2.1 dL_law_204 ?_
  refine va_sld C.1 C.2.1 hX0.1 hX0.2.1 hX0.2.2 hS0.2.2 h5 dL_law_205 ?_
  refine kl_callX (d := 0 + 1) C hl hS0 (Nat.le_of_ble_eq_true rfl) mVX9_feed [.int (xs (i + 1).toNatClampNeg), .int (xs (i + 2).toNatClampNeg), .int (xs (i + 3).toNatClampNeg), .int (xs (i + 4).toNatClampNeg), .int (xs (i + 5).toNatClampNeg)] [] (fun _ => rfl) (u := (some (Value.int rX.1))) (fun _ => rfl) (gX9_feed (E := E) (d := 0) (xs (i + 1).toNatClampNeg) (xs (i + 2).toNatClampNeg) (xs (i + 3).toNatClampNeg) (xs (i + 4).toNatClampNeg) (xs (i + 5).toNatClampNeg) σX hX) lmRL_13 rfl rfl (Nat.le_of_ble_eq_true rfl) dL_law_206 rfl (fun H1 locs1 hS1 => ?_)
  show W p E.1 e room_1 s m #[Value.ref b] below meth c H1 locs1 cells slots Q (F0 m 209 ls [.int rX.1])
  refine lv_aload_n C.1 C.2.1 dL_law_209 rfl (lv_at hl 1 rfl) ?_
  refine lv_aload_n C.1 C.2.1 dL_law_210 rfl (lv_at hl 3 rfl) ?_
  refine lv_iload_n C.1 C.2.1 dL_law_211 rfl (lv_at hl 0 rfl) ?_
  refine lv_iconst (v := 1) C.1 C.2.1 dL_law_212 (by decide) ?_
  refine lv_iadd C.1 C.2.1 dL_law_213 ?_
  refine va_sld C.1 C.2.1 hX0.1 hX0.2.1 hX0.2.2 hS1.2.2 h1 dL_law_214 ?_
  refine lv_aload_n C.1 C.2.1 dL_law_215 rfl (lv_at hl 3 rfl) ?_
  refine lv_iload_n C.1 C.2.1 dL_law_216 rfl (lv_at hl 0 rfl) ?_
  refine lv_iconst (v := 2) C.1 C.2.1 dL_law_217 (by decide) ?_
  refine lv_iadd C.1 C.2.1 dL_law_218 ?_
  refine va_sld C.1 C.2.1 hX0.1 hX0.2.1 hX0.2.2 hS1.2.2 h2 dL_law_219 ?_
  refine lv_aload_n C.1 C.2.1 dL_law_220 rfl (lv_at hl 3 rfl) ?_
  refine lv_iload_n C.1 C.2.1 dL_law_221 rfl (lv_at hl 0 rfl) ?_
  refine lv_iconst (v := 3) C.1 C.2.1 dL_law_222 (by decide) ?_
  refine lv_iadd C.1 C.2.1 dL_law_223 ?_
  refine va_sld C.1 C.2.1 hX0.1 hX0.2.1 hX0.2.2 hS1.2.2 h3 dL_law_224 ?_
  refine lv_aload_n C.1 C.2.1 dL_law_225 rfl (lv_at hl 3 rfl) ?_
  refine lv_iload_n C.1 C.2.1 dL_law_226 rfl (lv_at hl 0 rfl) ?_
  refine lv_iconst (v := 4) C.1 C.2.1 dL_law_227 (by decide) ?_
  refine lv_iadd C.1 C.2.1 dL_law_228 ?_
  refine va_sld C.1 C.2.1 hX0.1 hX0.2.1 hX0.2.2 hS1.2.2 h4 dL_law_229 ?_
  refine lv_aload_n C.1 C.2.1 dL_law_230 rfl (lv_at hl 3 rfl) ?_
  refine lv_iload_n C.1 C.2.1 dL_law_231 rfl (lv_at hl 0 rfl) ?_
  refine lv_iconst (v := 5) C.1 C.2.1 dL_law_232 (by decide) ?_
  refine lv_iadd C.1 C.2.1 dL_law_233 ?_
  refine va_sld C.1 C.2.1 hX0.1 hX0.2.1 hX0.2.2 hS1.2.2 h5 dL_law_234 ?_
  refine kl_callM (d := 0 + 1) C hl hS1 (Nat.le_of_ble_eq_true rfl) mVX10_feed [.int (xs (i + 1).toNatClampNeg), .int (xs (i + 2).toNatClampNeg), .int (xs (i + 3).toNatClampNeg), .int (xs (i + 4).toNatClampNeg), .int (xs (i + 5).toNatClampNeg)] [.int rX.1] (fun _ => rfl) (u := (some (Value.int rM.1))) (fun _ => rfl) (gX10_feed (E := E') (d := 0) (xs (i + 1).toNatClampNeg) (xs (i + 2).toNatClampNeg) (xs (i + 3).toNatClampNeg) (xs (i + 4).toNatClampNeg) (xs (i + 5).toNatClampNeg) σM hM) lmRL_17 rfl rfl (Nat.le_of_ble_eq_true rfl) dL_law_235 rfl (fun H2 locs2 hS2 => ?_)
  show W p E.1 e room_1 s m #[Value.ref b] below meth c H2 locs2 cells slots Q (F0 m 238 ls [.int rM.1, .int rX.1])
  exact lv_icmp_eq C.1 C.2.1 dL_law_238 rfl (fun _ => kk H2 locs2 hS2) (fun q => absurd heq q)
set_option maxHeartbeats 4000000 in
set_option maxRecDepth 100000 in
theorem kl_c1 (C : kl_Cx E E' p s m meth c b L xs cells slots) (hl : lv_has ls 4 [(3, .int i), (2, .ref (E'.2.2.2 0)), (1, .ref (E.2.2.2 0)), (0, .ref b)]) (hS0 : kl_S E E' s σX σM H locs) (h1 : vp_in (i + 1) L) {rX : Int32 × kw_M} {rM : Int32 × kw_M} (hX : fX9_net (xs (i + 1).toNatClampNeg) σX = some rX) (hM : fX10_net (xs (i + 1).toNatClampNeg) σM = some rM) (heq : rX.1 = rM.1) (kk : ∀ (H1 : Heap) (locs1 : List Loc), kl_S E E' s rX.2 rM.2 H1 locs1 → W p E.1 e room_1 s m #[Value.ref b] below meth c H1 locs1 cells slots Q (F0 m 1173 ls [])) : W p E.1 e room_1 s m #[Value.ref b] below meth c H locs cells slots Q (F0 m 243 ls []) := by
  have hX0 := C.2.2.2.2.2.2.2.2.2.1
  refine lv_aload_n C.1 C.2.1 dL_law_243 rfl (lv_at hl 2 rfl) ?_
  refine lv_aload_n C.1 C.2.1 dL_law_244 rfl (lv_at hl 3 rfl) ?_
  refine lv_iload_n C.1 C.2.1 dL_law_245 rfl (lv_at hl 0 rfl) ?_
  refine lv_iconst (v := 1) C.1 C.2.1 dL_law_246 (by decide) ?_
  refine lv_iadd C.1 C.2.1 dL_law_247 ?_
  refine va_sld C.1 C.2.1 hX0.1 hX0.2.1 hX0.2.2 hS0.2.2 h1 dL_law_248 ?_
  refine kl_callX (d := 0 + 9) C hl hS0 (Nat.le_of_ble_eq_true rfl) mVX9_net [.int (xs (i + 1).toNatClampNeg)] [] (fun _ => rfl) (u := (some (Value.int rX.1))) (fun _ => rfl) (gX9_net (E := E) (d := 0) (xs (i + 1).toNatClampNeg) σX hX) lmRL_18 rfl rfl (Nat.le_of_ble_eq_true rfl) dL_law_249 rfl (fun H1 locs1 hS1 => ?_)
  show W p E.1 e room_1 s m #[Value.ref b] below meth c H1 locs1 cells slots Q (F0 m 252 ls [.int rX.1])
  refine lv_aload_n C.1 C.2.1 dL_law_252 rfl (lv_at hl 1 rfl) ?_
  refine lv_aload_n C.1 C.2.1 dL_law_253 rfl (lv_at hl 3 rfl) ?_
  refine lv_iload_n C.1 C.2.1 dL_law_254 rfl (lv_at hl 0 rfl) ?_
  refine lv_iconst (v := 1) C.1 C.2.1 dL_law_255 (by decide) ?_
  refine lv_iadd C.1 C.2.1 dL_law_256 ?_
  refine va_sld C.1 C.2.1 hX0.1 hX0.2.1 hX0.2.2 hS1.2.2 h1 dL_law_257 ?_
  refine kl_callM (d := 0 + 7) C hl hS1 (Nat.le_of_ble_eq_true rfl) mVX10_net [.int (xs (i + 1).toNatClampNeg)] [.int rX.1] (fun _ => rfl) (u := (some (Value.int rM.1))) (fun _ => rfl) (gX10_net (E := E') (d := 0) (xs (i + 1).toNatClampNeg) σM hM) lmRL_22 rfl rfl (Nat.le_of_ble_eq_true rfl) dL_law_258 rfl (fun H2 locs2 hS2 => ?_)
  show W p E.1 e room_1 s m #[Value.ref b] below meth c H2 locs2 cells slots Q (F0 m 261 ls [.int rM.1, .int rX.1])
  exact lv_icmp_eq C.1 C.2.1 dL_law_261 rfl (fun _ => kk H2 locs2 hS2) (fun q => absurd heq q)
set_option maxHeartbeats 4000000 in
set_option maxRecDepth 100000 in
theorem kl_c2 (C : kl_Cx E E' p s m meth c b L xs cells slots) (hl : lv_has ls 4 [(3, .int i), (2, .ref (E'.2.2.2 0)), (1, .ref (E.2.2.2 0)), (0, .ref b)]) (hS0 : kl_S E E' s σX σM H locs) (h1 : vp_in (i + 1) L) {rX : Int32 × kw_M} {rM : Int32 × kw_M} (hX : fX9_orders (xs (i + 1).toNatClampNeg) σX = some rX) (hM : fX10_orders (xs (i + 1).toNatClampNeg) σM = some rM) (heq : rX.1 = rM.1) (kk : ∀ (H1 : Heap) (locs1 : List Loc), kl_S E E' s rX.2 rM.2 H1 locs1 → W p E.1 e room_1 s m #[Value.ref b] below meth c H1 locs1 cells slots Q (F0 m 1173 ls [])) : W p E.1 e room_1 s m #[Value.ref b] below meth c H locs cells slots Q (F0 m 266 ls []) := by
  have hX0 := C.2.2.2.2.2.2.2.2.2.1
  refine lv_aload_n C.1 C.2.1 dL_law_266 rfl (lv_at hl 2 rfl) ?_
  refine lv_aload_n C.1 C.2.1 dL_law_267 rfl (lv_at hl 3 rfl) ?_
  refine lv_iload_n C.1 C.2.1 dL_law_268 rfl (lv_at hl 0 rfl) ?_
  refine lv_iconst (v := 1) C.1 C.2.1 dL_law_269 (by decide) ?_
  refine lv_iadd C.1 C.2.1 dL_law_270 ?_
  refine va_sld C.1 C.2.1 hX0.1 hX0.2.1 hX0.2.2 hS0.2.2 h1 dL_law_271 ?_
  refine kl_callX (d := 0 + 9) C hl hS0 (Nat.le_of_ble_eq_true rfl) mVX9_orders [.int (xs (i + 1).toNatClampNeg)] [] (fun _ => rfl) (u := (some (Value.int rX.1))) (fun _ => rfl) (gX9_orders (E := E) (d := 0) (xs (i + 1).toNatClampNeg) σX hX) lmRL_23 rfl rfl (Nat.le_of_ble_eq_true rfl) dL_law_272 rfl (fun H1 locs1 hS1 => ?_)
  show W p E.1 e room_1 s m #[Value.ref b] below meth c H1 locs1 cells slots Q (F0 m 275 ls [.int rX.1])
  refine lv_aload_n C.1 C.2.1 dL_law_275 rfl (lv_at hl 1 rfl) ?_
  refine lv_aload_n C.1 C.2.1 dL_law_276 rfl (lv_at hl 3 rfl) ?_
  refine lv_iload_n C.1 C.2.1 dL_law_277 rfl (lv_at hl 0 rfl) ?_
  refine lv_iconst (v := 1) C.1 C.2.1 dL_law_278 (by decide) ?_
  refine lv_iadd C.1 C.2.1 dL_law_279 ?_
  refine va_sld C.1 C.2.1 hX0.1 hX0.2.1 hX0.2.2 hS1.2.2 h1 dL_law_280 ?_
  refine kl_callM (d := 0 + 8) C hl hS1 (Nat.le_of_ble_eq_true rfl) mVX10_orders [.int (xs (i + 1).toNatClampNeg)] [.int rX.1] (fun _ => rfl) (u := (some (Value.int rM.1))) (fun _ => rfl) (gX10_orders (E := E') (d := 0) (xs (i + 1).toNatClampNeg) σM hM) lmRL_26 rfl rfl (Nat.le_of_ble_eq_true rfl) dL_law_281 rfl (fun H2 locs2 hS2 => ?_)
  show W p E.1 e room_1 s m #[Value.ref b] below meth c H2 locs2 cells slots Q (F0 m 284 ls [.int rM.1, .int rX.1])
  exact lv_icmp_eq C.1 C.2.1 dL_law_284 rfl (fun _ => kk H2 locs2 hS2) (fun q => absurd heq q)
set_option maxHeartbeats 4000000 in
set_option maxRecDepth 100000 in
theorem kl_c3 (C : kl_Cx E E' p s m meth c b L xs cells slots) (hl : lv_has ls 4 [(3, .int i), (2, .ref (E'.2.2.2 0)), (1, .ref (E.2.2.2 0)), (0, .ref b)]) (hS0 : kl_S E E' s σX σM H locs) (h1 : vp_in (i + 1) L) (h2 : vp_in (i + 2) L) (h3 : vp_in (i + 3) L) {rX : Int32 × kw_M} {rM : Int32 × kw_M} (hX : fX9_lay (xs (i + 1).toNatClampNeg) (xs (i + 2).toNatClampNeg) (xs (i + 3).toNatClampNeg) σX = some rX) (hM : fX10_lay (xs (i + 1).toNatClampNeg) (xs (i + 2).toNatClampNeg) (xs (i + 3).toNatClampNeg) σM = some rM) (heq : rX.1 = rM.1) (kk : ∀ (H1 : Heap) (locs1 : List Loc), kl_S E E' s rX.2 rM.2 H1 locs1 → W p E.1 e room_1 s m #[Value.ref b] below meth c H1 locs1 cells slots Q (F0 m 1173 ls [])) : W p E.1 e room_1 s m #[Value.ref b] below meth c H locs cells slots Q (F0 m 289 ls []) := by
  have hX0 := C.2.2.2.2.2.2.2.2.2.1
  refine lv_aload_n C.1 C.2.1 dL_law_289 rfl (lv_at hl 2 rfl) ?_
  refine lv_aload_n C.1 C.2.1 dL_law_290 rfl (lv_at hl 3 rfl) ?_
  refine lv_iload_n C.1 C.2.1 dL_law_291 rfl (lv_at hl 0 rfl) ?_
  refine lv_iconst (v := 1) C.1 C.2.1 dL_law_292 (by decide) ?_
  refine lv_iadd C.1 C.2.1 dL_law_293 ?_
  refine va_sld C.1 C.2.1 hX0.1 hX0.2.1 hX0.2.2 hS0.2.2 h1 dL_law_294 ?_
  refine lv_aload_n C.1 C.2.1 dL_law_295 rfl (lv_at hl 3 rfl) ?_
  refine lv_iload_n C.1 C.2.1 dL_law_296 rfl (lv_at hl 0 rfl) ?_
  refine lv_iconst (v := 2) C.1 C.2.1 dL_law_297 (by decide) ?_
  refine lv_iadd C.1 C.2.1 dL_law_298 ?_
  refine va_sld C.1 C.2.1 hX0.1 hX0.2.1 hX0.2.2 hS0.2.2 h2 dL_law_299 ?_
  refine lv_aload_n C.1 C.2.1 dL_law_300 rfl (lv_at hl 3 rfl) ?_
  refine lv_iload_n C.1 C.2.1 dL_law_301 rfl (lv_at hl 0 rfl) ?_
  refine lv_iconst (v := 3) C.1 C.2.1 dL_law_302 (by decide) ?_
  refine lv_iadd C.1 C.2.1 dL_law_303 ?_
  refine va_sld C.1 C.2.1 hX0.1 hX0.2.1 hX0.2.2 hS0.2.2 h3 dL_law_304 ?_
  refine kl_callX (d := 0 + 6) C hl hS0 (Nat.le_of_ble_eq_true rfl) mVX9_lay [.int (xs (i + 1).toNatClampNeg), .int (xs (i + 2).toNatClampNeg), .int (xs (i + 3).toNatClampNeg)] [] (fun _ => rfl) (u := (some (Value.int rX.1))) (fun _ => rfl) (gX9_lay (E := E) (d := 0) (xs (i + 1).toNatClampNeg) (xs (i + 2).toNatClampNeg) (xs (i + 3).toNatClampNeg) σX hX) lmRL_27 rfl rfl (Nat.le_of_ble_eq_true rfl) dL_law_305 rfl (fun H1 locs1 hS1 => ?_)
  show W p E.1 e room_1 s m #[Value.ref b] below meth c H1 locs1 cells slots Q (F0 m 308 ls [.int rX.1])
  refine lv_aload_n C.1 C.2.1 dL_law_308 rfl (lv_at hl 1 rfl) ?_
  refine lv_aload_n C.1 C.2.1 dL_law_309 rfl (lv_at hl 3 rfl) ?_
  refine lv_iload_n C.1 C.2.1 dL_law_310 rfl (lv_at hl 0 rfl) ?_
  refine lv_iconst (v := 1) C.1 C.2.1 dL_law_311 (by decide) ?_
  refine lv_iadd C.1 C.2.1 dL_law_312 ?_
  refine va_sld C.1 C.2.1 hX0.1 hX0.2.1 hX0.2.2 hS1.2.2 h1 dL_law_313 ?_
  refine lv_aload_n C.1 C.2.1 dL_law_314 rfl (lv_at hl 3 rfl) ?_
  refine lv_iload_n C.1 C.2.1 dL_law_315 rfl (lv_at hl 0 rfl) ?_
  refine lv_iconst (v := 2) C.1 C.2.1 dL_law_316 (by decide) ?_
  refine lv_iadd C.1 C.2.1 dL_law_317 ?_
  refine va_sld C.1 C.2.1 hX0.1 hX0.2.1 hX0.2.2 hS1.2.2 h2 dL_law_318 ?_
  refine lv_aload_n C.1 C.2.1 dL_law_319 rfl (lv_at hl 3 rfl) ?_
  refine lv_iload_n C.1 C.2.1 dL_law_320 rfl (lv_at hl 0 rfl) ?_
  refine lv_iconst (v := 3) C.1 C.2.1 dL_law_321 (by decide) ?_
  refine lv_iadd C.1 C.2.1 dL_law_322 ?_
  refine va_sld C.1 C.2.1 hX0.1 hX0.2.1 hX0.2.2 hS1.2.2 h3 dL_law_323 ?_
  refine kl_callM (d := 0 + 5) C hl hS1 (Nat.le_of_ble_eq_true rfl) mVX10_lay [.int (xs (i + 1).toNatClampNeg), .int (xs (i + 2).toNatClampNeg), .int (xs (i + 3).toNatClampNeg)] [.int rX.1] (fun _ => rfl) (u := (some (Value.int rM.1))) (fun _ => rfl) (gX10_lay (E := E') (d := 0) (xs (i + 1).toNatClampNeg) (xs (i + 2).toNatClampNeg) (xs (i + 3).toNatClampNeg) σM hM) lmRL_31 rfl rfl (Nat.le_of_ble_eq_true rfl) dL_law_324 rfl (fun H2 locs2 hS2 => ?_)
  show W p E.1 e room_1 s m #[Value.ref b] below meth c H2 locs2 cells slots Q (F0 m 327 ls [.int rM.1, .int rX.1])
  exact lv_icmp_eq C.1 C.2.1 dL_law_327 rfl (fun _ => kk H2 locs2 hS2) (fun q => absurd heq q)
set_option maxHeartbeats 4000000 in
set_option maxRecDepth 100000 in
theorem kl_c4 (C : kl_Cx E E' p s m meth c b L xs cells slots) (hl : lv_has ls 4 [(3, .int i), (2, .ref (E'.2.2.2 0)), (1, .ref (E.2.2.2 0)), (0, .ref b)]) (hS0 : kl_S E E' s σX σM H locs) (h1 : vp_in (i + 1) L) (h2 : vp_in (i + 2) L) {rX : Int32 × kw_M} {rM : Int32 × kw_M} (hX : fX9_length (xs (i + 1).toNatClampNeg) (xs (i + 2).toNatClampNeg) σX = some rX) (hM : fX10_length (xs (i + 1).toNatClampNeg) (xs (i + 2).toNatClampNeg) σM = some rM) (heq : rX.1 = rM.1) (kk : ∀ (H1 : Heap) (locs1 : List Loc), kl_S E E' s rX.2 rM.2 H1 locs1 → W p E.1 e room_1 s m #[Value.ref b] below meth c H1 locs1 cells slots Q (F0 m 1173 ls [])) : W p E.1 e room_1 s m #[Value.ref b] below meth c H locs cells slots Q (F0 m 332 ls []) := by
  have hX0 := C.2.2.2.2.2.2.2.2.2.1
  refine lv_aload_n C.1 C.2.1 dL_law_332 rfl (lv_at hl 2 rfl) ?_
  refine lv_aload_n C.1 C.2.1 dL_law_333 rfl (lv_at hl 3 rfl) ?_
  refine lv_iload_n C.1 C.2.1 dL_law_334 rfl (lv_at hl 0 rfl) ?_
  refine lv_iconst (v := 1) C.1 C.2.1 dL_law_335 (by decide) ?_
  refine lv_iadd C.1 C.2.1 dL_law_336 ?_
  refine va_sld C.1 C.2.1 hX0.1 hX0.2.1 hX0.2.2 hS0.2.2 h1 dL_law_337 ?_
  refine lv_aload_n C.1 C.2.1 dL_law_338 rfl (lv_at hl 3 rfl) ?_
  refine lv_iload_n C.1 C.2.1 dL_law_339 rfl (lv_at hl 0 rfl) ?_
  refine lv_iconst (v := 2) C.1 C.2.1 dL_law_340 (by decide) ?_
  refine lv_iadd C.1 C.2.1 dL_law_341 ?_
  refine va_sld C.1 C.2.1 hX0.1 hX0.2.1 hX0.2.2 hS0.2.2 h2 dL_law_342 ?_
  refine kl_callX (d := 0 + 6) C hl hS0 (Nat.le_of_ble_eq_true rfl) mVX9_length [.int (xs (i + 1).toNatClampNeg), .int (xs (i + 2).toNatClampNeg)] [] (fun _ => rfl) (u := (some (Value.int rX.1))) (fun _ => rfl) (gX9_length (E := E) (d := 0) (xs (i + 1).toNatClampNeg) (xs (i + 2).toNatClampNeg) σX hX) lmRL_32 rfl rfl (Nat.le_of_ble_eq_true rfl) dL_law_343 rfl (fun H1 locs1 hS1 => ?_)
  show W p E.1 e room_1 s m #[Value.ref b] below meth c H1 locs1 cells slots Q (F0 m 346 ls [.int rX.1])
  refine lv_aload_n C.1 C.2.1 dL_law_346 rfl (lv_at hl 1 rfl) ?_
  refine lv_aload_n C.1 C.2.1 dL_law_347 rfl (lv_at hl 3 rfl) ?_
  refine lv_iload_n C.1 C.2.1 dL_law_348 rfl (lv_at hl 0 rfl) ?_
  refine lv_iconst (v := 1) C.1 C.2.1 dL_law_349 (by decide) ?_
  refine lv_iadd C.1 C.2.1 dL_law_350 ?_
  refine va_sld C.1 C.2.1 hX0.1 hX0.2.1 hX0.2.2 hS1.2.2 h1 dL_law_351 ?_
  refine lv_aload_n C.1 C.2.1 dL_law_352 rfl (lv_at hl 3 rfl) ?_
  refine lv_iload_n C.1 C.2.1 dL_law_353 rfl (lv_at hl 0 rfl) ?_
  refine lv_iconst (v := 2) C.1 C.2.1 dL_law_354 (by decide) ?_
  refine lv_iadd C.1 C.2.1 dL_law_355 ?_
  refine va_sld C.1 C.2.1 hX0.1 hX0.2.1 hX0.2.2 hS1.2.2 h2 dL_law_356 ?_
  refine kl_callM (d := 0 + 5) C hl hS1 (Nat.le_of_ble_eq_true rfl) mVX10_length [.int (xs (i + 1).toNatClampNeg), .int (xs (i + 2).toNatClampNeg)] [.int rX.1] (fun _ => rfl) (u := (some (Value.int rM.1))) (fun _ => rfl) (gX10_length (E := E') (d := 0) (xs (i + 1).toNatClampNeg) (xs (i + 2).toNatClampNeg) σM hM) lmRL_36 rfl rfl (Nat.le_of_ble_eq_true rfl) dL_law_357 rfl (fun H2 locs2 hS2 => ?_)
  show W p E.1 e room_1 s m #[Value.ref b] below meth c H2 locs2 cells slots Q (F0 m 360 ls [.int rM.1, .int rX.1])
  exact lv_icmp_eq C.1 C.2.1 dL_law_360 rfl (fun _ => kk H2 locs2 hS2) (fun q => absurd heq q)
set_option maxHeartbeats 4000000 in
set_option maxRecDepth 100000 in
theorem kl_c5 (C : kl_Cx E E' p s m meth c b L xs cells slots) (hl : lv_has ls 4 [(3, .int i), (2, .ref (E'.2.2.2 0)), (1, .ref (E.2.2.2 0)), (0, .ref b)]) (hS0 : kl_S E E' s σX σM H locs) (h1 : vp_in (i + 1) L) {rX : Int32 × kw_M} {rM : Int32 × kw_M} (hX : fX9_close (xs (i + 1).toNatClampNeg) σX = some rX) (hM : fX10_close (xs (i + 1).toNatClampNeg) σM = some rM) (heq : rX.1 = rM.1) (kk : ∀ (H1 : Heap) (locs1 : List Loc), kl_S E E' s rX.2 rM.2 H1 locs1 → W p E.1 e room_1 s m #[Value.ref b] below meth c H1 locs1 cells slots Q (F0 m 1173 ls [])) : W p E.1 e room_1 s m #[Value.ref b] below meth c H locs cells slots Q (F0 m 365 ls []) := by
  have hX0 := C.2.2.2.2.2.2.2.2.2.1
  refine lv_aload_n C.1 C.2.1 dL_law_365 rfl (lv_at hl 2 rfl) ?_
  refine lv_aload_n C.1 C.2.1 dL_law_366 rfl (lv_at hl 3 rfl) ?_
  refine lv_iload_n C.1 C.2.1 dL_law_367 rfl (lv_at hl 0 rfl) ?_
  refine lv_iconst (v := 1) C.1 C.2.1 dL_law_368 (by decide) ?_
  refine lv_iadd C.1 C.2.1 dL_law_369 ?_
  refine va_sld C.1 C.2.1 hX0.1 hX0.2.1 hX0.2.2 hS0.2.2 h1 dL_law_370 ?_
  refine kl_callX (d := 0 + 6) C hl hS0 (Nat.le_of_ble_eq_true rfl) mVX9_close [.int (xs (i + 1).toNatClampNeg)] [] (fun _ => rfl) (u := (some (Value.int rX.1))) (fun _ => rfl) (gX9_close (E := E) (d := 0) (xs (i + 1).toNatClampNeg) σX hX) lmRL_37 rfl rfl (Nat.le_of_ble_eq_true rfl) dL_law_371 rfl (fun H1 locs1 hS1 => ?_)
  show W p E.1 e room_1 s m #[Value.ref b] below meth c H1 locs1 cells slots Q (F0 m 374 ls [.int rX.1])
  refine lv_aload_n C.1 C.2.1 dL_law_374 rfl (lv_at hl 1 rfl) ?_
  refine lv_aload_n C.1 C.2.1 dL_law_375 rfl (lv_at hl 3 rfl) ?_
  refine lv_iload_n C.1 C.2.1 dL_law_376 rfl (lv_at hl 0 rfl) ?_
  refine lv_iconst (v := 1) C.1 C.2.1 dL_law_377 (by decide) ?_
  refine lv_iadd C.1 C.2.1 dL_law_378 ?_
  refine va_sld C.1 C.2.1 hX0.1 hX0.2.1 hX0.2.2 hS1.2.2 h1 dL_law_379 ?_
  refine kl_callM (d := 0 + 6) C hl hS1 (Nat.le_of_ble_eq_true rfl) mVX10_close [.int (xs (i + 1).toNatClampNeg)] [.int rX.1] (fun _ => rfl) (u := (some (Value.int rM.1))) (fun _ => rfl) (gX10_close (E := E') (d := 0) (xs (i + 1).toNatClampNeg) σM hM) lmRL_40 rfl rfl (Nat.le_of_ble_eq_true rfl) dL_law_380 rfl (fun H2 locs2 hS2 => ?_)
  show W p E.1 e room_1 s m #[Value.ref b] below meth c H2 locs2 cells slots Q (F0 m 383 ls [.int rM.1, .int rX.1])
  exact lv_icmp_eq C.1 C.2.1 dL_law_383 rfl (fun _ => kk H2 locs2 hS2) (fun q => absurd heq q)
set_option maxHeartbeats 4000000 in
set_option maxRecDepth 100000 in
theorem kl_c6 (C : kl_Cx E E' p s m meth c b L xs cells slots) (hl : lv_has ls 4 [(3, .int i), (2, .ref (E'.2.2.2 0)), (1, .ref (E.2.2.2 0)), (0, .ref b)]) (hS0 : kl_S E E' s σX σM H locs) (h1 : vp_in (i + 1) L) {rX : Int32 × kw_M} {rM : Int32 × kw_M} (hX : fX9_open (xs (i + 1).toNatClampNeg) σX = some rX) (hM : fX10_open (xs (i + 1).toNatClampNeg) σM = some rM) (heq : rX.1 = rM.1) (kk : ∀ (H1 : Heap) (locs1 : List Loc), kl_S E E' s rX.2 rM.2 H1 locs1 → W p E.1 e room_1 s m #[Value.ref b] below meth c H1 locs1 cells slots Q (F0 m 1173 ls [])) : W p E.1 e room_1 s m #[Value.ref b] below meth c H locs cells slots Q (F0 m 388 ls []) := by
  have hX0 := C.2.2.2.2.2.2.2.2.2.1
  refine lv_aload_n C.1 C.2.1 dL_law_388 rfl (lv_at hl 2 rfl) ?_
  refine lv_aload_n C.1 C.2.1 dL_law_389 rfl (lv_at hl 3 rfl) ?_
  refine lv_iload_n C.1 C.2.1 dL_law_390 rfl (lv_at hl 0 rfl) ?_
  refine lv_iconst (v := 1) C.1 C.2.1 dL_law_391 (by decide) ?_
  refine lv_iadd C.1 C.2.1 dL_law_392 ?_
  refine va_sld C.1 C.2.1 hX0.1 hX0.2.1 hX0.2.2 hS0.2.2 h1 dL_law_393 ?_
  refine kl_callX (d := 0 + 6) C hl hS0 (Nat.le_of_ble_eq_true rfl) mVX9_open [.int (xs (i + 1).toNatClampNeg)] [] (fun _ => rfl) (u := (some (Value.int rX.1))) (fun _ => rfl) (gX9_open (E := E) (d := 0) (xs (i + 1).toNatClampNeg) σX hX) lmRL_41 rfl rfl (Nat.le_of_ble_eq_true rfl) dL_law_394 rfl (fun H1 locs1 hS1 => ?_)
  show W p E.1 e room_1 s m #[Value.ref b] below meth c H1 locs1 cells slots Q (F0 m 397 ls [.int rX.1])
  refine lv_aload_n C.1 C.2.1 dL_law_397 rfl (lv_at hl 1 rfl) ?_
  refine lv_aload_n C.1 C.2.1 dL_law_398 rfl (lv_at hl 3 rfl) ?_
  refine lv_iload_n C.1 C.2.1 dL_law_399 rfl (lv_at hl 0 rfl) ?_
  refine lv_iconst (v := 1) C.1 C.2.1 dL_law_400 (by decide) ?_
  refine lv_iadd C.1 C.2.1 dL_law_401 ?_
  refine va_sld C.1 C.2.1 hX0.1 hX0.2.1 hX0.2.2 hS1.2.2 h1 dL_law_402 ?_
  refine kl_callM (d := 0 + 6) C hl hS1 (Nat.le_of_ble_eq_true rfl) mVX10_open [.int (xs (i + 1).toNatClampNeg)] [.int rX.1] (fun _ => rfl) (u := (some (Value.int rM.1))) (fun _ => rfl) (gX10_open (E := E') (d := 0) (xs (i + 1).toNatClampNeg) σM hM) lmRL_44 rfl rfl (Nat.le_of_ble_eq_true rfl) dL_law_403 rfl (fun H2 locs2 hS2 => ?_)
  show W p E.1 e room_1 s m #[Value.ref b] below meth c H2 locs2 cells slots Q (F0 m 406 ls [.int rM.1, .int rX.1])
  exact lv_icmp_eq C.1 C.2.1 dL_law_406 rfl (fun _ => kk H2 locs2 hS2) (fun q => absurd heq q)
set_option maxHeartbeats 4000000 in
set_option maxRecDepth 100000 in
theorem kl_c7 (C : kl_Cx E E' p s m meth c b L xs cells slots) (hl : lv_has ls 4 [(3, .int i), (2, .ref (E'.2.2.2 0)), (1, .ref (E.2.2.2 0)), (0, .ref b)]) (hS0 : kl_S E E' s σX σM H locs) (h1 : vp_in (i + 1) L) {rX : Int32 × kw_M} {rM : Int32 × kw_M} (hX : fX9_origin (xs (i + 1).toNatClampNeg) σX = some rX) (hM : fX10_origin (xs (i + 1).toNatClampNeg) σM = some rM) (heq : rX.1 = rM.1) (kk : ∀ (H1 : Heap) (locs1 : List Loc), kl_S E E' s rX.2 rM.2 H1 locs1 → W p E.1 e room_1 s m #[Value.ref b] below meth c H1 locs1 cells slots Q (F0 m 1173 ls [])) : W p E.1 e room_1 s m #[Value.ref b] below meth c H locs cells slots Q (F0 m 411 ls []) := by
  have hX0 := C.2.2.2.2.2.2.2.2.2.1
  refine lv_aload_n C.1 C.2.1 dL_law_411 rfl (lv_at hl 2 rfl) ?_
  refine lv_aload_n C.1 C.2.1 dL_law_412 rfl (lv_at hl 3 rfl) ?_
  refine lv_iload_n C.1 C.2.1 dL_law_413 rfl (lv_at hl 0 rfl) ?_
  refine lv_iconst (v := 1) C.1 C.2.1 dL_law_414 (by decide) ?_
  refine lv_iadd C.1 C.2.1 dL_law_415 ?_
  refine va_sld C.1 C.2.1 hX0.1 hX0.2.1 hX0.2.2 hS0.2.2 h1 dL_law_416 ?_
  refine kl_callX (d := 0 + 6) C hl hS0 (Nat.le_of_ble_eq_true rfl) mVX9_origin [.int (xs (i + 1).toNatClampNeg)] [] (fun _ => rfl) (u := (some (Value.int rX.1))) (fun _ => rfl) (gX9_origin (E := E) (d := 0) (xs (i + 1).toNatClampNeg) σX hX) lmRL_45 rfl rfl (Nat.le_of_ble_eq_true rfl) dL_law_417 rfl (fun H1 locs1 hS1 => ?_)
  show W p E.1 e room_1 s m #[Value.ref b] below meth c H1 locs1 cells slots Q (F0 m 420 ls [.int rX.1])
  refine lv_aload_n C.1 C.2.1 dL_law_420 rfl (lv_at hl 1 rfl) ?_
  refine lv_aload_n C.1 C.2.1 dL_law_421 rfl (lv_at hl 3 rfl) ?_
  refine lv_iload_n C.1 C.2.1 dL_law_422 rfl (lv_at hl 0 rfl) ?_
  refine lv_iconst (v := 1) C.1 C.2.1 dL_law_423 (by decide) ?_
  refine lv_iadd C.1 C.2.1 dL_law_424 ?_
  refine va_sld C.1 C.2.1 hX0.1 hX0.2.1 hX0.2.2 hS1.2.2 h1 dL_law_425 ?_
  refine kl_callM (d := 0 + 5) C hl hS1 (Nat.le_of_ble_eq_true rfl) mVX10_origin [.int (xs (i + 1).toNatClampNeg)] [.int rX.1] (fun _ => rfl) (u := (some (Value.int rM.1))) (fun _ => rfl) (gX10_origin (E := E') (d := 0) (xs (i + 1).toNatClampNeg) σM hM) lmRL_48 rfl rfl (Nat.le_of_ble_eq_true rfl) dL_law_426 rfl (fun H2 locs2 hS2 => ?_)
  show W p E.1 e room_1 s m #[Value.ref b] below meth c H2 locs2 cells slots Q (F0 m 429 ls [.int rM.1, .int rX.1])
  exact lv_icmp_eq C.1 C.2.1 dL_law_429 rfl (fun _ => kk H2 locs2 hS2) (fun q => absurd heq q)
set_option maxHeartbeats 4000000 in
set_option maxRecDepth 100000 in
theorem kl_c8 (C : kl_Cx E E' p s m meth c b L xs cells slots) (hl : lv_has ls 4 [(3, .int i), (2, .ref (E'.2.2.2 0)), (1, .ref (E.2.2.2 0)), (0, .ref b)]) (hS0 : kl_S E E' s σX σM H locs) (h1 : vp_in (i + 1) L) {rX : Int32 × kw_M} {rM : Int32 × kw_M} (hX : fX9_count (xs (i + 1).toNatClampNeg) σX = some rX) (hM : fX10_count (xs (i + 1).toNatClampNeg) σM = some rM) (heq : rX.1 = rM.1) (kk : ∀ (H1 : Heap) (locs1 : List Loc), kl_S E E' s rX.2 rM.2 H1 locs1 → W p E.1 e room_1 s m #[Value.ref b] below meth c H1 locs1 cells slots Q (F0 m 1173 ls [])) : W p E.1 e room_1 s m #[Value.ref b] below meth c H locs cells slots Q (F0 m 434 ls []) := by
  have hX0 := C.2.2.2.2.2.2.2.2.2.1
  refine lv_aload_n C.1 C.2.1 dL_law_434 rfl (lv_at hl 2 rfl) ?_
  refine lv_aload_n C.1 C.2.1 dL_law_435 rfl (lv_at hl 3 rfl) ?_
  refine lv_iload_n C.1 C.2.1 dL_law_436 rfl (lv_at hl 0 rfl) ?_
  refine lv_iconst (v := 1) C.1 C.2.1 dL_law_437 (by decide) ?_
  refine lv_iadd C.1 C.2.1 dL_law_438 ?_
  refine va_sld C.1 C.2.1 hX0.1 hX0.2.1 hX0.2.2 hS0.2.2 h1 dL_law_439 ?_
  refine kl_callX (d := 0 + 4) C hl hS0 (Nat.le_of_ble_eq_true rfl) mVX9_count [.int (xs (i + 1).toNatClampNeg)] [] (fun _ => rfl) (u := (some (Value.int rX.1))) (fun _ => rfl) (gX9_count (E := E) (d := 0) (xs (i + 1).toNatClampNeg) σX hX) lmRL_49 rfl rfl (Nat.le_of_ble_eq_true rfl) dL_law_440 rfl (fun H1 locs1 hS1 => ?_)
  show W p E.1 e room_1 s m #[Value.ref b] below meth c H1 locs1 cells slots Q (F0 m 443 ls [.int rX.1])
  refine lv_aload_n C.1 C.2.1 dL_law_443 rfl (lv_at hl 1 rfl) ?_
  refine lv_aload_n C.1 C.2.1 dL_law_444 rfl (lv_at hl 3 rfl) ?_
  refine lv_iload_n C.1 C.2.1 dL_law_445 rfl (lv_at hl 0 rfl) ?_
  refine lv_iconst (v := 1) C.1 C.2.1 dL_law_446 (by decide) ?_
  refine lv_iadd C.1 C.2.1 dL_law_447 ?_
  refine va_sld C.1 C.2.1 hX0.1 hX0.2.1 hX0.2.2 hS1.2.2 h1 dL_law_448 ?_
  refine kl_callM (d := 0 + 5) C hl hS1 (Nat.le_of_ble_eq_true rfl) mVX10_count [.int (xs (i + 1).toNatClampNeg)] [.int rX.1] (fun _ => rfl) (u := (some (Value.int rM.1))) (fun _ => rfl) (gX10_count (E := E') (d := 0) (xs (i + 1).toNatClampNeg) σM hM) lmRL_52 rfl rfl (Nat.le_of_ble_eq_true rfl) dL_law_449 rfl (fun H2 locs2 hS2 => ?_)
  show W p E.1 e room_1 s m #[Value.ref b] below meth c H2 locs2 cells slots Q (F0 m 452 ls [.int rM.1, .int rX.1])
  exact lv_icmp_eq C.1 C.2.1 dL_law_452 rfl (fun _ => kk H2 locs2 hS2) (fun q => absurd heq q)
set_option maxHeartbeats 4000000 in
set_option maxRecDepth 100000 in
theorem kl_c9 (C : kl_Cx E E' p s m meth c b L xs cells slots) (hl : lv_has ls 4 [(3, .int i), (2, .ref (E'.2.2.2 0)), (1, .ref (E.2.2.2 0)), (0, .ref b)]) (hS0 : kl_S E E' s σX σM H locs) (h1 : vp_in (i + 1) L) (h2 : vp_in (i + 2) L) {rX : Int64} {rM : Int64 × kw_M} (hX : fX9_road (xs (i + 1).toNatClampNeg) (xs (i + 2).toNatClampNeg) σX = some rX) (hM : fX10_road (xs (i + 1).toNatClampNeg) (xs (i + 2).toNatClampNeg) σM = some rM) (heq : rX = rM.1) (kk : ∀ (H1 : Heap) (locs1 : List Loc), kl_S E E' s σX rM.2 H1 locs1 → W p E.1 e room_1 s m #[Value.ref b] below meth c H1 locs1 cells slots Q (F0 m 1173 ls [])) : W p E.1 e room_1 s m #[Value.ref b] below meth c H locs cells slots Q (F0 m 457 ls []) := by
  have hX0 := C.2.2.2.2.2.2.2.2.2.1
  refine lv_aload_n C.1 C.2.1 dL_law_457 rfl (lv_at hl 2 rfl) ?_
  refine lv_aload_n C.1 C.2.1 dL_law_458 rfl (lv_at hl 3 rfl) ?_
  refine lv_iload_n C.1 C.2.1 dL_law_459 rfl (lv_at hl 0 rfl) ?_
  refine lv_iconst (v := 1) C.1 C.2.1 dL_law_460 (by decide) ?_
  refine lv_iadd C.1 C.2.1 dL_law_461 ?_
  refine va_sld C.1 C.2.1 hX0.1 hX0.2.1 hX0.2.2 hS0.2.2 h1 dL_law_462 ?_
  refine lv_aload_n C.1 C.2.1 dL_law_463 rfl (lv_at hl 3 rfl) ?_
  refine lv_iload_n C.1 C.2.1 dL_law_464 rfl (lv_at hl 0 rfl) ?_
  refine lv_iconst (v := 2) C.1 C.2.1 dL_law_465 (by decide) ?_
  refine lv_iadd C.1 C.2.1 dL_law_466 ?_
  refine va_sld C.1 C.2.1 hX0.1 hX0.2.1 hX0.2.2 hS0.2.2 h2 dL_law_467 ?_
  refine kl_callX (d := 0 + 2) C hl hS0 (Nat.le_of_ble_eq_true rfl) mVX9_road [.int (xs (i + 1).toNatClampNeg), .int (xs (i + 2).toNatClampNeg)] [] (fun _ => rfl) (u := (some (Value.long rX))) (fun _ => rfl) (gX9_road (E := E) (d := 0) (xs (i + 1).toNatClampNeg) (xs (i + 2).toNatClampNeg) σX hX) lmRL_53 rfl rfl (Nat.le_of_ble_eq_true rfl) dL_law_468 rfl (fun H1 locs1 hS1 => ?_)
  show W p E.1 e room_1 s m #[Value.ref b] below meth c H1 locs1 cells slots Q (F0 m 471 ls [.long rX])
  refine lv_aload_n C.1 C.2.1 dL_law_471 rfl (lv_at hl 1 rfl) ?_
  refine lv_aload_n C.1 C.2.1 dL_law_472 rfl (lv_at hl 3 rfl) ?_
  refine lv_iload_n C.1 C.2.1 dL_law_473 rfl (lv_at hl 0 rfl) ?_
  refine lv_iconst (v := 1) C.1 C.2.1 dL_law_474 (by decide) ?_
  refine lv_iadd C.1 C.2.1 dL_law_475 ?_
  refine va_sld C.1 C.2.1 hX0.1 hX0.2.1 hX0.2.2 hS1.2.2 h1 dL_law_476 ?_
  refine lv_aload_n C.1 C.2.1 dL_law_477 rfl (lv_at hl 3 rfl) ?_
  refine lv_iload_n C.1 C.2.1 dL_law_478 rfl (lv_at hl 0 rfl) ?_
  refine lv_iconst (v := 2) C.1 C.2.1 dL_law_479 (by decide) ?_
  refine lv_iadd C.1 C.2.1 dL_law_480 ?_
  refine va_sld C.1 C.2.1 hX0.1 hX0.2.1 hX0.2.2 hS1.2.2 h2 dL_law_481 ?_
  refine kl_callM (d := 0 + 4) C hl hS1 (Nat.le_of_ble_eq_true rfl) mVX10_road [.int (xs (i + 1).toNatClampNeg), .int (xs (i + 2).toNatClampNeg)] [.long rX] (fun _ => rfl) (u := (some (Value.long rM.1))) (fun _ => rfl) (gX10_road (E := E') (d := 0) (xs (i + 1).toNatClampNeg) (xs (i + 2).toNatClampNeg) σM hM) lmRL_57 rfl rfl (Nat.le_of_ble_eq_true rfl) dL_law_482 rfl (fun H2 locs2 hS2 => ?_)
  show W p E.1 e room_1 s m #[Value.ref b] below meth c H2 locs2 cells slots Q (F0 m 485 ls [.long rM.1, .long rX])
  refine W.lcmp C.1 C.2.1 dL_law_485 ?_
  exact lv_if_eq C.1 C.2.1 dL_law_486 rfl (fun _ => kk H2 locs2 hS2) (fun q => absurd ((lg_cmp_eq _ _).mpr heq) q)
set_option maxHeartbeats 4000000 in
set_option maxRecDepth 100000 in
theorem kl_c10 (C : kl_Cx E E' p s m meth c b L xs cells slots) (hl : lv_has ls 4 [(3, .int i), (2, .ref (E'.2.2.2 0)), (1, .ref (E.2.2.2 0)), (0, .ref b)]) (hS0 : kl_S E E' s σX σM H locs) (h1 : vp_in (i + 1) L) (h2 : vp_in (i + 2) L) {rX : Int64} {rM : Int64 × kw_M} (hX : fX9_change (xs (i + 1).toNatClampNeg) (xs (i + 2).toNatClampNeg) σX = some rX) (hM : fX10_change (xs (i + 1).toNatClampNeg) (xs (i + 2).toNatClampNeg) σM = some rM) (heq : rX = rM.1) (kk : ∀ (H1 : Heap) (locs1 : List Loc), kl_S E E' s σX rM.2 H1 locs1 → W p E.1 e room_1 s m #[Value.ref b] below meth c H1 locs1 cells slots Q (F0 m 1173 ls [])) : W p E.1 e room_1 s m #[Value.ref b] below meth c H locs cells slots Q (F0 m 491 ls []) := by
  have hX0 := C.2.2.2.2.2.2.2.2.2.1
  refine lv_aload_n C.1 C.2.1 dL_law_491 rfl (lv_at hl 2 rfl) ?_
  refine lv_aload_n C.1 C.2.1 dL_law_492 rfl (lv_at hl 3 rfl) ?_
  refine lv_iload_n C.1 C.2.1 dL_law_493 rfl (lv_at hl 0 rfl) ?_
  refine lv_iconst (v := 1) C.1 C.2.1 dL_law_494 (by decide) ?_
  refine lv_iadd C.1 C.2.1 dL_law_495 ?_
  refine va_sld C.1 C.2.1 hX0.1 hX0.2.1 hX0.2.2 hS0.2.2 h1 dL_law_496 ?_
  refine lv_aload_n C.1 C.2.1 dL_law_497 rfl (lv_at hl 3 rfl) ?_
  refine lv_iload_n C.1 C.2.1 dL_law_498 rfl (lv_at hl 0 rfl) ?_
  refine lv_iconst (v := 2) C.1 C.2.1 dL_law_499 (by decide) ?_
  refine lv_iadd C.1 C.2.1 dL_law_500 ?_
  refine va_sld C.1 C.2.1 hX0.1 hX0.2.1 hX0.2.2 hS0.2.2 h2 dL_law_501 ?_
  refine kl_callX (d := 0 + 3) C hl hS0 (Nat.le_of_ble_eq_true rfl) mVX9_change [.int (xs (i + 1).toNatClampNeg), .int (xs (i + 2).toNatClampNeg)] [] (fun _ => rfl) (u := (some (Value.long rX))) (fun _ => rfl) (gX9_change (E := E) (d := 0) (xs (i + 1).toNatClampNeg) (xs (i + 2).toNatClampNeg) σX hX) lmRL_58 rfl rfl (Nat.le_of_ble_eq_true rfl) dL_law_502 rfl (fun H1 locs1 hS1 => ?_)
  show W p E.1 e room_1 s m #[Value.ref b] below meth c H1 locs1 cells slots Q (F0 m 505 ls [.long rX])
  refine lv_aload_n C.1 C.2.1 dL_law_505 rfl (lv_at hl 1 rfl) ?_
  refine lv_aload_n C.1 C.2.1 dL_law_506 rfl (lv_at hl 3 rfl) ?_
  refine lv_iload_n C.1 C.2.1 dL_law_507 rfl (lv_at hl 0 rfl) ?_
  refine lv_iconst (v := 1) C.1 C.2.1 dL_law_508 (by decide) ?_
  refine lv_iadd C.1 C.2.1 dL_law_509 ?_
  refine va_sld C.1 C.2.1 hX0.1 hX0.2.1 hX0.2.2 hS1.2.2 h1 dL_law_510 ?_
  refine lv_aload_n C.1 C.2.1 dL_law_511 rfl (lv_at hl 3 rfl) ?_
  refine lv_iload_n C.1 C.2.1 dL_law_512 rfl (lv_at hl 0 rfl) ?_
  refine lv_iconst (v := 2) C.1 C.2.1 dL_law_513 (by decide) ?_
  refine lv_iadd C.1 C.2.1 dL_law_514 ?_
  refine va_sld C.1 C.2.1 hX0.1 hX0.2.1 hX0.2.2 hS1.2.2 h2 dL_law_515 ?_
  refine kl_callM (d := 0 + 4) C hl hS1 (Nat.le_of_ble_eq_true rfl) mVX10_change [.int (xs (i + 1).toNatClampNeg), .int (xs (i + 2).toNatClampNeg)] [.long rX] (fun _ => rfl) (u := (some (Value.long rM.1))) (fun _ => rfl) (gX10_change (E := E') (d := 0) (xs (i + 1).toNatClampNeg) (xs (i + 2).toNatClampNeg) σM hM) lmRL_61 rfl rfl (Nat.le_of_ble_eq_true rfl) dL_law_516 rfl (fun H2 locs2 hS2 => ?_)
  show W p E.1 e room_1 s m #[Value.ref b] below meth c H2 locs2 cells slots Q (F0 m 519 ls [.long rM.1, .long rX])
  refine W.lcmp C.1 C.2.1 dL_law_519 ?_
  exact lv_if_eq C.1 C.2.1 dL_law_520 rfl (fun _ => kk H2 locs2 hS2) (fun q => absurd ((lg_cmp_eq _ _).mpr heq) q)
set_option maxHeartbeats 4000000 in
set_option maxRecDepth 100000 in
theorem kl_c11 (C : kl_Cx E E' p s m meth c b L xs cells slots) (hl : lv_has ls 4 [(3, .int i), (2, .ref (E'.2.2.2 0)), (1, .ref (E.2.2.2 0)), (0, .ref b)]) (hS0 : kl_S E E' s σX σM H locs) (h1 : vp_in (i + 1) L) (h2 : vp_in (i + 2) L) {rX : Int64 × kw_M} {rM : Int64 × kw_M} (hX : fX9_town (xs (i + 1).toNatClampNeg) (xs (i + 2).toNatClampNeg) σX = some rX) (hM : fX10_town (xs (i + 1).toNatClampNeg) (xs (i + 2).toNatClampNeg) σM = some rM) (heq : rX.1 = rM.1) (kk : ∀ (H1 : Heap) (locs1 : List Loc), kl_S E E' s rX.2 rM.2 H1 locs1 → W p E.1 e room_1 s m #[Value.ref b] below meth c H1 locs1 cells slots Q (F0 m 1173 ls [])) : W p E.1 e room_1 s m #[Value.ref b] below meth c H locs cells slots Q (F0 m 525 ls []) := by
  have hX0 := C.2.2.2.2.2.2.2.2.2.1
  refine lv_aload_n C.1 C.2.1 dL_law_525 rfl (lv_at hl 2 rfl) ?_
  refine lv_aload_n C.1 C.2.1 dL_law_526 rfl (lv_at hl 3 rfl) ?_
  refine lv_iload_n C.1 C.2.1 dL_law_527 rfl (lv_at hl 0 rfl) ?_
  refine lv_iconst (v := 1) C.1 C.2.1 dL_law_528 (by decide) ?_
  refine lv_iadd C.1 C.2.1 dL_law_529 ?_
  refine va_sld C.1 C.2.1 hX0.1 hX0.2.1 hX0.2.2 hS0.2.2 h1 dL_law_530 ?_
  refine lv_aload_n C.1 C.2.1 dL_law_531 rfl (lv_at hl 3 rfl) ?_
  refine lv_iload_n C.1 C.2.1 dL_law_532 rfl (lv_at hl 0 rfl) ?_
  refine lv_iconst (v := 2) C.1 C.2.1 dL_law_533 (by decide) ?_
  refine lv_iadd C.1 C.2.1 dL_law_534 ?_
  refine va_sld C.1 C.2.1 hX0.1 hX0.2.1 hX0.2.2 hS0.2.2 h2 dL_law_535 ?_
  refine kl_callX (d := 0 + 25) C hl hS0 (Nat.le_of_ble_eq_true rfl) mVX9_town [.int (xs (i + 1).toNatClampNeg), .int (xs (i + 2).toNatClampNeg)] [] (fun _ => rfl) (u := (some (Value.long rX.1))) (fun _ => rfl) (gX9_town (E := E) (d := 0) (xs (i + 1).toNatClampNeg) (xs (i + 2).toNatClampNeg) σX hX) lmRL_62 rfl rfl (Nat.le_of_ble_eq_true rfl) dL_law_536 rfl (fun H1 locs1 hS1 => ?_)
  show W p E.1 e room_1 s m #[Value.ref b] below meth c H1 locs1 cells slots Q (F0 m 539 ls [.long rX.1])
  refine lv_aload_n C.1 C.2.1 dL_law_539 rfl (lv_at hl 1 rfl) ?_
  refine lv_aload_n C.1 C.2.1 dL_law_540 rfl (lv_at hl 3 rfl) ?_
  refine lv_iload_n C.1 C.2.1 dL_law_541 rfl (lv_at hl 0 rfl) ?_
  refine lv_iconst (v := 1) C.1 C.2.1 dL_law_542 (by decide) ?_
  refine lv_iadd C.1 C.2.1 dL_law_543 ?_
  refine va_sld C.1 C.2.1 hX0.1 hX0.2.1 hX0.2.2 hS1.2.2 h1 dL_law_544 ?_
  refine lv_aload_n C.1 C.2.1 dL_law_545 rfl (lv_at hl 3 rfl) ?_
  refine lv_iload_n C.1 C.2.1 dL_law_546 rfl (lv_at hl 0 rfl) ?_
  refine lv_iconst (v := 2) C.1 C.2.1 dL_law_547 (by decide) ?_
  refine lv_iadd C.1 C.2.1 dL_law_548 ?_
  refine va_sld C.1 C.2.1 hX0.1 hX0.2.1 hX0.2.2 hS1.2.2 h2 dL_law_549 ?_
  refine kl_callM (d := 0 + 6) C hl hS1 (Nat.le_of_ble_eq_true rfl) mVX10_town [.int (xs (i + 1).toNatClampNeg), .int (xs (i + 2).toNatClampNeg)] [.long rX.1] (fun _ => rfl) (u := (some (Value.long rM.1))) (fun _ => rfl) (gX10_town (E := E') (d := 0) (xs (i + 1).toNatClampNeg) (xs (i + 2).toNatClampNeg) σM hM) lmRL_65 rfl rfl (Nat.le_of_ble_eq_true rfl) dL_law_550 rfl (fun H2 locs2 hS2 => ?_)
  show W p E.1 e room_1 s m #[Value.ref b] below meth c H2 locs2 cells slots Q (F0 m 553 ls [.long rM.1, .long rX.1])
  refine W.lcmp C.1 C.2.1 dL_law_553 ?_
  exact lv_if_eq C.1 C.2.1 dL_law_554 rfl (fun _ => kk H2 locs2 hS2) (fun q => absurd ((lg_cmp_eq _ _).mpr heq) q)
set_option maxHeartbeats 4000000 in
set_option maxRecDepth 100000 in
theorem kl_c12 (C : kl_Cx E E' p s m meth c b L xs cells slots) (hl : lv_has ls 4 [(3, .int i), (2, .ref (E'.2.2.2 0)), (1, .ref (E.2.2.2 0)), (0, .ref b)]) (hS0 : kl_S E E' s σX σM H locs) (h1 : vp_in (i + 1) L) (h2 : vp_in (i + 2) L) {rX : Int32 × kw_M} {rM : Int32 × kw_M} (hX : fX9_way (xs (i + 1).toNatClampNeg) (xs (i + 2).toNatClampNeg) σX = some rX) (hM : fX10_way (xs (i + 1).toNatClampNeg) (xs (i + 2).toNatClampNeg) σM = some rM) (heq : rX.1 = rM.1) (kk : ∀ (H1 : Heap) (locs1 : List Loc), kl_S E E' s rX.2 rM.2 H1 locs1 → W p E.1 e room_1 s m #[Value.ref b] below meth c H1 locs1 cells slots Q (F0 m 1173 ls [])) : W p E.1 e room_1 s m #[Value.ref b] below meth c H locs cells slots Q (F0 m 559 ls []) := by
  have hX0 := C.2.2.2.2.2.2.2.2.2.1
  refine lv_aload_n C.1 C.2.1 dL_law_559 rfl (lv_at hl 2 rfl) ?_
  refine lv_aload_n C.1 C.2.1 dL_law_560 rfl (lv_at hl 3 rfl) ?_
  refine lv_iload_n C.1 C.2.1 dL_law_561 rfl (lv_at hl 0 rfl) ?_
  refine lv_iconst (v := 1) C.1 C.2.1 dL_law_562 (by decide) ?_
  refine lv_iadd C.1 C.2.1 dL_law_563 ?_
  refine va_sld C.1 C.2.1 hX0.1 hX0.2.1 hX0.2.2 hS0.2.2 h1 dL_law_564 ?_
  refine lv_aload_n C.1 C.2.1 dL_law_565 rfl (lv_at hl 3 rfl) ?_
  refine lv_iload_n C.1 C.2.1 dL_law_566 rfl (lv_at hl 0 rfl) ?_
  refine lv_iconst (v := 2) C.1 C.2.1 dL_law_567 (by decide) ?_
  refine lv_iadd C.1 C.2.1 dL_law_568 ?_
  refine va_sld C.1 C.2.1 hX0.1 hX0.2.1 hX0.2.2 hS0.2.2 h2 dL_law_569 ?_
  refine kl_callX (d := 0 + 2) C hl hS0 (Nat.le_of_ble_eq_true rfl) mVX9_way [.int (xs (i + 1).toNatClampNeg), .int (xs (i + 2).toNatClampNeg)] [] (fun _ => rfl) (u := (some (Value.int rX.1))) (fun _ => rfl) (gX9_way (E := E) (d := 0) (xs (i + 1).toNatClampNeg) (xs (i + 2).toNatClampNeg) σX hX) lmRL_66 rfl rfl (Nat.le_of_ble_eq_true rfl) dL_law_570 rfl (fun H1 locs1 hS1 => ?_)
  show W p E.1 e room_1 s m #[Value.ref b] below meth c H1 locs1 cells slots Q (F0 m 573 ls [.int rX.1])
  refine lv_aload_n C.1 C.2.1 dL_law_573 rfl (lv_at hl 1 rfl) ?_
  refine lv_aload_n C.1 C.2.1 dL_law_574 rfl (lv_at hl 3 rfl) ?_
  refine lv_iload_n C.1 C.2.1 dL_law_575 rfl (lv_at hl 0 rfl) ?_
  refine lv_iconst (v := 1) C.1 C.2.1 dL_law_576 (by decide) ?_
  refine lv_iadd C.1 C.2.1 dL_law_577 ?_
  refine va_sld C.1 C.2.1 hX0.1 hX0.2.1 hX0.2.2 hS1.2.2 h1 dL_law_578 ?_
  refine lv_aload_n C.1 C.2.1 dL_law_579 rfl (lv_at hl 3 rfl) ?_
  refine lv_iload_n C.1 C.2.1 dL_law_580 rfl (lv_at hl 0 rfl) ?_
  refine lv_iconst (v := 2) C.1 C.2.1 dL_law_581 (by decide) ?_
  refine lv_iadd C.1 C.2.1 dL_law_582 ?_
  refine va_sld C.1 C.2.1 hX0.1 hX0.2.1 hX0.2.2 hS1.2.2 h2 dL_law_583 ?_
  refine kl_callM (d := 0 + 5) C hl hS1 (Nat.le_of_ble_eq_true rfl) mVX10_way [.int (xs (i + 1).toNatClampNeg), .int (xs (i + 2).toNatClampNeg)] [.int rX.1] (fun _ => rfl) (u := (some (Value.int rM.1))) (fun _ => rfl) (gX10_way (E := E') (d := 0) (xs (i + 1).toNatClampNeg) (xs (i + 2).toNatClampNeg) σM hM) lmRL_69 rfl rfl (Nat.le_of_ble_eq_true rfl) dL_law_584 rfl (fun H2 locs2 hS2 => ?_)
  show W p E.1 e room_1 s m #[Value.ref b] below meth c H2 locs2 cells slots Q (F0 m 587 ls [.int rM.1, .int rX.1])
  exact lv_icmp_eq C.1 C.2.1 dL_law_587 rfl (fun _ => kk H2 locs2 hS2) (fun q => absurd heq q)
set_option maxHeartbeats 4000000 in
set_option maxRecDepth 100000 in
theorem kl_c13 (C : kl_Cx E E' p s m meth c b L xs cells slots) (hl : lv_has ls 4 [(3, .int i), (2, .ref (E'.2.2.2 0)), (1, .ref (E.2.2.2 0)), (0, .ref b)]) (hS0 : kl_S E E' s σX σM H locs) (h1 : vp_in (i + 1) L) (h2 : vp_in (i + 2) L) {rX : Int32 × kw_M} {rM : Int32 × kw_M} (hX : fX9_needed (xs (i + 1).toNatClampNeg) (xs (i + 2).toNatClampNeg) σX = some rX) (hM : fX10_needed (xs (i + 1).toNatClampNeg) (xs (i + 2).toNatClampNeg) σM = some rM) (heq : rX.1 = rM.1) (kk : ∀ (H1 : Heap) (locs1 : List Loc), kl_S E E' s rX.2 rM.2 H1 locs1 → W p E.1 e room_1 s m #[Value.ref b] below meth c H1 locs1 cells slots Q (F0 m 1173 ls [])) : W p E.1 e room_1 s m #[Value.ref b] below meth c H locs cells slots Q (F0 m 592 ls []) := by
  have hX0 := C.2.2.2.2.2.2.2.2.2.1
  refine lv_aload_n C.1 C.2.1 dL_law_592 rfl (lv_at hl 2 rfl) ?_
  refine lv_aload_n C.1 C.2.1 dL_law_593 rfl (lv_at hl 3 rfl) ?_
  refine lv_iload_n C.1 C.2.1 dL_law_594 rfl (lv_at hl 0 rfl) ?_
  refine lv_iconst (v := 1) C.1 C.2.1 dL_law_595 (by decide) ?_
  refine lv_iadd C.1 C.2.1 dL_law_596 ?_
  refine va_sld C.1 C.2.1 hX0.1 hX0.2.1 hX0.2.2 hS0.2.2 h1 dL_law_597 ?_
  refine lv_aload_n C.1 C.2.1 dL_law_598 rfl (lv_at hl 3 rfl) ?_
  refine lv_iload_n C.1 C.2.1 dL_law_599 rfl (lv_at hl 0 rfl) ?_
  refine lv_iconst (v := 2) C.1 C.2.1 dL_law_600 (by decide) ?_
  refine lv_iadd C.1 C.2.1 dL_law_601 ?_
  refine va_sld C.1 C.2.1 hX0.1 hX0.2.1 hX0.2.2 hS0.2.2 h2 dL_law_602 ?_
  refine kl_callX (d := 0 + 4) C hl hS0 (Nat.le_of_ble_eq_true rfl) mVX9_needed [.int (xs (i + 1).toNatClampNeg), .int (xs (i + 2).toNatClampNeg)] [] (fun _ => rfl) (u := (some (Value.int rX.1))) (fun _ => rfl) (gX9_needed (E := E) (d := 0) (xs (i + 1).toNatClampNeg) (xs (i + 2).toNatClampNeg) σX hX) lmRL_70 rfl rfl (Nat.le_of_ble_eq_true rfl) dL_law_603 rfl (fun H1 locs1 hS1 => ?_)
  show W p E.1 e room_1 s m #[Value.ref b] below meth c H1 locs1 cells slots Q (F0 m 606 ls [.int rX.1])
  refine lv_aload_n C.1 C.2.1 dL_law_606 rfl (lv_at hl 1 rfl) ?_
  refine lv_aload_n C.1 C.2.1 dL_law_607 rfl (lv_at hl 3 rfl) ?_
  refine lv_iload_n C.1 C.2.1 dL_law_608 rfl (lv_at hl 0 rfl) ?_
  refine lv_iconst (v := 1) C.1 C.2.1 dL_law_609 (by decide) ?_
  refine lv_iadd C.1 C.2.1 dL_law_610 ?_
  refine va_sld C.1 C.2.1 hX0.1 hX0.2.1 hX0.2.2 hS1.2.2 h1 dL_law_611 ?_
  refine lv_aload_n C.1 C.2.1 dL_law_612 rfl (lv_at hl 3 rfl) ?_
  refine lv_iload_n C.1 C.2.1 dL_law_613 rfl (lv_at hl 0 rfl) ?_
  refine lv_iconst (v := 2) C.1 C.2.1 dL_law_614 (by decide) ?_
  refine lv_iadd C.1 C.2.1 dL_law_615 ?_
  refine va_sld C.1 C.2.1 hX0.1 hX0.2.1 hX0.2.2 hS1.2.2 h2 dL_law_616 ?_
  refine kl_callM (d := 0 + 5) C hl hS1 (Nat.le_of_ble_eq_true rfl) mVX10_needed [.int (xs (i + 1).toNatClampNeg), .int (xs (i + 2).toNatClampNeg)] [.int rX.1] (fun _ => rfl) (u := (some (Value.int rM.1))) (fun _ => rfl) (gX10_needed (E := E') (d := 0) (xs (i + 1).toNatClampNeg) (xs (i + 2).toNatClampNeg) σM hM) lmRL_73 rfl rfl (Nat.le_of_ble_eq_true rfl) dL_law_617 rfl (fun H2 locs2 hS2 => ?_)
  show W p E.1 e room_1 s m #[Value.ref b] below meth c H2 locs2 cells slots Q (F0 m 620 ls [.int rM.1, .int rX.1])
  exact lv_icmp_eq C.1 C.2.1 dL_law_620 rfl (fun _ => kk H2 locs2 hS2) (fun q => absurd heq q)
set_option maxHeartbeats 4000000 in
set_option maxRecDepth 100000 in
theorem kl_c14 (C : kl_Cx E E' p s m meth c b L xs cells slots) (hl : lv_has ls 4 [(3, .int i), (2, .ref (E'.2.2.2 0)), (1, .ref (E.2.2.2 0)), (0, .ref b)]) (hS0 : kl_S E E' s σX σM H locs) (h1 : vp_in (i + 1) L) {rX : Int32} {rM : Int32} (hX : fX9_touched (xs (i + 1).toNatClampNeg) σX = some rX) (hM : fX10_touched (xs (i + 1).toNatClampNeg) σM = some rM) (heq : rX = rM) (kk : ∀ (H1 : Heap) (locs1 : List Loc), kl_S E E' s σX σM H1 locs1 → W p E.1 e room_1 s m #[Value.ref b] below meth c H1 locs1 cells slots Q (F0 m 1173 ls [])) : W p E.1 e room_1 s m #[Value.ref b] below meth c H locs cells slots Q (F0 m 625 ls []) := by
  have hX0 := C.2.2.2.2.2.2.2.2.2.1
  refine lv_aload_n C.1 C.2.1 dL_law_625 rfl (lv_at hl 2 rfl) ?_
  refine lv_aload_n C.1 C.2.1 dL_law_626 rfl (lv_at hl 3 rfl) ?_
  refine lv_iload_n C.1 C.2.1 dL_law_627 rfl (lv_at hl 0 rfl) ?_
  refine lv_iconst (v := 1) C.1 C.2.1 dL_law_628 (by decide) ?_
  refine lv_iadd C.1 C.2.1 dL_law_629 ?_
  refine va_sld C.1 C.2.1 hX0.1 hX0.2.1 hX0.2.2 hS0.2.2 h1 dL_law_630 ?_
  refine kl_callX (d := 0 + 0) C hl hS0 (Nat.le_of_ble_eq_true rfl) mVX9_touched [.int (xs (i + 1).toNatClampNeg)] [] (fun _ => rfl) (u := (some (Value.int rX))) (fun _ => rfl) (gX9_touched (E := E) (d := 0) (xs (i + 1).toNatClampNeg) σX hX) lmRL_74 rfl rfl (Nat.le_of_ble_eq_true rfl) dL_law_631 rfl (fun H1 locs1 hS1 => ?_)
  show W p E.1 e room_1 s m #[Value.ref b] below meth c H1 locs1 cells slots Q (F0 m 634 ls [.int rX])
  refine lv_aload_n C.1 C.2.1 dL_law_634 rfl (lv_at hl 1 rfl) ?_
  refine lv_aload_n C.1 C.2.1 dL_law_635 rfl (lv_at hl 3 rfl) ?_
  refine lv_iload_n C.1 C.2.1 dL_law_636 rfl (lv_at hl 0 rfl) ?_
  refine lv_iconst (v := 1) C.1 C.2.1 dL_law_637 (by decide) ?_
  refine lv_iadd C.1 C.2.1 dL_law_638 ?_
  refine va_sld C.1 C.2.1 hX0.1 hX0.2.1 hX0.2.2 hS1.2.2 h1 dL_law_639 ?_
  refine kl_callM (d := 0 + 0) C hl hS1 (Nat.le_of_ble_eq_true rfl) mVX10_touched [.int (xs (i + 1).toNatClampNeg)] [.int rX] (fun _ => rfl) (u := (some (Value.int rM))) (fun _ => rfl) (gX10_touched (E := E') (d := 0) (xs (i + 1).toNatClampNeg) σM hM) lmRL_77 rfl rfl (Nat.le_of_ble_eq_true rfl) dL_law_640 rfl (fun H2 locs2 hS2 => ?_)
  show W p E.1 e room_1 s m #[Value.ref b] below meth c H2 locs2 cells slots Q (F0 m 643 ls [.int rM, .int rX])
  exact lv_icmp_eq C.1 C.2.1 dL_law_643 rfl (fun _ => kk H2 locs2 hS2) (fun q => absurd heq q)
set_option maxHeartbeats 4000000 in
set_option maxRecDepth 100000 in
theorem kl_c15 (C : kl_Cx E E' p s m meth c b L xs cells slots) (hl : lv_has ls 4 [(3, .int i), (2, .ref (E'.2.2.2 0)), (1, .ref (E.2.2.2 0)), (0, .ref b)]) (hS0 : kl_S E E' s σX σM H locs) (h1 : vp_in (i + 1) L) (h2 : vp_in (i + 2) L) {rX : Int64 × kw_M} {rM : Int64 × kw_M} (hX : fX9_without (xs (i + 1).toNatClampNeg) (xs (i + 2).toNatClampNeg) σX = some rX) (hM : fX10_without (xs (i + 1).toNatClampNeg) (xs (i + 2).toNatClampNeg) σM = some rM) (heq : rX.1 = rM.1) (kk : ∀ (H1 : Heap) (locs1 : List Loc), kl_S E E' s rX.2 rM.2 H1 locs1 → W p E.1 e room_1 s m #[Value.ref b] below meth c H1 locs1 cells slots Q (F0 m 1173 ls [])) : W p E.1 e room_1 s m #[Value.ref b] below meth c H locs cells slots Q (F0 m 648 ls []) := by
  have hX0 := C.2.2.2.2.2.2.2.2.2.1
  refine lv_aload_n C.1 C.2.1 dL_law_648 rfl (lv_at hl 2 rfl) ?_
  refine lv_aload_n C.1 C.2.1 dL_law_649 rfl (lv_at hl 3 rfl) ?_
  refine lv_iload_n C.1 C.2.1 dL_law_650 rfl (lv_at hl 0 rfl) ?_
  refine lv_iconst (v := 1) C.1 C.2.1 dL_law_651 (by decide) ?_
  refine lv_iadd C.1 C.2.1 dL_law_652 ?_
  refine va_sld C.1 C.2.1 hX0.1 hX0.2.1 hX0.2.2 hS0.2.2 h1 dL_law_653 ?_
  refine lv_aload_n C.1 C.2.1 dL_law_654 rfl (lv_at hl 3 rfl) ?_
  refine lv_iload_n C.1 C.2.1 dL_law_655 rfl (lv_at hl 0 rfl) ?_
  refine lv_iconst (v := 2) C.1 C.2.1 dL_law_656 (by decide) ?_
  refine lv_iadd C.1 C.2.1 dL_law_657 ?_
  refine va_sld C.1 C.2.1 hX0.1 hX0.2.1 hX0.2.2 hS0.2.2 h2 dL_law_658 ?_
  refine kl_callX (d := 0 + 3) C hl hS0 (Nat.le_of_ble_eq_true rfl) mVX9_without [.int (xs (i + 1).toNatClampNeg), .int (xs (i + 2).toNatClampNeg)] [] (fun _ => rfl) (u := (some (Value.long rX.1))) (fun _ => rfl) (gX9_without (E := E) (d := 0) (xs (i + 1).toNatClampNeg) (xs (i + 2).toNatClampNeg) σX hX) lmRL_78 rfl rfl (Nat.le_of_ble_eq_true rfl) dL_law_659 rfl (fun H1 locs1 hS1 => ?_)
  show W p E.1 e room_1 s m #[Value.ref b] below meth c H1 locs1 cells slots Q (F0 m 662 ls [.long rX.1])
  refine lv_aload_n C.1 C.2.1 dL_law_662 rfl (lv_at hl 1 rfl) ?_
  refine lv_aload_n C.1 C.2.1 dL_law_663 rfl (lv_at hl 3 rfl) ?_
  refine lv_iload_n C.1 C.2.1 dL_law_664 rfl (lv_at hl 0 rfl) ?_
  refine lv_iconst (v := 1) C.1 C.2.1 dL_law_665 (by decide) ?_
  refine lv_iadd C.1 C.2.1 dL_law_666 ?_
  refine va_sld C.1 C.2.1 hX0.1 hX0.2.1 hX0.2.2 hS1.2.2 h1 dL_law_667 ?_
  refine lv_aload_n C.1 C.2.1 dL_law_668 rfl (lv_at hl 3 rfl) ?_
  refine lv_iload_n C.1 C.2.1 dL_law_669 rfl (lv_at hl 0 rfl) ?_
  refine lv_iconst (v := 2) C.1 C.2.1 dL_law_670 (by decide) ?_
  refine lv_iadd C.1 C.2.1 dL_law_671 ?_
  refine va_sld C.1 C.2.1 hX0.1 hX0.2.1 hX0.2.2 hS1.2.2 h2 dL_law_672 ?_
  refine kl_callM (d := 0 + 3) C hl hS1 (Nat.le_of_ble_eq_true rfl) mVX10_without [.int (xs (i + 1).toNatClampNeg), .int (xs (i + 2).toNatClampNeg)] [.long rX.1] (fun _ => rfl) (u := (some (Value.long rM.1))) (fun _ => rfl) (gX10_without (E := E') (d := 0) (xs (i + 1).toNatClampNeg) (xs (i + 2).toNatClampNeg) σM hM) lmRL_81 rfl rfl (Nat.le_of_ble_eq_true rfl) dL_law_673 rfl (fun H2 locs2 hS2 => ?_)
  show W p E.1 e room_1 s m #[Value.ref b] below meth c H2 locs2 cells slots Q (F0 m 676 ls [.long rM.1, .long rX.1])
  refine W.lcmp C.1 C.2.1 dL_law_676 ?_
  exact lv_if_eq C.1 C.2.1 dL_law_677 rfl (fun _ => kk H2 locs2 hS2) (fun q => absurd ((lg_cmp_eq _ _).mpr heq) q)
set_option maxHeartbeats 4000000 in
set_option maxRecDepth 100000 in
theorem kl_c16 (C : kl_Cx E E' p s m meth c b L xs cells slots) (hl : lv_has ls 4 [(3, .int i), (2, .ref (E'.2.2.2 0)), (1, .ref (E.2.2.2 0)), (0, .ref b)]) (hS0 : kl_S E E' s σX σM H locs) (h1 : vp_in (i + 1) L) (h2 : vp_in (i + 2) L) {rX : Int64 × kw_M} {rM : Int64 × kw_M} (hX : fX9_between (xs (i + 1).toNatClampNeg) (xs (i + 2).toNatClampNeg) σX = some rX) (hM : fX10_between (xs (i + 1).toNatClampNeg) (xs (i + 2).toNatClampNeg) σM = some rM) (heq : rX.1 = rM.1) (kk : ∀ (H1 : Heap) (locs1 : List Loc), kl_S E E' s rX.2 rM.2 H1 locs1 → W p E.1 e room_1 s m #[Value.ref b] below meth c H1 locs1 cells slots Q (F0 m 1173 ls [])) : W p E.1 e room_1 s m #[Value.ref b] below meth c H locs cells slots Q (F0 m 682 ls []) := by
  have hX0 := C.2.2.2.2.2.2.2.2.2.1
  refine lv_aload_n C.1 C.2.1 dL_law_682 rfl (lv_at hl 2 rfl) ?_
  refine lv_aload_n C.1 C.2.1 dL_law_683 rfl (lv_at hl 3 rfl) ?_
  refine lv_iload_n C.1 C.2.1 dL_law_684 rfl (lv_at hl 0 rfl) ?_
  refine lv_iconst (v := 1) C.1 C.2.1 dL_law_685 (by decide) ?_
  refine lv_iadd C.1 C.2.1 dL_law_686 ?_
  refine va_sld C.1 C.2.1 hX0.1 hX0.2.1 hX0.2.2 hS0.2.2 h1 dL_law_687 ?_
  refine lv_aload_n C.1 C.2.1 dL_law_688 rfl (lv_at hl 3 rfl) ?_
  refine lv_iload_n C.1 C.2.1 dL_law_689 rfl (lv_at hl 0 rfl) ?_
  refine lv_iconst (v := 2) C.1 C.2.1 dL_law_690 (by decide) ?_
  refine lv_iadd C.1 C.2.1 dL_law_691 ?_
  refine va_sld C.1 C.2.1 hX0.1 hX0.2.1 hX0.2.2 hS0.2.2 h2 dL_law_692 ?_
  refine kl_callX (d := 0 + 4) C hl hS0 (Nat.le_of_ble_eq_true rfl) mVX9_between [.int (xs (i + 1).toNatClampNeg), .int (xs (i + 2).toNatClampNeg)] [] (fun _ => rfl) (u := (some (Value.long rX.1))) (fun _ => rfl) (gX9_between (E := E) (d := 0) (xs (i + 1).toNatClampNeg) (xs (i + 2).toNatClampNeg) σX hX) lmRL_82 rfl rfl (Nat.le_of_ble_eq_true rfl) dL_law_693 rfl (fun H1 locs1 hS1 => ?_)
  show W p E.1 e room_1 s m #[Value.ref b] below meth c H1 locs1 cells slots Q (F0 m 696 ls [.long rX.1])
  refine lv_aload_n C.1 C.2.1 dL_law_696 rfl (lv_at hl 1 rfl) ?_
  refine lv_aload_n C.1 C.2.1 dL_law_697 rfl (lv_at hl 3 rfl) ?_
  refine lv_iload_n C.1 C.2.1 dL_law_698 rfl (lv_at hl 0 rfl) ?_
  refine lv_iconst (v := 1) C.1 C.2.1 dL_law_699 (by decide) ?_
  refine lv_iadd C.1 C.2.1 dL_law_700 ?_
  refine va_sld C.1 C.2.1 hX0.1 hX0.2.1 hX0.2.2 hS1.2.2 h1 dL_law_701 ?_
  refine lv_aload_n C.1 C.2.1 dL_law_702 rfl (lv_at hl 3 rfl) ?_
  refine lv_iload_n C.1 C.2.1 dL_law_703 rfl (lv_at hl 0 rfl) ?_
  refine lv_iconst (v := 2) C.1 C.2.1 dL_law_704 (by decide) ?_
  refine lv_iadd C.1 C.2.1 dL_law_705 ?_
  refine va_sld C.1 C.2.1 hX0.1 hX0.2.1 hX0.2.2 hS1.2.2 h2 dL_law_706 ?_
  refine kl_callM (d := 0 + 3) C hl hS1 (Nat.le_of_ble_eq_true rfl) mVX10_between [.int (xs (i + 1).toNatClampNeg), .int (xs (i + 2).toNatClampNeg)] [.long rX.1] (fun _ => rfl) (u := (some (Value.long rM.1))) (fun _ => rfl) (gX10_between (E := E') (d := 0) (xs (i + 1).toNatClampNeg) (xs (i + 2).toNatClampNeg) σM hM) lmRL_85 rfl rfl (Nat.le_of_ble_eq_true rfl) dL_law_707 rfl (fun H2 locs2 hS2 => ?_)
  show W p E.1 e room_1 s m #[Value.ref b] below meth c H2 locs2 cells slots Q (F0 m 710 ls [.long rM.1, .long rX.1])
  refine W.lcmp C.1 C.2.1 dL_law_710 ?_
  exact lv_if_eq C.1 C.2.1 dL_law_711 rfl (fun _ => kk H2 locs2 hS2) (fun q => absurd ((lg_cmp_eq _ _).mpr heq) q)
set_option maxHeartbeats 4000000 in
set_option maxRecDepth 100000 in
theorem kl_c17 (C : kl_Cx E E' p s m meth c b L xs cells slots) (hl : lv_has ls 4 [(3, .int i), (2, .ref (E'.2.2.2 0)), (1, .ref (E.2.2.2 0)), (0, .ref b)]) (hS0 : kl_S E E' s σX σM H locs) (h1 : vp_in (i + 1) L) (h2 : vp_in (i + 2) L) {rX : Int64 × kw_M} {rM : Int64 × kw_M} (hX : fX9_free (xs (i + 1).toNatClampNeg) (xs (i + 2).toNatClampNeg) σX = some rX) (hM : fX10_free (xs (i + 1).toNatClampNeg) (xs (i + 2).toNatClampNeg) σM = some rM) (heq : rX.1 = rM.1) (kk : ∀ (H1 : Heap) (locs1 : List Loc), kl_S E E' s rX.2 rM.2 H1 locs1 → W p E.1 e room_1 s m #[Value.ref b] below meth c H1 locs1 cells slots Q (F0 m 1173 ls [])) : W p E.1 e room_1 s m #[Value.ref b] below meth c H locs cells slots Q (F0 m 716 ls []) := by
  have hX0 := C.2.2.2.2.2.2.2.2.2.1
  refine lv_aload_n C.1 C.2.1 dL_law_716 rfl (lv_at hl 2 rfl) ?_
  refine lv_aload_n C.1 C.2.1 dL_law_717 rfl (lv_at hl 3 rfl) ?_
  refine lv_iload_n C.1 C.2.1 dL_law_718 rfl (lv_at hl 0 rfl) ?_
  refine lv_iconst (v := 1) C.1 C.2.1 dL_law_719 (by decide) ?_
  refine lv_iadd C.1 C.2.1 dL_law_720 ?_
  refine va_sld C.1 C.2.1 hX0.1 hX0.2.1 hX0.2.2 hS0.2.2 h1 dL_law_721 ?_
  refine lv_aload_n C.1 C.2.1 dL_law_722 rfl (lv_at hl 3 rfl) ?_
  refine lv_iload_n C.1 C.2.1 dL_law_723 rfl (lv_at hl 0 rfl) ?_
  refine lv_iconst (v := 2) C.1 C.2.1 dL_law_724 (by decide) ?_
  refine lv_iadd C.1 C.2.1 dL_law_725 ?_
  refine va_sld C.1 C.2.1 hX0.1 hX0.2.1 hX0.2.2 hS0.2.2 h2 dL_law_726 ?_
  refine kl_callX (d := 0 + 4) C hl hS0 (Nat.le_of_ble_eq_true rfl) mVX9_free [.int (xs (i + 1).toNatClampNeg), .int (xs (i + 2).toNatClampNeg)] [] (fun _ => rfl) (u := (some (Value.long rX.1))) (fun _ => rfl) (gX9_free (E := E) (d := 0) (xs (i + 1).toNatClampNeg) (xs (i + 2).toNatClampNeg) σX hX) lmRL_86 rfl rfl (Nat.le_of_ble_eq_true rfl) dL_law_727 rfl (fun H1 locs1 hS1 => ?_)
  show W p E.1 e room_1 s m #[Value.ref b] below meth c H1 locs1 cells slots Q (F0 m 730 ls [.long rX.1])
  refine lv_aload_n C.1 C.2.1 dL_law_730 rfl (lv_at hl 1 rfl) ?_
  refine lv_aload_n C.1 C.2.1 dL_law_731 rfl (lv_at hl 3 rfl) ?_
  refine lv_iload_n C.1 C.2.1 dL_law_732 rfl (lv_at hl 0 rfl) ?_
  refine lv_iconst (v := 1) C.1 C.2.1 dL_law_733 (by decide) ?_
  refine lv_iadd C.1 C.2.1 dL_law_734 ?_
  refine va_sld C.1 C.2.1 hX0.1 hX0.2.1 hX0.2.2 hS1.2.2 h1 dL_law_735 ?_
  refine lv_aload_n C.1 C.2.1 dL_law_736 rfl (lv_at hl 3 rfl) ?_
  refine lv_iload_n C.1 C.2.1 dL_law_737 rfl (lv_at hl 0 rfl) ?_
  refine lv_iconst (v := 2) C.1 C.2.1 dL_law_738 (by decide) ?_
  refine lv_iadd C.1 C.2.1 dL_law_739 ?_
  refine va_sld C.1 C.2.1 hX0.1 hX0.2.1 hX0.2.2 hS1.2.2 h2 dL_law_740 ?_
  refine kl_callM (d := 0 + 2) C hl hS1 (Nat.le_of_ble_eq_true rfl) mVX10_free [.int (xs (i + 1).toNatClampNeg), .int (xs (i + 2).toNatClampNeg)] [.long rX.1] (fun _ => rfl) (u := (some (Value.long rM.1))) (fun _ => rfl) (gX10_free (E := E') (d := 0) (xs (i + 1).toNatClampNeg) (xs (i + 2).toNatClampNeg) σM hM) lmRL_89 rfl rfl (Nat.le_of_ble_eq_true rfl) dL_law_741 rfl (fun H2 locs2 hS2 => ?_)
  show W p E.1 e room_1 s m #[Value.ref b] below meth c H2 locs2 cells slots Q (F0 m 744 ls [.long rM.1, .long rX.1])
  refine W.lcmp C.1 C.2.1 dL_law_744 ?_
  exact lv_if_eq C.1 C.2.1 dL_law_745 rfl (fun _ => kk H2 locs2 hS2) (fun q => absurd ((lg_cmp_eq _ _).mpr heq) q)
set_option maxHeartbeats 4000000 in
set_option maxRecDepth 100000 in
theorem kl_c18 (C : kl_Cx E E' p s m meth c b L xs cells slots) (hl : lv_has ls 4 [(3, .int i), (2, .ref (E'.2.2.2 0)), (1, .ref (E.2.2.2 0)), (0, .ref b)]) (hS0 : kl_S E E' s σX σM H locs) (h1 : vp_in (i + 1) L) (h2 : vp_in (i + 2) L) {rX : Int64 × kw_M} {rM : Int64 × kw_M} (hX : fX9_hops (xs (i + 1).toNatClampNeg) (xs (i + 2).toNatClampNeg) σX = some rX) (hM : fX10_hops (xs (i + 1).toNatClampNeg) (xs (i + 2).toNatClampNeg) σM = some rM) (heq : rX.1 = rM.1) (kk : ∀ (H1 : Heap) (locs1 : List Loc), kl_S E E' s rX.2 rM.2 H1 locs1 → W p E.1 e room_1 s m #[Value.ref b] below meth c H1 locs1 cells slots Q (F0 m 1173 ls [])) : W p E.1 e room_1 s m #[Value.ref b] below meth c H locs cells slots Q (F0 m 750 ls []) := by
  have hX0 := C.2.2.2.2.2.2.2.2.2.1
  refine lv_aload_n C.1 C.2.1 dL_law_750 rfl (lv_at hl 2 rfl) ?_
  refine lv_aload_n C.1 C.2.1 dL_law_751 rfl (lv_at hl 3 rfl) ?_
  refine lv_iload_n C.1 C.2.1 dL_law_752 rfl (lv_at hl 0 rfl) ?_
  refine lv_iconst (v := 1) C.1 C.2.1 dL_law_753 (by decide) ?_
  refine lv_iadd C.1 C.2.1 dL_law_754 ?_
  refine va_sld C.1 C.2.1 hX0.1 hX0.2.1 hX0.2.2 hS0.2.2 h1 dL_law_755 ?_
  refine lv_aload_n C.1 C.2.1 dL_law_756 rfl (lv_at hl 3 rfl) ?_
  refine lv_iload_n C.1 C.2.1 dL_law_757 rfl (lv_at hl 0 rfl) ?_
  refine lv_iconst (v := 2) C.1 C.2.1 dL_law_758 (by decide) ?_
  refine lv_iadd C.1 C.2.1 dL_law_759 ?_
  refine va_sld C.1 C.2.1 hX0.1 hX0.2.1 hX0.2.2 hS0.2.2 h2 dL_law_760 ?_
  refine kl_callX (d := 0 + 4) C hl hS0 (Nat.le_of_ble_eq_true rfl) mVX9_hops [.int (xs (i + 1).toNatClampNeg), .int (xs (i + 2).toNatClampNeg)] [] (fun _ => rfl) (u := (some (Value.long rX.1))) (fun _ => rfl) (gX9_hops (E := E) (d := 0) (xs (i + 1).toNatClampNeg) (xs (i + 2).toNatClampNeg) σX hX) lmRL_90 rfl rfl (Nat.le_of_ble_eq_true rfl) dL_law_761 rfl (fun H1 locs1 hS1 => ?_)
  show W p E.1 e room_1 s m #[Value.ref b] below meth c H1 locs1 cells slots Q (F0 m 764 ls [.long rX.1])
  refine lv_aload_n C.1 C.2.1 dL_law_764 rfl (lv_at hl 1 rfl) ?_
  refine lv_aload_n C.1 C.2.1 dL_law_765 rfl (lv_at hl 3 rfl) ?_
  refine lv_iload_n C.1 C.2.1 dL_law_766 rfl (lv_at hl 0 rfl) ?_
  refine lv_iconst (v := 1) C.1 C.2.1 dL_law_767 (by decide) ?_
  refine lv_iadd C.1 C.2.1 dL_law_768 ?_
  refine va_sld C.1 C.2.1 hX0.1 hX0.2.1 hX0.2.2 hS1.2.2 h1 dL_law_769 ?_
  refine lv_aload_n C.1 C.2.1 dL_law_770 rfl (lv_at hl 3 rfl) ?_
  refine lv_iload_n C.1 C.2.1 dL_law_771 rfl (lv_at hl 0 rfl) ?_
  refine lv_iconst (v := 2) C.1 C.2.1 dL_law_772 (by decide) ?_
  refine lv_iadd C.1 C.2.1 dL_law_773 ?_
  refine va_sld C.1 C.2.1 hX0.1 hX0.2.1 hX0.2.2 hS1.2.2 h2 dL_law_774 ?_
  refine kl_callM (d := 0 + 3) C hl hS1 (Nat.le_of_ble_eq_true rfl) mVX10_hops [.int (xs (i + 1).toNatClampNeg), .int (xs (i + 2).toNatClampNeg)] [.long rX.1] (fun _ => rfl) (u := (some (Value.long rM.1))) (fun _ => rfl) (gX10_hops (E := E') (d := 0) (xs (i + 1).toNatClampNeg) (xs (i + 2).toNatClampNeg) σM hM) lmRL_93 rfl rfl (Nat.le_of_ble_eq_true rfl) dL_law_775 rfl (fun H2 locs2 hS2 => ?_)
  show W p E.1 e room_1 s m #[Value.ref b] below meth c H2 locs2 cells slots Q (F0 m 778 ls [.long rM.1, .long rX.1])
  refine W.lcmp C.1 C.2.1 dL_law_778 ?_
  exact lv_if_eq C.1 C.2.1 dL_law_779 rfl (fun _ => kk H2 locs2 hS2) (fun q => absurd ((lg_cmp_eq _ _).mpr heq) q)
set_option maxHeartbeats 4000000 in
set_option maxRecDepth 100000 in
theorem kl_c19 (C : kl_Cx E E' p s m meth c b L xs cells slots) (hl : lv_has ls 4 [(3, .int i), (2, .ref (E'.2.2.2 0)), (1, .ref (E.2.2.2 0)), (0, .ref b)]) (hS0 : kl_S E E' s σX σM H locs) (h1 : vp_in (i + 1) L) (h2 : vp_in (i + 2) L) {rX : Int64 × kw_M} {rM : Int64 × kw_M} (hX : fX9_meet (xs (i + 1).toNatClampNeg) (xs (i + 2).toNatClampNeg) σX = some rX) (hM : fX10_meet (xs (i + 1).toNatClampNeg) (xs (i + 2).toNatClampNeg) σM = some rM) (heq : rX.1 = rM.1) (kk : ∀ (H1 : Heap) (locs1 : List Loc), kl_S E E' s rX.2 rM.2 H1 locs1 → W p E.1 e room_1 s m #[Value.ref b] below meth c H1 locs1 cells slots Q (F0 m 1173 ls [])) : W p E.1 e room_1 s m #[Value.ref b] below meth c H locs cells slots Q (F0 m 784 ls []) := by
  have hX0 := C.2.2.2.2.2.2.2.2.2.1
  refine lv_aload_n C.1 C.2.1 dL_law_784 rfl (lv_at hl 2 rfl) ?_
  refine lv_aload_n C.1 C.2.1 dL_law_785 rfl (lv_at hl 3 rfl) ?_
  refine lv_iload_n C.1 C.2.1 dL_law_786 rfl (lv_at hl 0 rfl) ?_
  refine lv_iconst (v := 1) C.1 C.2.1 dL_law_787 (by decide) ?_
  refine lv_iadd C.1 C.2.1 dL_law_788 ?_
  refine va_sld C.1 C.2.1 hX0.1 hX0.2.1 hX0.2.2 hS0.2.2 h1 dL_law_789 ?_
  refine lv_aload_n C.1 C.2.1 dL_law_790 rfl (lv_at hl 3 rfl) ?_
  refine lv_iload_n C.1 C.2.1 dL_law_791 rfl (lv_at hl 0 rfl) ?_
  refine lv_iconst (v := 2) C.1 C.2.1 dL_law_792 (by decide) ?_
  refine lv_iadd C.1 C.2.1 dL_law_793 ?_
  refine va_sld C.1 C.2.1 hX0.1 hX0.2.1 hX0.2.2 hS0.2.2 h2 dL_law_794 ?_
  refine kl_callX (d := 0 + 4) C hl hS0 (Nat.le_of_ble_eq_true rfl) mVX9_meet [.int (xs (i + 1).toNatClampNeg), .int (xs (i + 2).toNatClampNeg)] [] (fun _ => rfl) (u := (some (Value.long rX.1))) (fun _ => rfl) (gX9_meet (E := E) (d := 0) (xs (i + 1).toNatClampNeg) (xs (i + 2).toNatClampNeg) σX hX) lmRL_94 rfl rfl (Nat.le_of_ble_eq_true rfl) dL_law_795 rfl (fun H1 locs1 hS1 => ?_)
  show W p E.1 e room_1 s m #[Value.ref b] below meth c H1 locs1 cells slots Q (F0 m 798 ls [.long rX.1])
  refine lv_aload_n C.1 C.2.1 dL_law_798 rfl (lv_at hl 1 rfl) ?_
  refine lv_aload_n C.1 C.2.1 dL_law_799 rfl (lv_at hl 3 rfl) ?_
  refine lv_iload_n C.1 C.2.1 dL_law_800 rfl (lv_at hl 0 rfl) ?_
  refine lv_iconst (v := 1) C.1 C.2.1 dL_law_801 (by decide) ?_
  refine lv_iadd C.1 C.2.1 dL_law_802 ?_
  refine va_sld C.1 C.2.1 hX0.1 hX0.2.1 hX0.2.2 hS1.2.2 h1 dL_law_803 ?_
  refine lv_aload_n C.1 C.2.1 dL_law_804 rfl (lv_at hl 3 rfl) ?_
  refine lv_iload_n C.1 C.2.1 dL_law_805 rfl (lv_at hl 0 rfl) ?_
  refine lv_iconst (v := 2) C.1 C.2.1 dL_law_806 (by decide) ?_
  refine lv_iadd C.1 C.2.1 dL_law_807 ?_
  refine va_sld C.1 C.2.1 hX0.1 hX0.2.1 hX0.2.2 hS1.2.2 h2 dL_law_808 ?_
  refine kl_callM (d := 0 + 4) C hl hS1 (Nat.le_of_ble_eq_true rfl) mVX10_meet [.int (xs (i + 1).toNatClampNeg), .int (xs (i + 2).toNatClampNeg)] [.long rX.1] (fun _ => rfl) (u := (some (Value.long rM.1))) (fun _ => rfl) (gX10_meet (E := E') (d := 0) (xs (i + 1).toNatClampNeg) (xs (i + 2).toNatClampNeg) σM hM) lmRL_97 rfl rfl (Nat.le_of_ble_eq_true rfl) dL_law_809 rfl (fun H2 locs2 hS2 => ?_)
  show W p E.1 e room_1 s m #[Value.ref b] below meth c H2 locs2 cells slots Q (F0 m 812 ls [.long rM.1, .long rX.1])
  refine W.lcmp C.1 C.2.1 dL_law_812 ?_
  exact lv_if_eq C.1 C.2.1 dL_law_813 rfl (fun _ => kk H2 locs2 hS2) (fun q => absurd ((lg_cmp_eq _ _).mpr heq) q)
set_option maxHeartbeats 4000000 in
set_option maxRecDepth 100000 in
theorem kl_c20 (C : kl_Cx E E' p s m meth c b L xs cells slots) (hl : lv_has ls 4 [(3, .int i), (2, .ref (E'.2.2.2 0)), (1, .ref (E.2.2.2 0)), (0, .ref b)]) (hS0 : kl_S E E' s σX σM H locs) (h1 : vp_in (i + 1) L) (h2 : vp_in (i + 2) L) {rX : Int64 × kw_M} {rM : Int64 × kw_M} (hX : fX9_through (xs (i + 1).toNatClampNeg) (xs (i + 2).toNatClampNeg) σX = some rX) (hM : fX10_through (xs (i + 1).toNatClampNeg) (xs (i + 2).toNatClampNeg) σM = some rM) (heq : rX.1 = rM.1) (kk : ∀ (H1 : Heap) (locs1 : List Loc), kl_S E E' s rX.2 rM.2 H1 locs1 → W p E.1 e room_1 s m #[Value.ref b] below meth c H1 locs1 cells slots Q (F0 m 1173 ls [])) : W p E.1 e room_1 s m #[Value.ref b] below meth c H locs cells slots Q (F0 m 818 ls []) := by
  have hX0 := C.2.2.2.2.2.2.2.2.2.1
  refine lv_aload_n C.1 C.2.1 dL_law_818 rfl (lv_at hl 2 rfl) ?_
  refine lv_aload_n C.1 C.2.1 dL_law_819 rfl (lv_at hl 3 rfl) ?_
  refine lv_iload_n C.1 C.2.1 dL_law_820 rfl (lv_at hl 0 rfl) ?_
  refine lv_iconst (v := 1) C.1 C.2.1 dL_law_821 (by decide) ?_
  refine lv_iadd C.1 C.2.1 dL_law_822 ?_
  refine va_sld C.1 C.2.1 hX0.1 hX0.2.1 hX0.2.2 hS0.2.2 h1 dL_law_823 ?_
  refine lv_aload_n C.1 C.2.1 dL_law_824 rfl (lv_at hl 3 rfl) ?_
  refine lv_iload_n C.1 C.2.1 dL_law_825 rfl (lv_at hl 0 rfl) ?_
  refine lv_iconst (v := 2) C.1 C.2.1 dL_law_826 (by decide) ?_
  refine lv_iadd C.1 C.2.1 dL_law_827 ?_
  refine va_sld C.1 C.2.1 hX0.1 hX0.2.1 hX0.2.2 hS0.2.2 h2 dL_law_828 ?_
  refine kl_callX (d := 0 + 4) C hl hS0 (Nat.le_of_ble_eq_true rfl) mVX9_through [.int (xs (i + 1).toNatClampNeg), .int (xs (i + 2).toNatClampNeg)] [] (fun _ => rfl) (u := (some (Value.long rX.1))) (fun _ => rfl) (gX9_through (E := E) (d := 0) (xs (i + 1).toNatClampNeg) (xs (i + 2).toNatClampNeg) σX hX) lmRL_98 rfl rfl (Nat.le_of_ble_eq_true rfl) dL_law_829 rfl (fun H1 locs1 hS1 => ?_)
  show W p E.1 e room_1 s m #[Value.ref b] below meth c H1 locs1 cells slots Q (F0 m 832 ls [.long rX.1])
  refine lv_aload_n C.1 C.2.1 dL_law_832 rfl (lv_at hl 1 rfl) ?_
  refine lv_aload_n C.1 C.2.1 dL_law_833 rfl (lv_at hl 3 rfl) ?_
  refine lv_iload_n C.1 C.2.1 dL_law_834 rfl (lv_at hl 0 rfl) ?_
  refine lv_iconst (v := 1) C.1 C.2.1 dL_law_835 (by decide) ?_
  refine lv_iadd C.1 C.2.1 dL_law_836 ?_
  refine va_sld C.1 C.2.1 hX0.1 hX0.2.1 hX0.2.2 hS1.2.2 h1 dL_law_837 ?_
  refine lv_aload_n C.1 C.2.1 dL_law_838 rfl (lv_at hl 3 rfl) ?_
  refine lv_iload_n C.1 C.2.1 dL_law_839 rfl (lv_at hl 0 rfl) ?_
  refine lv_iconst (v := 2) C.1 C.2.1 dL_law_840 (by decide) ?_
  refine lv_iadd C.1 C.2.1 dL_law_841 ?_
  refine va_sld C.1 C.2.1 hX0.1 hX0.2.1 hX0.2.2 hS1.2.2 h2 dL_law_842 ?_
  refine kl_callM (d := 0 + 4) C hl hS1 (Nat.le_of_ble_eq_true rfl) mVX10_through [.int (xs (i + 1).toNatClampNeg), .int (xs (i + 2).toNatClampNeg)] [.long rX.1] (fun _ => rfl) (u := (some (Value.long rM.1))) (fun _ => rfl) (gX10_through (E := E') (d := 0) (xs (i + 1).toNatClampNeg) (xs (i + 2).toNatClampNeg) σM hM) lmRL_101 rfl rfl (Nat.le_of_ble_eq_true rfl) dL_law_843 rfl (fun H2 locs2 hS2 => ?_)
  show W p E.1 e room_1 s m #[Value.ref b] below meth c H2 locs2 cells slots Q (F0 m 846 ls [.long rM.1, .long rX.1])
  refine W.lcmp C.1 C.2.1 dL_law_846 ?_
  exact lv_if_eq C.1 C.2.1 dL_law_847 rfl (fun _ => kk H2 locs2 hS2) (fun q => absurd ((lg_cmp_eq _ _).mpr heq) q)
set_option maxHeartbeats 4000000 in
set_option maxRecDepth 100000 in
theorem kl_c21 (C : kl_Cx E E' p s m meth c b L xs cells slots) (hl : lv_has ls 4 [(3, .int i), (2, .ref (E'.2.2.2 0)), (1, .ref (E.2.2.2 0)), (0, .ref b)]) (hS0 : kl_S E E' s σX σM H locs) (h1 : vp_in (i + 1) L) (h2 : vp_in (i + 2) L) {rX : Int64 × kw_M} {rM : Int64 × kw_M} (hX : fX9_shortcut (xs (i + 1).toNatClampNeg) (xs (i + 2).toNatClampNeg) σX = some rX) (hM : fX10_shortcut (xs (i + 1).toNatClampNeg) (xs (i + 2).toNatClampNeg) σM = some rM) (heq : rX.1 = rM.1) (kk : ∀ (H1 : Heap) (locs1 : List Loc), kl_S E E' s rX.2 rM.2 H1 locs1 → W p E.1 e room_1 s m #[Value.ref b] below meth c H1 locs1 cells slots Q (F0 m 1173 ls [])) : W p E.1 e room_1 s m #[Value.ref b] below meth c H locs cells slots Q (F0 m 852 ls []) := by
  have hX0 := C.2.2.2.2.2.2.2.2.2.1
  refine lv_aload_n C.1 C.2.1 dL_law_852 rfl (lv_at hl 2 rfl) ?_
  refine lv_aload_n C.1 C.2.1 dL_law_853 rfl (lv_at hl 3 rfl) ?_
  refine lv_iload_n C.1 C.2.1 dL_law_854 rfl (lv_at hl 0 rfl) ?_
  refine lv_iconst (v := 1) C.1 C.2.1 dL_law_855 (by decide) ?_
  refine lv_iadd C.1 C.2.1 dL_law_856 ?_
  refine va_sld C.1 C.2.1 hX0.1 hX0.2.1 hX0.2.2 hS0.2.2 h1 dL_law_857 ?_
  refine lv_aload_n C.1 C.2.1 dL_law_858 rfl (lv_at hl 3 rfl) ?_
  refine lv_iload_n C.1 C.2.1 dL_law_859 rfl (lv_at hl 0 rfl) ?_
  refine lv_iconst (v := 2) C.1 C.2.1 dL_law_860 (by decide) ?_
  refine lv_iadd C.1 C.2.1 dL_law_861 ?_
  refine va_sld C.1 C.2.1 hX0.1 hX0.2.1 hX0.2.2 hS0.2.2 h2 dL_law_862 ?_
  refine kl_callX (d := 0 + 5) C hl hS0 (Nat.le_of_ble_eq_true rfl) mVX9_shortcut [.int (xs (i + 1).toNatClampNeg), .int (xs (i + 2).toNatClampNeg)] [] (fun _ => rfl) (u := (some (Value.long rX.1))) (fun _ => rfl) (gX9_shortcut (E := E) (d := 0) (xs (i + 1).toNatClampNeg) (xs (i + 2).toNatClampNeg) σX hX) lmRL_102 rfl rfl (Nat.le_of_ble_eq_true rfl) dL_law_863 rfl (fun H1 locs1 hS1 => ?_)
  show W p E.1 e room_1 s m #[Value.ref b] below meth c H1 locs1 cells slots Q (F0 m 866 ls [.long rX.1])
  refine lv_aload_n C.1 C.2.1 dL_law_866 rfl (lv_at hl 1 rfl) ?_
  refine lv_aload_n C.1 C.2.1 dL_law_867 rfl (lv_at hl 3 rfl) ?_
  refine lv_iload_n C.1 C.2.1 dL_law_868 rfl (lv_at hl 0 rfl) ?_
  refine lv_iconst (v := 1) C.1 C.2.1 dL_law_869 (by decide) ?_
  refine lv_iadd C.1 C.2.1 dL_law_870 ?_
  refine va_sld C.1 C.2.1 hX0.1 hX0.2.1 hX0.2.2 hS1.2.2 h1 dL_law_871 ?_
  refine lv_aload_n C.1 C.2.1 dL_law_872 rfl (lv_at hl 3 rfl) ?_
  refine lv_iload_n C.1 C.2.1 dL_law_873 rfl (lv_at hl 0 rfl) ?_
  refine lv_iconst (v := 2) C.1 C.2.1 dL_law_874 (by decide) ?_
  refine lv_iadd C.1 C.2.1 dL_law_875 ?_
  refine va_sld C.1 C.2.1 hX0.1 hX0.2.1 hX0.2.2 hS1.2.2 h2 dL_law_876 ?_
  refine kl_callM (d := 0 + 4) C hl hS1 (Nat.le_of_ble_eq_true rfl) mVX10_shortcut [.int (xs (i + 1).toNatClampNeg), .int (xs (i + 2).toNatClampNeg)] [.long rX.1] (fun _ => rfl) (u := (some (Value.long rM.1))) (fun _ => rfl) (gX10_shortcut (E := E') (d := 0) (xs (i + 1).toNatClampNeg) (xs (i + 2).toNatClampNeg) σM hM) lmRL_105 rfl rfl (Nat.le_of_ble_eq_true rfl) dL_law_877 rfl (fun H2 locs2 hS2 => ?_)
  show W p E.1 e room_1 s m #[Value.ref b] below meth c H2 locs2 cells slots Q (F0 m 880 ls [.long rM.1, .long rX.1])
  refine W.lcmp C.1 C.2.1 dL_law_880 ?_
  exact lv_if_eq C.1 C.2.1 dL_law_881 rfl (fun _ => kk H2 locs2 hS2) (fun q => absurd ((lg_cmp_eq _ _).mpr heq) q)
set_option maxHeartbeats 4000000 in
set_option maxRecDepth 100000 in
theorem kl_c22 (C : kl_Cx E E' p s m meth c b L xs cells slots) (hl : lv_has ls 4 [(3, .int i), (2, .ref (E'.2.2.2 0)), (1, .ref (E.2.2.2 0)), (0, .ref b)]) (hS0 : kl_S E E' s σX σM H locs) (h1 : vp_in (i + 1) L) {rX : Int64 × kw_M} {rM : Int64 × kw_M} (hX : fX9_mean (xs (i + 1).toNatClampNeg) σX = some rX) (hM : fX10_mean (xs (i + 1).toNatClampNeg) σM = some rM) (heq : rX.1 = rM.1) (kk : ∀ (H1 : Heap) (locs1 : List Loc), kl_S E E' s rX.2 rM.2 H1 locs1 → W p E.1 e room_1 s m #[Value.ref b] below meth c H1 locs1 cells slots Q (F0 m 1173 ls [])) : W p E.1 e room_1 s m #[Value.ref b] below meth c H locs cells slots Q (F0 m 886 ls []) := by
  have hX0 := C.2.2.2.2.2.2.2.2.2.1
  refine lv_aload_n C.1 C.2.1 dL_law_886 rfl (lv_at hl 2 rfl) ?_
  refine lv_aload_n C.1 C.2.1 dL_law_887 rfl (lv_at hl 3 rfl) ?_
  refine lv_iload_n C.1 C.2.1 dL_law_888 rfl (lv_at hl 0 rfl) ?_
  refine lv_iconst (v := 1) C.1 C.2.1 dL_law_889 (by decide) ?_
  refine lv_iadd C.1 C.2.1 dL_law_890 ?_
  refine va_sld C.1 C.2.1 hX0.1 hX0.2.1 hX0.2.2 hS0.2.2 h1 dL_law_891 ?_
  refine kl_callX (d := 0 + 4) C hl hS0 (Nat.le_of_ble_eq_true rfl) mVX9_mean [.int (xs (i + 1).toNatClampNeg)] [] (fun _ => rfl) (u := (some (Value.long rX.1))) (fun _ => rfl) (gX9_mean (E := E) (d := 0) (xs (i + 1).toNatClampNeg) σX hX) lmRL_106 rfl rfl (Nat.le_of_ble_eq_true rfl) dL_law_892 rfl (fun H1 locs1 hS1 => ?_)
  show W p E.1 e room_1 s m #[Value.ref b] below meth c H1 locs1 cells slots Q (F0 m 895 ls [.long rX.1])
  refine lv_aload_n C.1 C.2.1 dL_law_895 rfl (lv_at hl 1 rfl) ?_
  refine lv_aload_n C.1 C.2.1 dL_law_896 rfl (lv_at hl 3 rfl) ?_
  refine lv_iload_n C.1 C.2.1 dL_law_897 rfl (lv_at hl 0 rfl) ?_
  refine lv_iconst (v := 1) C.1 C.2.1 dL_law_898 (by decide) ?_
  refine lv_iadd C.1 C.2.1 dL_law_899 ?_
  refine va_sld C.1 C.2.1 hX0.1 hX0.2.1 hX0.2.2 hS1.2.2 h1 dL_law_900 ?_
  refine kl_callM (d := 0 + 3) C hl hS1 (Nat.le_of_ble_eq_true rfl) mVX10_mean [.int (xs (i + 1).toNatClampNeg)] [.long rX.1] (fun _ => rfl) (u := (some (Value.long rM.1))) (fun _ => rfl) (gX10_mean (E := E') (d := 0) (xs (i + 1).toNatClampNeg) σM hM) lmRL_110 rfl rfl (Nat.le_of_ble_eq_true rfl) dL_law_901 rfl (fun H2 locs2 hS2 => ?_)
  show W p E.1 e room_1 s m #[Value.ref b] below meth c H2 locs2 cells slots Q (F0 m 904 ls [.long rM.1, .long rX.1])
  refine W.lcmp C.1 C.2.1 dL_law_904 ?_
  exact lv_if_eq C.1 C.2.1 dL_law_905 rfl (fun _ => kk H2 locs2 hS2) (fun q => absurd ((lg_cmp_eq _ _).mpr heq) q)
set_option maxHeartbeats 4000000 in
set_option maxRecDepth 100000 in
theorem kl_c23 (C : kl_Cx E E' p s m meth c b L xs cells slots) (hl : lv_has ls 4 [(3, .int i), (2, .ref (E'.2.2.2 0)), (1, .ref (E.2.2.2 0)), (0, .ref b)]) (hS0 : kl_S E E' s σX σM H locs) (h1 : vp_in (i + 1) L) (h2 : vp_in (i + 2) L) {rX : Int64 × kw_M} {rM : Int64 × kw_M} (hX : fX9_round (xs (i + 1).toNatClampNeg) (xs (i + 2).toNatClampNeg) σX = some rX) (hM : fX10_round (xs (i + 1).toNatClampNeg) (xs (i + 2).toNatClampNeg) σM = some rM) (heq : rX.1 = rM.1) (kk : ∀ (H1 : Heap) (locs1 : List Loc), kl_S E E' s rX.2 rM.2 H1 locs1 → W p E.1 e room_1 s m #[Value.ref b] below meth c H1 locs1 cells slots Q (F0 m 1173 ls [])) : W p E.1 e room_1 s m #[Value.ref b] below meth c H locs cells slots Q (F0 m 910 ls []) := by
  have hX0 := C.2.2.2.2.2.2.2.2.2.1
  refine lv_aload_n C.1 C.2.1 dL_law_910 rfl (lv_at hl 2 rfl) ?_
  refine lv_aload_n C.1 C.2.1 dL_law_911 rfl (lv_at hl 3 rfl) ?_
  refine lv_iload_n C.1 C.2.1 dL_law_912 rfl (lv_at hl 0 rfl) ?_
  refine lv_iconst (v := 1) C.1 C.2.1 dL_law_913 (by decide) ?_
  refine lv_iadd C.1 C.2.1 dL_law_914 ?_
  refine va_sld C.1 C.2.1 hX0.1 hX0.2.1 hX0.2.2 hS0.2.2 h1 dL_law_915 ?_
  refine lv_aload_n C.1 C.2.1 dL_law_916 rfl (lv_at hl 3 rfl) ?_
  refine lv_iload_n C.1 C.2.1 dL_law_917 rfl (lv_at hl 0 rfl) ?_
  refine lv_iconst (v := 2) C.1 C.2.1 dL_law_918 (by decide) ?_
  refine lv_iadd C.1 C.2.1 dL_law_919 ?_
  refine va_sld C.1 C.2.1 hX0.1 hX0.2.1 hX0.2.2 hS0.2.2 h2 dL_law_920 ?_
  refine kl_callX (d := 0 + 24) C hl hS0 (Nat.le_of_ble_eq_true rfl) mVX9_round [.int (xs (i + 1).toNatClampNeg), .int (xs (i + 2).toNatClampNeg)] [] (fun _ => rfl) (u := (some (Value.long rX.1))) (fun _ => rfl) (gX9_round (E := E) (d := 0) (xs (i + 1).toNatClampNeg) (xs (i + 2).toNatClampNeg) σX hX) lmRL_111 rfl rfl (Nat.le_of_ble_eq_true rfl) dL_law_921 rfl (fun H1 locs1 hS1 => ?_)
  show W p E.1 e room_1 s m #[Value.ref b] below meth c H1 locs1 cells slots Q (F0 m 924 ls [.long rX.1])
  refine lv_aload_n C.1 C.2.1 dL_law_924 rfl (lv_at hl 1 rfl) ?_
  refine lv_aload_n C.1 C.2.1 dL_law_925 rfl (lv_at hl 3 rfl) ?_
  refine lv_iload_n C.1 C.2.1 dL_law_926 rfl (lv_at hl 0 rfl) ?_
  refine lv_iconst (v := 1) C.1 C.2.1 dL_law_927 (by decide) ?_
  refine lv_iadd C.1 C.2.1 dL_law_928 ?_
  refine va_sld C.1 C.2.1 hX0.1 hX0.2.1 hX0.2.2 hS1.2.2 h1 dL_law_929 ?_
  refine lv_aload_n C.1 C.2.1 dL_law_930 rfl (lv_at hl 3 rfl) ?_
  refine lv_iload_n C.1 C.2.1 dL_law_931 rfl (lv_at hl 0 rfl) ?_
  refine lv_iconst (v := 2) C.1 C.2.1 dL_law_932 (by decide) ?_
  refine lv_iadd C.1 C.2.1 dL_law_933 ?_
  refine va_sld C.1 C.2.1 hX0.1 hX0.2.1 hX0.2.2 hS1.2.2 h2 dL_law_934 ?_
  refine kl_callM (d := 0 + 4) C hl hS1 (Nat.le_of_ble_eq_true rfl) mVX10_round [.int (xs (i + 1).toNatClampNeg), .int (xs (i + 2).toNatClampNeg)] [.long rX.1] (fun _ => rfl) (u := (some (Value.long rM.1))) (fun _ => rfl) (gX10_round (E := E') (d := 0) (xs (i + 1).toNatClampNeg) (xs (i + 2).toNatClampNeg) σM hM) lmRL_114 rfl rfl (Nat.le_of_ble_eq_true rfl) dL_law_935 rfl (fun H2 locs2 hS2 => ?_)
  show W p E.1 e room_1 s m #[Value.ref b] below meth c H2 locs2 cells slots Q (F0 m 938 ls [.long rM.1, .long rX.1])
  refine W.lcmp C.1 C.2.1 dL_law_938 ?_
  exact lv_if_eq C.1 C.2.1 dL_law_939 rfl (fun _ => kk H2 locs2 hS2) (fun q => absurd ((lg_cmp_eq _ _).mpr heq) q)
set_option maxHeartbeats 4000000 in
set_option maxRecDepth 100000 in
theorem kl_c24 (C : kl_Cx E E' p s m meth c b L xs cells slots) (hl : lv_has ls 4 [(3, .int i), (2, .ref (E'.2.2.2 0)), (1, .ref (E.2.2.2 0)), (0, .ref b)]) (hS0 : kl_S E E' s σX σM H locs) (h1 : vp_in (i + 1) L) (h2 : vp_in (i + 2) L) {rX : Int32 × kw_M} {rM : Int32 × kw_M} (hX : fX9_watch (xs (i + 1).toNatClampNeg) (xs (i + 2).toNatClampNeg) σX = some rX) (hM : fX10_watch (xs (i + 1).toNatClampNeg) (xs (i + 2).toNatClampNeg) σM = some rM) (heq : rX.1 = rM.1) (kk : ∀ (H1 : Heap) (locs1 : List Loc), kl_S E E' s rX.2 rM.2 H1 locs1 → W p E.1 e room_1 s m #[Value.ref b] below meth c H1 locs1 cells slots Q (F0 m 1173 ls [])) : W p E.1 e room_1 s m #[Value.ref b] below meth c H locs cells slots Q (F0 m 944 ls []) := by
  have hX0 := C.2.2.2.2.2.2.2.2.2.1
  refine lv_aload_n C.1 C.2.1 dL_law_944 rfl (lv_at hl 2 rfl) ?_
  refine lv_aload_n C.1 C.2.1 dL_law_945 rfl (lv_at hl 3 rfl) ?_
  refine lv_iload_n C.1 C.2.1 dL_law_946 rfl (lv_at hl 0 rfl) ?_
  refine lv_iconst (v := 1) C.1 C.2.1 dL_law_947 (by decide) ?_
  refine lv_iadd C.1 C.2.1 dL_law_948 ?_
  refine va_sld C.1 C.2.1 hX0.1 hX0.2.1 hX0.2.2 hS0.2.2 h1 dL_law_949 ?_
  refine lv_aload_n C.1 C.2.1 dL_law_950 rfl (lv_at hl 3 rfl) ?_
  refine lv_iload_n C.1 C.2.1 dL_law_951 rfl (lv_at hl 0 rfl) ?_
  refine lv_iconst (v := 2) C.1 C.2.1 dL_law_952 (by decide) ?_
  refine lv_iadd C.1 C.2.1 dL_law_953 ?_
  refine va_sld C.1 C.2.1 hX0.1 hX0.2.1 hX0.2.2 hS0.2.2 h2 dL_law_954 ?_
  refine kl_callX (d := 0 + 2) C hl hS0 (Nat.le_of_ble_eq_true rfl) mVX9_watch [.int (xs (i + 1).toNatClampNeg), .int (xs (i + 2).toNatClampNeg)] [] (fun _ => rfl) (u := (some (Value.int rX.1))) (fun _ => rfl) (gX9_watch (E := E) (d := 0) (xs (i + 1).toNatClampNeg) (xs (i + 2).toNatClampNeg) σX hX) lmRL_115 rfl rfl (Nat.le_of_ble_eq_true rfl) dL_law_955 rfl (fun H1 locs1 hS1 => ?_)
  show W p E.1 e room_1 s m #[Value.ref b] below meth c H1 locs1 cells slots Q (F0 m 958 ls [.int rX.1])
  refine lv_aload_n C.1 C.2.1 dL_law_958 rfl (lv_at hl 1 rfl) ?_
  refine lv_aload_n C.1 C.2.1 dL_law_959 rfl (lv_at hl 3 rfl) ?_
  refine lv_iload_n C.1 C.2.1 dL_law_960 rfl (lv_at hl 0 rfl) ?_
  refine lv_iconst (v := 1) C.1 C.2.1 dL_law_961 (by decide) ?_
  refine lv_iadd C.1 C.2.1 dL_law_962 ?_
  refine va_sld C.1 C.2.1 hX0.1 hX0.2.1 hX0.2.2 hS1.2.2 h1 dL_law_963 ?_
  refine lv_aload_n C.1 C.2.1 dL_law_964 rfl (lv_at hl 3 rfl) ?_
  refine lv_iload_n C.1 C.2.1 dL_law_965 rfl (lv_at hl 0 rfl) ?_
  refine lv_iconst (v := 2) C.1 C.2.1 dL_law_966 (by decide) ?_
  refine lv_iadd C.1 C.2.1 dL_law_967 ?_
  refine va_sld C.1 C.2.1 hX0.1 hX0.2.1 hX0.2.2 hS1.2.2 h2 dL_law_968 ?_
  refine kl_callM (d := 0 + 4) C hl hS1 (Nat.le_of_ble_eq_true rfl) mVX10_watch [.int (xs (i + 1).toNatClampNeg), .int (xs (i + 2).toNatClampNeg)] [.int rX.1] (fun _ => rfl) (u := (some (Value.int rM.1))) (fun _ => rfl) (gX10_watch (E := E') (d := 0) (xs (i + 1).toNatClampNeg) (xs (i + 2).toNatClampNeg) σM hM) lmRL_118 rfl rfl (Nat.le_of_ble_eq_true rfl) dL_law_969 rfl (fun H2 locs2 hS2 => ?_)
  show W p E.1 e room_1 s m #[Value.ref b] below meth c H2 locs2 cells slots Q (F0 m 972 ls [.int rM.1, .int rX.1])
  exact lv_icmp_eq C.1 C.2.1 dL_law_972 rfl (fun _ => kk H2 locs2 hS2) (fun q => absurd heq q)
set_option maxHeartbeats 4000000 in
set_option maxRecDepth 100000 in
theorem kl_c25 (C : kl_Cx E E' p s m meth c b L xs cells slots) (hl : lv_has ls 4 [(3, .int i), (2, .ref (E'.2.2.2 0)), (1, .ref (E.2.2.2 0)), (0, .ref b)]) (hS0 : kl_S E E' s σX σM H locs) (h1 : vp_in (i + 1) L) {rX : Int32 × kw_M} {rM : Int32 × kw_M} (hX : fX9_forget (xs (i + 1).toNatClampNeg) σX = some rX) (hM : fX10_forget (xs (i + 1).toNatClampNeg) σM = some rM) (heq : rX.1 = rM.1) (kk : ∀ (H1 : Heap) (locs1 : List Loc), kl_S E E' s rX.2 rM.2 H1 locs1 → W p E.1 e room_1 s m #[Value.ref b] below meth c H1 locs1 cells slots Q (F0 m 1173 ls [])) : W p E.1 e room_1 s m #[Value.ref b] below meth c H locs cells slots Q (F0 m 977 ls []) := by
  have hX0 := C.2.2.2.2.2.2.2.2.2.1
  refine lv_aload_n C.1 C.2.1 dL_law_977 rfl (lv_at hl 2 rfl) ?_
  refine lv_aload_n C.1 C.2.1 dL_law_978 rfl (lv_at hl 3 rfl) ?_
  refine lv_iload_n C.1 C.2.1 dL_law_979 rfl (lv_at hl 0 rfl) ?_
  refine lv_iconst (v := 1) C.1 C.2.1 dL_law_980 (by decide) ?_
  refine lv_iadd C.1 C.2.1 dL_law_981 ?_
  refine va_sld C.1 C.2.1 hX0.1 hX0.2.1 hX0.2.2 hS0.2.2 h1 dL_law_982 ?_
  refine kl_callX (d := 0 + 2) C hl hS0 (Nat.le_of_ble_eq_true rfl) mVX9_forget [.int (xs (i + 1).toNatClampNeg)] [] (fun _ => rfl) (u := (some (Value.int rX.1))) (fun _ => rfl) (gX9_forget (E := E) (d := 0) (xs (i + 1).toNatClampNeg) σX hX) lmRL_119 rfl rfl (Nat.le_of_ble_eq_true rfl) dL_law_983 rfl (fun H1 locs1 hS1 => ?_)
  show W p E.1 e room_1 s m #[Value.ref b] below meth c H1 locs1 cells slots Q (F0 m 986 ls [.int rX.1])
  refine lv_aload_n C.1 C.2.1 dL_law_986 rfl (lv_at hl 1 rfl) ?_
  refine lv_aload_n C.1 C.2.1 dL_law_987 rfl (lv_at hl 3 rfl) ?_
  refine lv_iload_n C.1 C.2.1 dL_law_988 rfl (lv_at hl 0 rfl) ?_
  refine lv_iconst (v := 1) C.1 C.2.1 dL_law_989 (by decide) ?_
  refine lv_iadd C.1 C.2.1 dL_law_990 ?_
  refine va_sld C.1 C.2.1 hX0.1 hX0.2.1 hX0.2.2 hS1.2.2 h1 dL_law_991 ?_
  refine kl_callM (d := 0 + 2) C hl hS1 (Nat.le_of_ble_eq_true rfl) mVX10_forget [.int (xs (i + 1).toNatClampNeg)] [.int rX.1] (fun _ => rfl) (u := (some (Value.int rM.1))) (fun _ => rfl) (gX10_forget (E := E') (d := 0) (xs (i + 1).toNatClampNeg) σM hM) lmRL_123 rfl rfl (Nat.le_of_ble_eq_true rfl) dL_law_992 rfl (fun H2 locs2 hS2 => ?_)
  show W p E.1 e room_1 s m #[Value.ref b] below meth c H2 locs2 cells slots Q (F0 m 995 ls [.int rM.1, .int rX.1])
  exact lv_icmp_eq C.1 C.2.1 dL_law_995 rfl (fun _ => kk H2 locs2 hS2) (fun q => absurd heq q)
set_option maxHeartbeats 4000000 in
set_option maxRecDepth 100000 in
theorem kl_c26 (C : kl_Cx E E' p s m meth c b L xs cells slots) (hl : lv_has ls 4 [(3, .int i), (2, .ref (E'.2.2.2 0)), (1, .ref (E.2.2.2 0)), (0, .ref b)]) (hS0 : kl_S E E' s σX σM H locs) (h1 : vp_in (i + 1) L) (h2 : vp_in (i + 2) L) {rX : Int64} {rM : Int64} (hX : fX9_event (xs (i + 1).toNatClampNeg) (xs (i + 2).toNatClampNeg) σX = some rX) (hM : fX10_event (xs (i + 1).toNatClampNeg) (xs (i + 2).toNatClampNeg) σM = some rM) (heq : rX = rM) (kk : ∀ (H1 : Heap) (locs1 : List Loc), kl_S E E' s σX σM H1 locs1 → W p E.1 e room_1 s m #[Value.ref b] below meth c H1 locs1 cells slots Q (F0 m 1173 ls [])) : W p E.1 e room_1 s m #[Value.ref b] below meth c H locs cells slots Q (F0 m 1000 ls []) := by
  have hX0 := C.2.2.2.2.2.2.2.2.2.1
  refine lv_aload_n C.1 C.2.1 dL_law_1000 rfl (lv_at hl 2 rfl) ?_
  refine lv_aload_n C.1 C.2.1 dL_law_1001 rfl (lv_at hl 3 rfl) ?_
  refine lv_iload_n C.1 C.2.1 dL_law_1002 rfl (lv_at hl 0 rfl) ?_
  refine lv_iconst (v := 1) C.1 C.2.1 dL_law_1003 (by decide) ?_
  refine lv_iadd C.1 C.2.1 dL_law_1004 ?_
  refine va_sld C.1 C.2.1 hX0.1 hX0.2.1 hX0.2.2 hS0.2.2 h1 dL_law_1005 ?_
  refine lv_aload_n C.1 C.2.1 dL_law_1006 rfl (lv_at hl 3 rfl) ?_
  refine lv_iload_n C.1 C.2.1 dL_law_1007 rfl (lv_at hl 0 rfl) ?_
  refine lv_iconst (v := 2) C.1 C.2.1 dL_law_1008 (by decide) ?_
  refine lv_iadd C.1 C.2.1 dL_law_1009 ?_
  refine va_sld C.1 C.2.1 hX0.1 hX0.2.1 hX0.2.2 hS0.2.2 h2 dL_law_1010 ?_
  refine kl_callX (d := 0 + 0) C hl hS0 (Nat.le_of_ble_eq_true rfl) mVX9_event [.int (xs (i + 1).toNatClampNeg), .int (xs (i + 2).toNatClampNeg)] [] (fun _ => rfl) (u := (some (Value.long rX))) (fun _ => rfl) (gX9_event (E := E) (d := 0) (xs (i + 1).toNatClampNeg) (xs (i + 2).toNatClampNeg) σX hX) lmRL_124 rfl rfl (Nat.le_of_ble_eq_true rfl) dL_law_1011 rfl (fun H1 locs1 hS1 => ?_)
  show W p E.1 e room_1 s m #[Value.ref b] below meth c H1 locs1 cells slots Q (F0 m 1014 ls [.long rX])
  refine lv_aload_n C.1 C.2.1 dL_law_1014 rfl (lv_at hl 1 rfl) ?_
  refine lv_aload_n C.1 C.2.1 dL_law_1015 rfl (lv_at hl 3 rfl) ?_
  refine lv_iload_n C.1 C.2.1 dL_law_1016 rfl (lv_at hl 0 rfl) ?_
  refine lv_iconst (v := 1) C.1 C.2.1 dL_law_1017 (by decide) ?_
  refine lv_iadd C.1 C.2.1 dL_law_1018 ?_
  refine va_sld C.1 C.2.1 hX0.1 hX0.2.1 hX0.2.2 hS1.2.2 h1 dL_law_1019 ?_
  refine lv_aload_n C.1 C.2.1 dL_law_1020 rfl (lv_at hl 3 rfl) ?_
  refine lv_iload_n C.1 C.2.1 dL_law_1021 rfl (lv_at hl 0 rfl) ?_
  refine lv_iconst (v := 2) C.1 C.2.1 dL_law_1022 (by decide) ?_
  refine lv_iadd C.1 C.2.1 dL_law_1023 ?_
  refine va_sld C.1 C.2.1 hX0.1 hX0.2.1 hX0.2.2 hS1.2.2 h2 dL_law_1024 ?_
  refine kl_callM (d := 0 + 1) C hl hS1 (Nat.le_of_ble_eq_true rfl) mVX10_event [.int (xs (i + 1).toNatClampNeg), .int (xs (i + 2).toNatClampNeg)] [.long rX] (fun _ => rfl) (u := (some (Value.long rM))) (fun _ => rfl) (gX10_event (E := E') (d := 0) (xs (i + 1).toNatClampNeg) (xs (i + 2).toNatClampNeg) σM hM) lmRL_127 rfl rfl (Nat.le_of_ble_eq_true rfl) dL_law_1025 rfl (fun H2 locs2 hS2 => ?_)
  show W p E.1 e room_1 s m #[Value.ref b] below meth c H2 locs2 cells slots Q (F0 m 1028 ls [.long rM, .long rX])
  refine W.lcmp C.1 C.2.1 dL_law_1028 ?_
  exact lv_if_eq C.1 C.2.1 dL_law_1029 rfl (fun _ => kk H2 locs2 hS2) (fun q => absurd ((lg_cmp_eq _ _).mpr heq) q)
set_option maxHeartbeats 4000000 in
set_option maxRecDepth 100000 in
theorem kl_c27 (C : kl_Cx E E' p s m meth c b L xs cells slots) (hl : lv_has ls 4 [(3, .int i), (2, .ref (E'.2.2.2 0)), (1, .ref (E.2.2.2 0)), (0, .ref b)]) (hS0 : kl_S E E' s σX σM H locs) (h1 : vp_in (i + 1) L) (h2 : vp_in (i + 2) L) {rX : Int32 × kw_M} {rM : Int32 × kw_M} (hX : fX9_ifLength (xs (i + 1).toNatClampNeg) (xs (i + 2).toNatClampNeg) σX = some rX) (hM : fX10_ifLength (xs (i + 1).toNatClampNeg) (xs (i + 2).toNatClampNeg) σM = some rM) (heq : rX.1 = rM.1) (kk : ∀ (H1 : Heap) (locs1 : List Loc), kl_S E E' s rX.2 rM.2 H1 locs1 → W p E.1 e room_1 s m #[Value.ref b] below meth c H1 locs1 cells slots Q (F0 m 1173 ls [])) : W p E.1 e room_1 s m #[Value.ref b] below meth c H locs cells slots Q (F0 m 1034 ls []) := by
  have hX0 := C.2.2.2.2.2.2.2.2.2.1
  refine lv_aload_n C.1 C.2.1 dL_law_1034 rfl (lv_at hl 2 rfl) ?_
  refine lv_aload_n C.1 C.2.1 dL_law_1035 rfl (lv_at hl 3 rfl) ?_
  refine lv_iload_n C.1 C.2.1 dL_law_1036 rfl (lv_at hl 0 rfl) ?_
  refine lv_iconst (v := 1) C.1 C.2.1 dL_law_1037 (by decide) ?_
  refine lv_iadd C.1 C.2.1 dL_law_1038 ?_
  refine va_sld C.1 C.2.1 hX0.1 hX0.2.1 hX0.2.2 hS0.2.2 h1 dL_law_1039 ?_
  refine lv_aload_n C.1 C.2.1 dL_law_1040 rfl (lv_at hl 3 rfl) ?_
  refine lv_iload_n C.1 C.2.1 dL_law_1041 rfl (lv_at hl 0 rfl) ?_
  refine lv_iconst (v := 2) C.1 C.2.1 dL_law_1042 (by decide) ?_
  refine lv_iadd C.1 C.2.1 dL_law_1043 ?_
  refine va_sld C.1 C.2.1 hX0.1 hX0.2.1 hX0.2.2 hS0.2.2 h2 dL_law_1044 ?_
  refine kl_callX (d := 0 + 4) C hl hS0 (Nat.le_of_ble_eq_true rfl) mVX9_ifLength [.int (xs (i + 1).toNatClampNeg), .int (xs (i + 2).toNatClampNeg)] [] (fun _ => rfl) (u := (some (Value.int rX.1))) (fun _ => rfl) (gX9_ifLength (E := E) (d := 0) (xs (i + 1).toNatClampNeg) (xs (i + 2).toNatClampNeg) σX hX) lmRL_128 rfl rfl (Nat.le_of_ble_eq_true rfl) dL_law_1045 rfl (fun H1 locs1 hS1 => ?_)
  show W p E.1 e room_1 s m #[Value.ref b] below meth c H1 locs1 cells slots Q (F0 m 1048 ls [.int rX.1])
  refine lv_aload_n C.1 C.2.1 dL_law_1048 rfl (lv_at hl 1 rfl) ?_
  refine lv_aload_n C.1 C.2.1 dL_law_1049 rfl (lv_at hl 3 rfl) ?_
  refine lv_iload_n C.1 C.2.1 dL_law_1050 rfl (lv_at hl 0 rfl) ?_
  refine lv_iconst (v := 1) C.1 C.2.1 dL_law_1051 (by decide) ?_
  refine lv_iadd C.1 C.2.1 dL_law_1052 ?_
  refine va_sld C.1 C.2.1 hX0.1 hX0.2.1 hX0.2.2 hS1.2.2 h1 dL_law_1053 ?_
  refine lv_aload_n C.1 C.2.1 dL_law_1054 rfl (lv_at hl 3 rfl) ?_
  refine lv_iload_n C.1 C.2.1 dL_law_1055 rfl (lv_at hl 0 rfl) ?_
  refine lv_iconst (v := 2) C.1 C.2.1 dL_law_1056 (by decide) ?_
  refine lv_iadd C.1 C.2.1 dL_law_1057 ?_
  refine va_sld C.1 C.2.1 hX0.1 hX0.2.1 hX0.2.2 hS1.2.2 h2 dL_law_1058 ?_
  refine kl_callM (d := 0 + 6) C hl hS1 (Nat.le_of_ble_eq_true rfl) mVX10_ifLength [.int (xs (i + 1).toNatClampNeg), .int (xs (i + 2).toNatClampNeg)] [.int rX.1] (fun _ => rfl) (u := (some (Value.int rM.1))) (fun _ => rfl) (gX10_ifLength (E := E') (d := 0) (xs (i + 1).toNatClampNeg) (xs (i + 2).toNatClampNeg) σM hM) lmRL_131 rfl rfl (Nat.le_of_ble_eq_true rfl) dL_law_1059 rfl (fun H2 locs2 hS2 => ?_)
  show W p E.1 e room_1 s m #[Value.ref b] below meth c H2 locs2 cells slots Q (F0 m 1062 ls [.int rM.1, .int rX.1])
  exact lv_icmp_eq C.1 C.2.1 dL_law_1062 rfl (fun _ => kk H2 locs2 hS2) (fun q => absurd heq q)
set_option maxHeartbeats 4000000 in
set_option maxRecDepth 100000 in
theorem kl_c28 (C : kl_Cx E E' p s m meth c b L xs cells slots) (hl : lv_has ls 4 [(3, .int i), (2, .ref (E'.2.2.2 0)), (1, .ref (E.2.2.2 0)), (0, .ref b)]) (hS0 : kl_S E E' s σX σM H locs) (h1 : vp_in (i + 1) L) (h2 : vp_in (i + 2) L) {rX : Int64 × kw_M} {rM : Int64 × kw_M} (hX : fX9_drawn (xs (i + 1).toNatClampNeg) (xs (i + 2).toNatClampNeg) σX = some rX) (hM : fX10_drawn (xs (i + 1).toNatClampNeg) (xs (i + 2).toNatClampNeg) σM = some rM) (heq : rX.1 = rM.1) (kk : ∀ (H1 : Heap) (locs1 : List Loc), kl_S E E' s rX.2 rM.2 H1 locs1 → W p E.1 e room_1 s m #[Value.ref b] below meth c H1 locs1 cells slots Q (F0 m 1173 ls [])) : W p E.1 e room_1 s m #[Value.ref b] below meth c H locs cells slots Q (F0 m 1067 ls []) := by
  have hX0 := C.2.2.2.2.2.2.2.2.2.1
  refine lv_aload_n C.1 C.2.1 dL_law_1067 rfl (lv_at hl 2 rfl) ?_
  refine lv_aload_n C.1 C.2.1 dL_law_1068 rfl (lv_at hl 3 rfl) ?_
  refine lv_iload_n C.1 C.2.1 dL_law_1069 rfl (lv_at hl 0 rfl) ?_
  refine lv_iconst (v := 1) C.1 C.2.1 dL_law_1070 (by decide) ?_
  refine lv_iadd C.1 C.2.1 dL_law_1071 ?_
  refine va_sld C.1 C.2.1 hX0.1 hX0.2.1 hX0.2.2 hS0.2.2 h1 dL_law_1072 ?_
  refine lv_aload_n C.1 C.2.1 dL_law_1073 rfl (lv_at hl 3 rfl) ?_
  refine lv_iload_n C.1 C.2.1 dL_law_1074 rfl (lv_at hl 0 rfl) ?_
  refine lv_iconst (v := 2) C.1 C.2.1 dL_law_1075 (by decide) ?_
  refine lv_iadd C.1 C.2.1 dL_law_1076 ?_
  refine va_sld C.1 C.2.1 hX0.1 hX0.2.1 hX0.2.2 hS0.2.2 h2 dL_law_1077 ?_
  refine kl_callX (d := 0 + 5) C hl hS0 (Nat.le_of_ble_eq_true rfl) mVX9_drawn [.int (xs (i + 1).toNatClampNeg), .int (xs (i + 2).toNatClampNeg)] [] (fun _ => rfl) (u := (some (Value.long rX.1))) (fun _ => rfl) (gX9_drawn (E := E) (d := 0) (xs (i + 1).toNatClampNeg) (xs (i + 2).toNatClampNeg) σX hX) lmRL_132 rfl rfl (Nat.le_of_ble_eq_true rfl) dL_law_1078 rfl (fun H1 locs1 hS1 => ?_)
  show W p E.1 e room_1 s m #[Value.ref b] below meth c H1 locs1 cells slots Q (F0 m 1081 ls [.long rX.1])
  refine lv_aload_n C.1 C.2.1 dL_law_1081 rfl (lv_at hl 1 rfl) ?_
  refine lv_aload_n C.1 C.2.1 dL_law_1082 rfl (lv_at hl 3 rfl) ?_
  refine lv_iload_n C.1 C.2.1 dL_law_1083 rfl (lv_at hl 0 rfl) ?_
  refine lv_iconst (v := 1) C.1 C.2.1 dL_law_1084 (by decide) ?_
  refine lv_iadd C.1 C.2.1 dL_law_1085 ?_
  refine va_sld C.1 C.2.1 hX0.1 hX0.2.1 hX0.2.2 hS1.2.2 h1 dL_law_1086 ?_
  refine lv_aload_n C.1 C.2.1 dL_law_1087 rfl (lv_at hl 3 rfl) ?_
  refine lv_iload_n C.1 C.2.1 dL_law_1088 rfl (lv_at hl 0 rfl) ?_
  refine lv_iconst (v := 2) C.1 C.2.1 dL_law_1089 (by decide) ?_
  refine lv_iadd C.1 C.2.1 dL_law_1090 ?_
  refine va_sld C.1 C.2.1 hX0.1 hX0.2.1 hX0.2.2 hS1.2.2 h2 dL_law_1091 ?_
  refine kl_callM (d := 0 + 7) C hl hS1 (Nat.le_of_ble_eq_true rfl) mVX10_drawn [.int (xs (i + 1).toNatClampNeg), .int (xs (i + 2).toNatClampNeg)] [.long rX.1] (fun _ => rfl) (u := (some (Value.long rM.1))) (fun _ => rfl) (gX10_drawn (E := E') (d := 0) (xs (i + 1).toNatClampNeg) (xs (i + 2).toNatClampNeg) σM hM) lmRL_135 rfl rfl (Nat.le_of_ble_eq_true rfl) dL_law_1092 rfl (fun H2 locs2 hS2 => ?_)
  show W p E.1 e room_1 s m #[Value.ref b] below meth c H2 locs2 cells slots Q (F0 m 1095 ls [.long rM.1, .long rX.1])
  refine W.lcmp C.1 C.2.1 dL_law_1095 ?_
  exact lv_if_eq C.1 C.2.1 dL_law_1096 rfl (fun _ => kk H2 locs2 hS2) (fun q => absurd ((lg_cmp_eq _ _).mpr heq) q)
set_option maxHeartbeats 4000000 in
set_option maxRecDepth 100000 in
theorem kl_c29 (C : kl_Cx E E' p s m meth c b L xs cells slots) (hl : lv_has ls 4 [(3, .int i), (2, .ref (E'.2.2.2 0)), (1, .ref (E.2.2.2 0)), (0, .ref b)]) (hS0 : kl_S E E' s σX σM H locs) (h1 : vp_in (i + 1) L) {rX : Int32 × kw_M} {rM : Int32 × kw_M} (hX : fX9_seed (xs (i + 1).toNatClampNeg) σX = some rX) (hM : fX10_seed (xs (i + 1).toNatClampNeg) σM = some rM) (heq : rX.1 = rM.1) (kk : ∀ (H1 : Heap) (locs1 : List Loc), kl_S E E' s rX.2 rM.2 H1 locs1 → W p E.1 e room_1 s m #[Value.ref b] below meth c H1 locs1 cells slots Q (F0 m 1173 ls [])) : W p E.1 e room_1 s m #[Value.ref b] below meth c H locs cells slots Q (F0 m 1101 ls []) := by
  have hX0 := C.2.2.2.2.2.2.2.2.2.1
  refine lv_aload_n C.1 C.2.1 dL_law_1101 rfl (lv_at hl 2 rfl) ?_
  refine lv_aload_n C.1 C.2.1 dL_law_1102 rfl (lv_at hl 3 rfl) ?_
  refine lv_iload_n C.1 C.2.1 dL_law_1103 rfl (lv_at hl 0 rfl) ?_
  refine lv_iconst (v := 1) C.1 C.2.1 dL_law_1104 (by decide) ?_
  refine lv_iadd C.1 C.2.1 dL_law_1105 ?_
  refine va_sld C.1 C.2.1 hX0.1 hX0.2.1 hX0.2.2 hS0.2.2 h1 dL_law_1106 ?_
  refine kl_callX (d := 0 + 0) C hl hS0 (Nat.le_of_ble_eq_true rfl) mVX9_seed [.int (xs (i + 1).toNatClampNeg)] [] (fun _ => rfl) (u := (some (Value.int rX.1))) (fun _ => rfl) (gX9_seed (E := E) (d := 0) (xs (i + 1).toNatClampNeg) σX hX) lmRL_136 rfl rfl (Nat.le_of_ble_eq_true rfl) dL_law_1107 rfl (fun H1 locs1 hS1 => ?_)
  show W p E.1 e room_1 s m #[Value.ref b] below meth c H1 locs1 cells slots Q (F0 m 1110 ls [.int rX.1])
  refine lv_aload_n C.1 C.2.1 dL_law_1110 rfl (lv_at hl 1 rfl) ?_
  refine lv_aload_n C.1 C.2.1 dL_law_1111 rfl (lv_at hl 3 rfl) ?_
  refine lv_iload_n C.1 C.2.1 dL_law_1112 rfl (lv_at hl 0 rfl) ?_
  refine lv_iconst (v := 1) C.1 C.2.1 dL_law_1113 (by decide) ?_
  refine lv_iadd C.1 C.2.1 dL_law_1114 ?_
  refine va_sld C.1 C.2.1 hX0.1 hX0.2.1 hX0.2.2 hS1.2.2 h1 dL_law_1115 ?_
  refine kl_callM (d := 0 + 1) C hl hS1 (Nat.le_of_ble_eq_true rfl) mVX10_seed [.int (xs (i + 1).toNatClampNeg)] [.int rX.1] (fun _ => rfl) (u := (some (Value.int rM.1))) (fun _ => rfl) (gX10_seed (E := E') (d := 0) (xs (i + 1).toNatClampNeg) σM hM) lmRL_139 rfl rfl (Nat.le_of_ble_eq_true rfl) dL_law_1116 rfl (fun H2 locs2 hS2 => ?_)
  show W p E.1 e room_1 s m #[Value.ref b] below meth c H2 locs2 cells slots Q (F0 m 1119 ls [.int rM.1, .int rX.1])
  exact lv_icmp_eq C.1 C.2.1 dL_law_1119 rfl (fun _ => kk H2 locs2 hS2) (fun q => absurd heq q)
set_option maxHeartbeats 4000000 in
set_option maxRecDepth 100000 in
theorem kl_c30 (C : kl_Cx E E' p s m meth c b L xs cells slots) (hl : lv_has ls 4 [(3, .int i), (2, .ref (E'.2.2.2 0)), (1, .ref (E.2.2.2 0)), (0, .ref b)]) (hS0 : kl_S E E' s σX σM H locs) {rX : Int32 × kw_M} {rM : Int32 × kw_M} (hX : fX9_keep σX = some rX) (hM : fX10_keep σM = some rM) (heq : rX.1 = rM.1) (kk : ∀ (H1 : Heap) (locs1 : List Loc), kl_S E E' s rX.2 rM.2 H1 locs1 → W p E.1 e room_1 s m #[Value.ref b] below meth c H1 locs1 cells slots Q (F0 m 1173 ls [])) : W p E.1 e room_1 s m #[Value.ref b] below meth c H locs cells slots Q (F0 m 1124 ls []) := by
  have hX0 := C.2.2.2.2.2.2.2.2.2.1
  refine lv_aload_n C.1 C.2.1 dL_law_1124 rfl (lv_at hl 2 rfl) ?_
  refine kl_callX (d := 0 + 3) C hl hS0 (Nat.le_of_ble_eq_true rfl) mVX9_keep [] [] (fun _ => rfl) (u := (some (Value.int rX.1))) (fun _ => rfl) (gX9_keep (E := E) (d := 0) σX hX) lmRL_140 rfl rfl (Nat.le_of_ble_eq_true rfl) dL_law_1125 rfl (fun H1 locs1 hS1 => ?_)
  show W p E.1 e room_1 s m #[Value.ref b] below meth c H1 locs1 cells slots Q (F0 m 1128 ls [.int rX.1])
  refine lv_aload_n C.1 C.2.1 dL_law_1128 rfl (lv_at hl 1 rfl) ?_
  refine kl_callM (d := 0 + 1) C hl hS1 (Nat.le_of_ble_eq_true rfl) mVX10_keep [] [.int rX.1] (fun _ => rfl) (u := (some (Value.int rM.1))) (fun _ => rfl) (gX10_keep (E := E') (d := 0) σM hM) lmRL_144 rfl rfl (Nat.le_of_ble_eq_true rfl) dL_law_1129 rfl (fun H2 locs2 hS2 => ?_)
  show W p E.1 e room_1 s m #[Value.ref b] below meth c H2 locs2 cells slots Q (F0 m 1132 ls [.int rM.1, .int rX.1])
  exact lv_icmp_eq C.1 C.2.1 dL_law_1132 rfl (fun _ => kk H2 locs2 hS2) (fun q => absurd heq q)
set_option maxHeartbeats 4000000 in
set_option maxRecDepth 100000 in
theorem kl_c31 (C : kl_Cx E E' p s m meth c b L xs cells slots) (hl : lv_has ls 4 [(3, .int i), (2, .ref (E'.2.2.2 0)), (1, .ref (E.2.2.2 0)), (0, .ref b)]) (hS0 : kl_S E E' s σX σM H locs) {rX : Int32 × kw_M} {rM : Int32 × kw_M} (hX : fX9_undo σX = some rX) (hM : fX10_undo σM = some rM) (heq : rX.1 = rM.1) (kk : ∀ (H1 : Heap) (locs1 : List Loc), kl_S E E' s rX.2 rM.2 H1 locs1 → W p E.1 e room_1 s m #[Value.ref b] below meth c H1 locs1 cells slots Q (F0 m 1173 ls [])) : W p E.1 e room_1 s m #[Value.ref b] below meth c H locs cells slots Q (F0 m 1137 ls []) := by
  have hX0 := C.2.2.2.2.2.2.2.2.2.1
  refine lv_aload_n C.1 C.2.1 dL_law_1137 rfl (lv_at hl 2 rfl) ?_
  refine kl_callX (d := 0 + 3) C hl hS0 (Nat.le_of_ble_eq_true rfl) mVX9_undo [] [] (fun _ => rfl) (u := (some (Value.int rX.1))) (fun _ => rfl) (gX9_undo (E := E) (d := 0) σX hX) lmRL_145 rfl rfl (Nat.le_of_ble_eq_true rfl) dL_law_1138 rfl (fun H1 locs1 hS1 => ?_)
  show W p E.1 e room_1 s m #[Value.ref b] below meth c H1 locs1 cells slots Q (F0 m 1141 ls [.int rX.1])
  refine lv_aload_n C.1 C.2.1 dL_law_1141 rfl (lv_at hl 1 rfl) ?_
  refine kl_callM (d := 0 + 1) C hl hS1 (Nat.le_of_ble_eq_true rfl) mVX10_undo [] [.int rX.1] (fun _ => rfl) (u := (some (Value.int rM.1))) (fun _ => rfl) (gX10_undo (E := E') (d := 0) σM hM) lmRL_149 rfl rfl (Nat.le_of_ble_eq_true rfl) dL_law_1142 rfl (fun H2 locs2 hS2 => ?_)
  show W p E.1 e room_1 s m #[Value.ref b] below meth c H2 locs2 cells slots Q (F0 m 1145 ls [.int rM.1, .int rX.1])
  exact lv_icmp_eq C.1 C.2.1 dL_law_1145 rfl (fun _ => kk H2 locs2 hS2) (fun q => absurd heq q)
set_option maxHeartbeats 4000000 in
set_option maxRecDepth 100000 in
theorem kl_c32 (C : kl_Cx E E' p s m meth c b L xs cells slots) (hl : lv_has ls 4 [(3, .int i), (2, .ref (E'.2.2.2 0)), (1, .ref (E.2.2.2 0)), (0, .ref b)]) (hS0 : kl_S E E' s σX σM H locs) (h1 : vp_in (i + 1) L) {rX : Int32 × kw_M} {rM : Int32 × kw_M} (hX : fX9_check (xs (i + 1).toNatClampNeg) σX = some rX) (hM : fX10_check (xs (i + 1).toNatClampNeg) σM = some rM) (heq : rX.1 = rM.1) (kk : ∀ (H1 : Heap) (locs1 : List Loc), kl_S E E' s rX.2 rM.2 H1 locs1 → W p E.1 e room_1 s m #[Value.ref b] below meth c H1 locs1 cells slots Q (F0 m 1173 ls [])) : W p E.1 e room_1 s m #[Value.ref b] below meth c H locs cells slots Q (F0 m 1150 ls []) := by
  have hX0 := C.2.2.2.2.2.2.2.2.2.1
  refine lv_aload_n C.1 C.2.1 dL_law_1150 rfl (lv_at hl 2 rfl) ?_
  refine lv_aload_n C.1 C.2.1 dL_law_1151 rfl (lv_at hl 3 rfl) ?_
  refine lv_iload_n C.1 C.2.1 dL_law_1152 rfl (lv_at hl 0 rfl) ?_
  refine lv_iconst (v := 1) C.1 C.2.1 dL_law_1153 (by decide) ?_
  refine lv_iadd C.1 C.2.1 dL_law_1154 ?_
  refine va_sld C.1 C.2.1 hX0.1 hX0.2.1 hX0.2.2 hS0.2.2 h1 dL_law_1155 ?_
  refine kl_callX (d := 0 + 2) C hl hS0 (Nat.le_of_ble_eq_true rfl) mVX9_check [.int (xs (i + 1).toNatClampNeg)] [] (fun _ => rfl) (u := (some (Value.int rX.1))) (fun _ => rfl) (gX9_check (E := E) (d := 0) (xs (i + 1).toNatClampNeg) σX hX) lmRL_150 rfl rfl (Nat.le_of_ble_eq_true rfl) dL_law_1156 rfl (fun H1 locs1 hS1 => ?_)
  show W p E.1 e room_1 s m #[Value.ref b] below meth c H1 locs1 cells slots Q (F0 m 1159 ls [.int rX.1])
  refine lv_aload_n C.1 C.2.1 dL_law_1159 rfl (lv_at hl 1 rfl) ?_
  refine lv_aload_n C.1 C.2.1 dL_law_1160 rfl (lv_at hl 3 rfl) ?_
  refine lv_iload_n C.1 C.2.1 dL_law_1161 rfl (lv_at hl 0 rfl) ?_
  refine lv_iconst (v := 1) C.1 C.2.1 dL_law_1162 (by decide) ?_
  refine lv_iadd C.1 C.2.1 dL_law_1163 ?_
  refine va_sld C.1 C.2.1 hX0.1 hX0.2.1 hX0.2.2 hS1.2.2 h1 dL_law_1164 ?_
  refine kl_callM (d := 0 + 4) C hl hS1 (Nat.le_of_ble_eq_true rfl) mVX10_check [.int (xs (i + 1).toNatClampNeg)] [.int rX.1] (fun _ => rfl) (u := (some (Value.int rM.1))) (fun _ => rfl) (gX10_check (E := E') (d := 0) (xs (i + 1).toNatClampNeg) σM hM) lmRL_153 rfl rfl (Nat.le_of_ble_eq_true rfl) dL_law_1165 rfl (fun H2 locs2 hS2 => ?_)
  show W p E.1 e room_1 s m #[Value.ref b] below meth c H2 locs2 cells slots Q (F0 m 1168 ls [.int rM.1, .int rX.1])
  exact lv_icmp_eq C.1 C.2.1 dL_law_1168 rfl (fun _ => kk H2 locs2 hS2) (fun q => absurd heq q)
end KC
def kl_o0 (Rel : kw_M → kw_M → Prop) : Prop := ∀ (σX σM : kw_M) (a1 : Int32) (a2 : Int32) (a3 : Int32) (a4 : Int32) (a5 : Int32), Rel σX σM → ∃ (rX : Int32 × kw_M) (rM : Int32 × kw_M), fX9_feed a1 a2 a3 a4 a5 σX = some rX ∧ fX10_feed a1 a2 a3 a4 a5 σM = some rM ∧ rX.1 = rM.1 ∧ Rel rX.2 rM.2
def kl_o1 (Rel : kw_M → kw_M → Prop) : Prop := ∀ (σX σM : kw_M) (a1 : Int32), Rel σX σM → ∃ (rX : Int32 × kw_M) (rM : Int32 × kw_M), fX9_net a1 σX = some rX ∧ fX10_net a1 σM = some rM ∧ rX.1 = rM.1 ∧ Rel rX.2 rM.2
def kl_o2 (Rel : kw_M → kw_M → Prop) : Prop := ∀ (σX σM : kw_M) (a1 : Int32), Rel σX σM → ∃ (rX : Int32 × kw_M) (rM : Int32 × kw_M), fX9_orders a1 σX = some rX ∧ fX10_orders a1 σM = some rM ∧ rX.1 = rM.1 ∧ Rel rX.2 rM.2
def kl_o3 (Rel : kw_M → kw_M → Prop) : Prop := ∀ (σX σM : kw_M) (a1 : Int32) (a2 : Int32) (a3 : Int32), Rel σX σM → ∃ (rX : Int32 × kw_M) (rM : Int32 × kw_M), fX9_lay a1 a2 a3 σX = some rX ∧ fX10_lay a1 a2 a3 σM = some rM ∧ rX.1 = rM.1 ∧ Rel rX.2 rM.2
def kl_o4 (Rel : kw_M → kw_M → Prop) : Prop := ∀ (σX σM : kw_M) (a1 : Int32) (a2 : Int32), Rel σX σM → ∃ (rX : Int32 × kw_M) (rM : Int32 × kw_M), fX9_length a1 a2 σX = some rX ∧ fX10_length a1 a2 σM = some rM ∧ rX.1 = rM.1 ∧ Rel rX.2 rM.2
def kl_o5 (Rel : kw_M → kw_M → Prop) : Prop := ∀ (σX σM : kw_M) (a1 : Int32), Rel σX σM → ∃ (rX : Int32 × kw_M) (rM : Int32 × kw_M), fX9_close a1 σX = some rX ∧ fX10_close a1 σM = some rM ∧ rX.1 = rM.1 ∧ Rel rX.2 rM.2
def kl_o6 (Rel : kw_M → kw_M → Prop) : Prop := ∀ (σX σM : kw_M) (a1 : Int32), Rel σX σM → ∃ (rX : Int32 × kw_M) (rM : Int32 × kw_M), fX9_open a1 σX = some rX ∧ fX10_open a1 σM = some rM ∧ rX.1 = rM.1 ∧ Rel rX.2 rM.2
def kl_o7 (Rel : kw_M → kw_M → Prop) : Prop := ∀ (σX σM : kw_M) (a1 : Int32), Rel σX σM → ∃ (rX : Int32 × kw_M) (rM : Int32 × kw_M), fX9_origin a1 σX = some rX ∧ fX10_origin a1 σM = some rM ∧ rX.1 = rM.1 ∧ Rel rX.2 rM.2
def kl_o8 (Rel : kw_M → kw_M → Prop) : Prop := ∀ (σX σM : kw_M) (a1 : Int32), Rel σX σM → ∃ (rX : Int32 × kw_M) (rM : Int32 × kw_M), fX9_count a1 σX = some rX ∧ fX10_count a1 σM = some rM ∧ rX.1 = rM.1 ∧ Rel rX.2 rM.2
def kl_o9 (Rel : kw_M → kw_M → Prop) : Prop := ∀ (σX σM : kw_M) (a1 : Int32) (a2 : Int32), Rel σX σM → ∃ (rX : Int64) (rM : Int64 × kw_M), fX9_road a1 a2 σX = some rX ∧ fX10_road a1 a2 σM = some rM ∧ rX = rM.1 ∧ Rel σX rM.2
def kl_o10 (Rel : kw_M → kw_M → Prop) : Prop := ∀ (σX σM : kw_M) (a1 : Int32) (a2 : Int32), Rel σX σM → ∃ (rX : Int64) (rM : Int64 × kw_M), fX9_change a1 a2 σX = some rX ∧ fX10_change a1 a2 σM = some rM ∧ rX = rM.1 ∧ Rel σX rM.2
def kl_o11 (Rel : kw_M → kw_M → Prop) : Prop := ∀ (σX σM : kw_M) (a1 : Int32) (a2 : Int32), Rel σX σM → ∃ (rX : Int64 × kw_M) (rM : Int64 × kw_M), fX9_town a1 a2 σX = some rX ∧ fX10_town a1 a2 σM = some rM ∧ rX.1 = rM.1 ∧ Rel rX.2 rM.2
def kl_o12 (Rel : kw_M → kw_M → Prop) : Prop := ∀ (σX σM : kw_M) (a1 : Int32) (a2 : Int32), Rel σX σM → ∃ (rX : Int32 × kw_M) (rM : Int32 × kw_M), fX9_way a1 a2 σX = some rX ∧ fX10_way a1 a2 σM = some rM ∧ rX.1 = rM.1 ∧ Rel rX.2 rM.2
def kl_o13 (Rel : kw_M → kw_M → Prop) : Prop := ∀ (σX σM : kw_M) (a1 : Int32) (a2 : Int32), Rel σX σM → ∃ (rX : Int32 × kw_M) (rM : Int32 × kw_M), fX9_needed a1 a2 σX = some rX ∧ fX10_needed a1 a2 σM = some rM ∧ rX.1 = rM.1 ∧ Rel rX.2 rM.2
def kl_o14 (Rel : kw_M → kw_M → Prop) : Prop := ∀ (σX σM : kw_M) (a1 : Int32), Rel σX σM → ∃ (rX : Int32) (rM : Int32), fX9_touched a1 σX = some rX ∧ fX10_touched a1 σM = some rM ∧ rX = rM ∧ Rel σX σM
def kl_o15 (Rel : kw_M → kw_M → Prop) : Prop := ∀ (σX σM : kw_M) (a1 : Int32) (a2 : Int32), Rel σX σM → ∃ (rX : Int64 × kw_M) (rM : Int64 × kw_M), fX9_without a1 a2 σX = some rX ∧ fX10_without a1 a2 σM = some rM ∧ rX.1 = rM.1 ∧ Rel rX.2 rM.2
def kl_o16 (Rel : kw_M → kw_M → Prop) : Prop := ∀ (σX σM : kw_M) (a1 : Int32) (a2 : Int32), Rel σX σM → ∃ (rX : Int64 × kw_M) (rM : Int64 × kw_M), fX9_between a1 a2 σX = some rX ∧ fX10_between a1 a2 σM = some rM ∧ rX.1 = rM.1 ∧ Rel rX.2 rM.2
def kl_o17 (Rel : kw_M → kw_M → Prop) : Prop := ∀ (σX σM : kw_M) (a1 : Int32) (a2 : Int32), Rel σX σM → ∃ (rX : Int64 × kw_M) (rM : Int64 × kw_M), fX9_free a1 a2 σX = some rX ∧ fX10_free a1 a2 σM = some rM ∧ rX.1 = rM.1 ∧ Rel rX.2 rM.2
def kl_o18 (Rel : kw_M → kw_M → Prop) : Prop := ∀ (σX σM : kw_M) (a1 : Int32) (a2 : Int32), Rel σX σM → ∃ (rX : Int64 × kw_M) (rM : Int64 × kw_M), fX9_hops a1 a2 σX = some rX ∧ fX10_hops a1 a2 σM = some rM ∧ rX.1 = rM.1 ∧ Rel rX.2 rM.2
def kl_o19 (Rel : kw_M → kw_M → Prop) : Prop := ∀ (σX σM : kw_M) (a1 : Int32) (a2 : Int32), Rel σX σM → ∃ (rX : Int64 × kw_M) (rM : Int64 × kw_M), fX9_meet a1 a2 σX = some rX ∧ fX10_meet a1 a2 σM = some rM ∧ rX.1 = rM.1 ∧ Rel rX.2 rM.2
def kl_o20 (Rel : kw_M → kw_M → Prop) : Prop := ∀ (σX σM : kw_M) (a1 : Int32) (a2 : Int32), Rel σX σM → ∃ (rX : Int64 × kw_M) (rM : Int64 × kw_M), fX9_through a1 a2 σX = some rX ∧ fX10_through a1 a2 σM = some rM ∧ rX.1 = rM.1 ∧ Rel rX.2 rM.2
def kl_o21 (Rel : kw_M → kw_M → Prop) : Prop := ∀ (σX σM : kw_M) (a1 : Int32) (a2 : Int32), Rel σX σM → ∃ (rX : Int64 × kw_M) (rM : Int64 × kw_M), fX9_shortcut a1 a2 σX = some rX ∧ fX10_shortcut a1 a2 σM = some rM ∧ rX.1 = rM.1 ∧ Rel rX.2 rM.2
def kl_o22 (Rel : kw_M → kw_M → Prop) : Prop := ∀ (σX σM : kw_M) (a1 : Int32), Rel σX σM → ∃ (rX : Int64 × kw_M) (rM : Int64 × kw_M), fX9_mean a1 σX = some rX ∧ fX10_mean a1 σM = some rM ∧ rX.1 = rM.1 ∧ Rel rX.2 rM.2
def kl_o23 (Rel : kw_M → kw_M → Prop) : Prop := ∀ (σX σM : kw_M) (a1 : Int32) (a2 : Int32), Rel σX σM → ∃ (rX : Int64 × kw_M) (rM : Int64 × kw_M), fX9_round a1 a2 σX = some rX ∧ fX10_round a1 a2 σM = some rM ∧ rX.1 = rM.1 ∧ Rel rX.2 rM.2
def kl_o24 (Rel : kw_M → kw_M → Prop) : Prop := ∀ (σX σM : kw_M) (a1 : Int32) (a2 : Int32), Rel σX σM → ∃ (rX : Int32 × kw_M) (rM : Int32 × kw_M), fX9_watch a1 a2 σX = some rX ∧ fX10_watch a1 a2 σM = some rM ∧ rX.1 = rM.1 ∧ Rel rX.2 rM.2
def kl_o25 (Rel : kw_M → kw_M → Prop) : Prop := ∀ (σX σM : kw_M) (a1 : Int32), Rel σX σM → ∃ (rX : Int32 × kw_M) (rM : Int32 × kw_M), fX9_forget a1 σX = some rX ∧ fX10_forget a1 σM = some rM ∧ rX.1 = rM.1 ∧ Rel rX.2 rM.2
def kl_o26 (Rel : kw_M → kw_M → Prop) : Prop := ∀ (σX σM : kw_M) (a1 : Int32) (a2 : Int32), Rel σX σM → ∃ (rX : Int64) (rM : Int64), fX9_event a1 a2 σX = some rX ∧ fX10_event a1 a2 σM = some rM ∧ rX = rM ∧ Rel σX σM
def kl_o27 (Rel : kw_M → kw_M → Prop) : Prop := ∀ (σX σM : kw_M) (a1 : Int32) (a2 : Int32), Rel σX σM → ∃ (rX : Int32 × kw_M) (rM : Int32 × kw_M), fX9_ifLength a1 a2 σX = some rX ∧ fX10_ifLength a1 a2 σM = some rM ∧ rX.1 = rM.1 ∧ Rel rX.2 rM.2
def kl_o28 (Rel : kw_M → kw_M → Prop) : Prop := ∀ (σX σM : kw_M) (a1 : Int32) (a2 : Int32), Rel σX σM → ∃ (rX : Int64 × kw_M) (rM : Int64 × kw_M), fX9_drawn a1 a2 σX = some rX ∧ fX10_drawn a1 a2 σM = some rM ∧ rX.1 = rM.1 ∧ Rel rX.2 rM.2
def kl_o29 (Rel : kw_M → kw_M → Prop) : Prop := ∀ (σX σM : kw_M) (a1 : Int32), Rel σX σM → ∃ (rX : Int32 × kw_M) (rM : Int32 × kw_M), fX9_seed a1 σX = some rX ∧ fX10_seed a1 σM = some rM ∧ rX.1 = rM.1 ∧ Rel rX.2 rM.2
def kl_o30 (Rel : kw_M → kw_M → Prop) : Prop := ∀ (σX σM : kw_M), Rel σX σM → ∃ (rX : Int32 × kw_M) (rM : Int32 × kw_M), fX9_keep σX = some rX ∧ fX10_keep σM = some rM ∧ rX.1 = rM.1 ∧ Rel rX.2 rM.2
def kl_o31 (Rel : kw_M → kw_M → Prop) : Prop := ∀ (σX σM : kw_M), Rel σX σM → ∃ (rX : Int32 × kw_M) (rM : Int32 × kw_M), fX9_undo σX = some rX ∧ fX10_undo σM = some rM ∧ rX.1 = rM.1 ∧ Rel rX.2 rM.2
def kl_o32 (Rel : kw_M → kw_M → Prop) : Prop := ∀ (σX σM : kw_M) (a1 : Int32), Rel σX σM → ∃ (rX : Int32 × kw_M) (rM : Int32 × kw_M), fX9_check a1 σX = some rX ∧ fX10_check a1 σM = some rM ∧ rX.1 = rM.1 ∧ Rel rX.2 rM.2
/-- what is asked of the two systems: from alike states every call answers alike and leaves them alike -/
def kl_ok (Rel : kw_M → kw_M → Prop) : Prop := kl_o0 Rel ∧ kl_o1 Rel ∧ kl_o2 Rel ∧ kl_o3 Rel ∧ kl_o4 Rel ∧ kl_o5 Rel ∧ kl_o6 Rel ∧ kl_o7 Rel ∧ kl_o8 Rel ∧ kl_o9 Rel ∧ kl_o10 Rel ∧ kl_o11 Rel ∧ kl_o12 Rel ∧ kl_o13 Rel ∧ kl_o14 Rel ∧ kl_o15 Rel ∧ kl_o16 Rel ∧ kl_o17 Rel ∧ kl_o18 Rel ∧ kl_o19 Rel ∧ kl_o20 Rel ∧ kl_o21 Rel ∧ kl_o22 Rel ∧ kl_o23 Rel ∧ kl_o24 Rel ∧ kl_o25 Rel ∧ kl_o26 Rel ∧ kl_o27 Rel ∧ kl_o28 Rel ∧ kl_o29 Rel ∧ kl_o30 Rel ∧ kl_o31 Rel ∧ kl_o32 Rel
