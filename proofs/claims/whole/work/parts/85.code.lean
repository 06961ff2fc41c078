/-! ===== the law's code ===== -/
theorem dl_0 : decode code 0 = .ok (.new 7, 3) := by decide +kernel
theorem dl_3 : decode code 3 = .ok (.dup, 1) := by decide +kernel
theorem dl_4 : decode code 4 = .ok (.invokespecial 9, 3) := by decide +kernel
theorem dl_7 : decode code 7 = .ok (.astore_n 1, 1) := by decide +kernel
theorem dl_8 : decode code 8 = .ok (.new 10, 3) := by decide +kernel
theorem dl_11 : decode code 11 = .ok (.dup, 1) := by decide +kernel
theorem dl_12 : decode code 12 = .ok (.invokespecial 12, 3) := by decide +kernel
theorem dl_15 : decode code 15 = .ok (.astore_n 2, 1) := by decide +kernel
theorem dl_16 : decode code 16 = .ok (.iconst 0, 1) := by decide +kernel
theorem dl_17 : decode code 17 = .ok (.istore_n 3, 1) := by decide +kernel
theorem dl_18 : decode code 18 = .ok (.iload_n 3, 1) := by decide +kernel
theorem dl_19 : decode code 19 = .ok (.aload_n 0, 1) := by decide +kernel
theorem dl_20 : decode code 20 = .ok (.arraylength, 1) := by decide +kernel
theorem dl_21 : decode code 21 = .ok (.bipush 6, 2) := by decide +kernel
theorem dl_23 : decode code 23 = .ok (.isub, 1) := by decide +kernel
theorem dl_24 : decode code 24 = .ok (.if_icmp .gt 1059, 3) := by decide +kernel
theorem dl_27 : decode code 27 = .ok (.aload_n 0, 1) := by decide +kernel
theorem dl_28 : decode code 28 = .ok (.iload_n 3, 1) := by decide +kernel
theorem dl_29 : decode code 29 = .ok (.iaload, 1) := by decide +kernel
theorem dl_30 : decode code 30 = .ok (.bipush 31, 2) := by decide +kernel
theorem dl_32 : decode code 32 = .ok (.iand, 1) := by decide +kernel
theorem dl_33 : decode code 33 = .ok (.tableswitch 1044 0 28 #[131, 164, 227, 250, 273, 316, 339, 372, 405, 438, 471, 494, 517, 530, 563, 586, 609, 678, 721, 754, 797, 840, 883, 916, 949, 972, 985, 998, 1021], 131) := by decide +kernel
theorem dl_164 : decode code 164 = .ok (.aload_n 1, 1) := by decide +kernel
theorem dl_165 : decode code 165 = .ok (.aload_n 0, 1) := by decide +kernel
theorem dl_166 : decode code 166 = .ok (.iload_n 3, 1) := by decide +kernel
theorem dl_167 : decode code 167 = .ok (.iconst 1, 1) := by decide +kernel
theorem dl_168 : decode code 168 = .ok (.iadd, 1) := by decide +kernel
theorem dl_169 : decode code 169 = .ok (.iaload, 1) := by decide +kernel
theorem dl_170 : decode code 170 = .ok (.aload_n 0, 1) := by decide +kernel
theorem dl_171 : decode code 171 = .ok (.iload_n 3, 1) := by decide +kernel
theorem dl_172 : decode code 172 = .ok (.iconst 2, 1) := by decide +kernel
theorem dl_173 : decode code 173 = .ok (.iadd, 1) := by decide +kernel
theorem dl_174 : decode code 174 = .ok (.iaload, 1) := by decide +kernel
theorem dl_175 : decode code 175 = .ok (.invokevirtual 13, 3) := by decide +kernel
theorem dl_178 : decode code 178 = .ok (.aload_n 2, 1) := by decide +kernel
theorem dl_179 : decode code 179 = .ok (.aload_n 0, 1) := by decide +kernel
theorem dl_180 : decode code 180 = .ok (.iload_n 3, 1) := by decide +kernel
theorem dl_181 : decode code 181 = .ok (.iconst 1, 1) := by decide +kernel
theorem dl_182 : decode code 182 = .ok (.iadd, 1) := by decide +kernel
theorem dl_183 : decode code 183 = .ok (.iaload, 1) := by decide +kernel
theorem dl_184 : decode code 184 = .ok (.aload_n 0, 1) := by decide +kernel
theorem dl_185 : decode code 185 = .ok (.iload_n 3, 1) := by decide +kernel
theorem dl_186 : decode code 186 = .ok (.iconst 2, 1) := by decide +kernel
theorem dl_187 : decode code 187 = .ok (.iadd, 1) := by decide +kernel
theorem dl_188 : decode code 188 = .ok (.iaload, 1) := by decide +kernel
theorem dl_189 : decode code 189 = .ok (.invokevirtual 17, 3) := by decide +kernel
theorem dl_192 : decode code 192 = .ok (.if_icmp .eq 885, 3) := by decide +kernel
theorem dl_195 : decode code 195 = .ok (.iconst 0, 1) := by decide +kernel
theorem dl_196 : decode code 196 = .ok (.ireturn, 1) := by decide +kernel
theorem dl_197 : decode code 197 = .ok (.aload_n 1, 1) := by decide +kernel
theorem dl_198 : decode code 198 = .ok (.aload_n 0, 1) := by decide +kernel
theorem dl_199 : decode code 199 = .ok (.iload_n 3, 1) := by decide +kernel
theorem dl_200 : decode code 200 = .ok (.iconst 1, 1) := by decide +kernel
theorem dl_201 : decode code 201 = .ok (.iadd, 1) := by decide +kernel
theorem dl_202 : decode code 202 = .ok (.iaload, 1) := by decide +kernel
theorem dl_203 : decode code 203 = .ok (.aload_n 0, 1) := by decide +kernel
theorem dl_204 : decode code 204 = .ok (.iload_n 3, 1) := by decide +kernel
theorem dl_205 : decode code 205 = .ok (.iconst 2, 1) := by decide +kernel
theorem dl_206 : decode code 206 = .ok (.iadd, 1) := by decide +kernel
theorem dl_207 : decode code 207 = .ok (.iaload, 1) := by decide +kernel
theorem dl_208 : decode code 208 = .ok (.aload_n 0, 1) := by decide +kernel
theorem dl_209 : decode code 209 = .ok (.iload_n 3, 1) := by decide +kernel
theorem dl_210 : decode code 210 = .ok (.iconst 3, 1) := by decide +kernel
theorem dl_211 : decode code 211 = .ok (.iadd, 1) := by decide +kernel
theorem dl_212 : decode code 212 = .ok (.iaload, 1) := by decide +kernel
theorem dl_213 : decode code 213 = .ok (.aload_n 0, 1) := by decide +kernel
theorem dl_214 : decode code 214 = .ok (.iload_n 3, 1) := by decide +kernel
theorem dl_215 : decode code 215 = .ok (.iconst 4, 1) := by decide +kernel
theorem dl_216 : decode code 216 = .ok (.iadd, 1) := by decide +kernel
theorem dl_217 : decode code 217 = .ok (.iaload, 1) := by decide +kernel
theorem dl_218 : decode code 218 = .ok (.aload_n 0, 1) := by decide +kernel
theorem dl_219 : decode code 219 = .ok (.iload_n 3, 1) := by decide +kernel
theorem dl_220 : decode code 220 = .ok (.iconst 5, 1) := by decide +kernel
theorem dl_221 : decode code 221 = .ok (.iadd, 1) := by decide +kernel
theorem dl_222 : decode code 222 = .ok (.iaload, 1) := by decide +kernel
theorem dl_223 : decode code 223 = .ok (.invokevirtual 18, 3) := by decide +kernel
theorem dl_226 : decode code 226 = .ok (.aload_n 2, 1) := by decide +kernel
theorem dl_227 : decode code 227 = .ok (.aload_n 0, 1) := by decide +kernel
theorem dl_228 : decode code 228 = .ok (.iload_n 3, 1) := by decide +kernel
theorem dl_229 : decode code 229 = .ok (.iconst 1, 1) := by decide +kernel
theorem dl_230 : decode code 230 = .ok (.iadd, 1) := by decide +kernel
theorem dl_231 : decode code 231 = .ok (.iaload, 1) := by decide +kernel
theorem dl_232 : decode code 232 = .ok (.aload_n 0, 1) := by decide +kernel
theorem dl_233 : decode code 233 = .ok (.iload_n 3, 1) := by decide +kernel
theorem dl_234 : decode code 234 = .ok (.iconst 2, 1) := by decide +kernel
theorem dl_235 : decode code 235 = .ok (.iadd, 1) := by decide +kernel
theorem dl_236 : decode code 236 = .ok (.iaload, 1) := by decide +kernel
theorem dl_237 : decode code 237 = .ok (.aload_n 0, 1) := by decide +kernel
theorem dl_238 : decode code 238 = .ok (.iload_n 3, 1) := by decide +kernel
theorem dl_239 : decode code 239 = .ok (.iconst 3, 1) := by decide +kernel
theorem dl_240 : decode code 240 = .ok (.iadd, 1) := by decide +kernel
theorem dl_241 : decode code 241 = .ok (.iaload, 1) := by decide +kernel
theorem dl_242 : decode code 242 = .ok (.aload_n 0, 1) := by decide +kernel
theorem dl_243 : decode code 243 = .ok (.iload_n 3, 1) := by decide +kernel
theorem dl_244 : decode code 244 = .ok (.iconst 4, 1) := by decide +kernel
theorem dl_245 : decode code 245 = .ok (.iadd, 1) := by decide +kernel
theorem dl_246 : decode code 246 = .ok (.iaload, 1) := by decide +kernel
theorem dl_247 : decode code 247 = .ok (.aload_n 0, 1) := by decide +kernel
theorem dl_248 : decode code 248 = .ok (.iload_n 3, 1) := by decide +kernel
theorem dl_249 : decode code 249 = .ok (.iconst 5, 1) := by decide +kernel
theorem dl_250 : decode code 250 = .ok (.iadd, 1) := by decide +kernel
theorem dl_251 : decode code 251 = .ok (.iaload, 1) := by decide +kernel
theorem dl_252 : decode code 252 = .ok (.invokevirtual 22, 3) := by decide +kernel
theorem dl_255 : decode code 255 = .ok (.if_icmp .eq 822, 3) := by decide +kernel
theorem dl_258 : decode code 258 = .ok (.iconst 0, 1) := by decide +kernel
theorem dl_259 : decode code 259 = .ok (.ireturn, 1) := by decide +kernel
theorem dl_260 : decode code 260 = .ok (.aload_n 1, 1) := by decide +kernel
theorem dl_261 : decode code 261 = .ok (.aload_n 0, 1) := by decide +kernel
theorem dl_262 : decode code 262 = .ok (.iload_n 3, 1) := by decide +kernel
theorem dl_263 : decode code 263 = .ok (.iconst 1, 1) := by decide +kernel
theorem dl_264 : decode code 264 = .ok (.iadd, 1) := by decide +kernel
theorem dl_265 : decode code 265 = .ok (.iaload, 1) := by decide +kernel
theorem dl_266 : decode code 266 = .ok (.invokevirtual 23, 3) := by decide +kernel
theorem dl_269 : decode code 269 = .ok (.aload_n 2, 1) := by decide +kernel
theorem dl_270 : decode code 270 = .ok (.aload_n 0, 1) := by decide +kernel
theorem dl_271 : decode code 271 = .ok (.iload_n 3, 1) := by decide +kernel
theorem dl_272 : decode code 272 = .ok (.iconst 1, 1) := by decide +kernel
theorem dl_273 : decode code 273 = .ok (.iadd, 1) := by decide +kernel
theorem dl_274 : decode code 274 = .ok (.iaload, 1) := by decide +kernel
theorem dl_275 : decode code 275 = .ok (.invokevirtual 27, 3) := by decide +kernel
theorem dl_278 : decode code 278 = .ok (.if_icmp .eq 799, 3) := by decide +kernel
theorem dl_281 : decode code 281 = .ok (.iconst 0, 1) := by decide +kernel
theorem dl_282 : decode code 282 = .ok (.ireturn, 1) := by decide +kernel
theorem dl_283 : decode code 283 = .ok (.aload_n 1, 1) := by decide +kernel
theorem dl_284 : decode code 284 = .ok (.aload_n 0, 1) := by decide +kernel
theorem dl_285 : decode code 285 = .ok (.iload_n 3, 1) := by decide +kernel
theorem dl_286 : decode code 286 = .ok (.iconst 1, 1) := by decide +kernel
theorem dl_287 : decode code 287 = .ok (.iadd, 1) := by decide +kernel
theorem dl_288 : decode code 288 = .ok (.iaload, 1) := by decide +kernel
theorem dl_289 : decode code 289 = .ok (.invokevirtual 28, 3) := by decide +kernel
theorem dl_292 : decode code 292 = .ok (.aload_n 2, 1) := by decide +kernel
theorem dl_293 : decode code 293 = .ok (.aload_n 0, 1) := by decide +kernel
theorem dl_294 : decode code 294 = .ok (.iload_n 3, 1) := by decide +kernel
theorem dl_295 : decode code 295 = .ok (.iconst 1, 1) := by decide +kernel
theorem dl_296 : decode code 296 = .ok (.iadd, 1) := by decide +kernel
theorem dl_297 : decode code 297 = .ok (.iaload, 1) := by decide +kernel
theorem dl_298 : decode code 298 = .ok (.invokevirtual 31, 3) := by decide +kernel
theorem dl_301 : decode code 301 = .ok (.if_icmp .eq 776, 3) := by decide +kernel
theorem dl_304 : decode code 304 = .ok (.iconst 0, 1) := by decide +kernel
theorem dl_305 : decode code 305 = .ok (.ireturn, 1) := by decide +kernel
theorem dl_306 : decode code 306 = .ok (.aload_n 1, 1) := by decide +kernel
theorem dl_307 : decode code 307 = .ok (.aload_n 0, 1) := by decide +kernel
theorem dl_308 : decode code 308 = .ok (.iload_n 3, 1) := by decide +kernel
theorem dl_309 : decode code 309 = .ok (.iconst 1, 1) := by decide +kernel
theorem dl_310 : decode code 310 = .ok (.iadd, 1) := by decide +kernel
theorem dl_311 : decode code 311 = .ok (.iaload, 1) := by decide +kernel
theorem dl_312 : decode code 312 = .ok (.aload_n 0, 1) := by decide +kernel
theorem dl_313 : decode code 313 = .ok (.iload_n 3, 1) := by decide +kernel
theorem dl_314 : decode code 314 = .ok (.iconst 2, 1) := by decide +kernel
theorem dl_315 : decode code 315 = .ok (.iadd, 1) := by decide +kernel
theorem dl_316 : decode code 316 = .ok (.iaload, 1) := by decide +kernel
theorem dl_317 : decode code 317 = .ok (.aload_n 0, 1) := by decide +kernel
theorem dl_318 : decode code 318 = .ok (.iload_n 3, 1) := by decide +kernel
theorem dl_319 : decode code 319 = .ok (.iconst 3, 1) := by decide +kernel
theorem dl_320 : decode code 320 = .ok (.iadd, 1) := by decide +kernel
theorem dl_321 : decode code 321 = .ok (.iaload, 1) := by decide +kernel
theorem dl_322 : decode code 322 = .ok (.invokevirtual 32, 3) := by decide +kernel
theorem dl_325 : decode code 325 = .ok (.aload_n 2, 1) := by decide +kernel
theorem dl_326 : decode code 326 = .ok (.aload_n 0, 1) := by decide +kernel
theorem dl_327 : decode code 327 = .ok (.iload_n 3, 1) := by decide +kernel
theorem dl_328 : decode code 328 = .ok (.iconst 1, 1) := by decide +kernel
theorem dl_329 : decode code 329 = .ok (.iadd, 1) := by decide +kernel
theorem dl_330 : decode code 330 = .ok (.iaload, 1) := by decide +kernel
theorem dl_331 : decode code 331 = .ok (.aload_n 0, 1) := by decide +kernel
theorem dl_332 : decode code 332 = .ok (.iload_n 3, 1) := by decide +kernel
theorem dl_333 : decode code 333 = .ok (.iconst 2, 1) := by decide +kernel
theorem dl_334 : decode code 334 = .ok (.iadd, 1) := by decide +kernel
theorem dl_335 : decode code 335 = .ok (.iaload, 1) := by decide +kernel
theorem dl_336 : decode code 336 = .ok (.aload_n 0, 1) := by decide +kernel
theorem dl_337 : decode code 337 = .ok (.iload_n 3, 1) := by decide +kernel
theorem dl_338 : decode code 338 = .ok (.iconst 3, 1) := by decide +kernel
theorem dl_339 : decode code 339 = .ok (.iadd, 1) := by decide +kernel
theorem dl_340 : decode code 340 = .ok (.iaload, 1) := by decide +kernel
theorem dl_341 : decode code 341 = .ok (.invokevirtual 36, 3) := by decide +kernel
theorem dl_344 : decode code 344 = .ok (.if_icmp .eq 733, 3) := by decide +kernel
theorem dl_347 : decode code 347 = .ok (.iconst 0, 1) := by decide +kernel
theorem dl_348 : decode code 348 = .ok (.ireturn, 1) := by decide +kernel
theorem dl_349 : decode code 349 = .ok (.aload_n 1, 1) := by decide +kernel
theorem dl_350 : decode code 350 = .ok (.aload_n 0, 1) := by decide +kernel
theorem dl_351 : decode code 351 = .ok (.iload_n 3, 1) := by decide +kernel
theorem dl_352 : decode code 352 = .ok (.iconst 1, 1) := by decide +kernel
theorem dl_353 : decode code 353 = .ok (.iadd, 1) := by decide +kernel
theorem dl_354 : decode code 354 = .ok (.iaload, 1) := by decide +kernel
theorem dl_355 : decode code 355 = .ok (.invokevirtual 37, 3) := by decide +kernel
theorem dl_358 : decode code 358 = .ok (.aload_n 2, 1) := by decide +kernel
theorem dl_359 : decode code 359 = .ok (.aload_n 0, 1) := by decide +kernel
theorem dl_360 : decode code 360 = .ok (.iload_n 3, 1) := by decide +kernel
theorem dl_361 : decode code 361 = .ok (.iconst 1, 1) := by decide +kernel
theorem dl_362 : decode code 362 = .ok (.iadd, 1) := by decide +kernel
theorem dl_363 : decode code 363 = .ok (.iaload, 1) := by decide +kernel
theorem dl_364 : decode code 364 = .ok (.invokevirtual 40, 3) := by decide +kernel
theorem dl_367 : decode code 367 = .ok (.if_icmp .eq 710, 3) := by decide +kernel
theorem dl_370 : decode code 370 = .ok (.iconst 0, 1) := by decide +kernel
theorem dl_371 : decode code 371 = .ok (.ireturn, 1) := by decide +kernel
theorem dl_372 : decode code 372 = .ok (.aload_n 1, 1) := by decide +kernel
theorem dl_373 : decode code 373 = .ok (.aload_n 0, 1) := by decide +kernel
theorem dl_374 : decode code 374 = .ok (.iload_n 3, 1) := by decide +kernel
theorem dl_375 : decode code 375 = .ok (.iconst 1, 1) := by decide +kernel
theorem dl_376 : decode code 376 = .ok (.iadd, 1) := by decide +kernel
theorem dl_377 : decode code 377 = .ok (.iaload, 1) := by decide +kernel
theorem dl_378 : decode code 378 = .ok (.aload_n 0, 1) := by decide +kernel
theorem dl_379 : decode code 379 = .ok (.iload_n 3, 1) := by decide +kernel
theorem dl_380 : decode code 380 = .ok (.iconst 2, 1) := by decide +kernel
theorem dl_381 : decode code 381 = .ok (.iadd, 1) := by decide +kernel
theorem dl_382 : decode code 382 = .ok (.iaload, 1) := by decide +kernel
theorem dl_383 : decode code 383 = .ok (.invokevirtual 41, 3) := by decide +kernel
theorem dl_386 : decode code 386 = .ok (.aload_n 2, 1) := by decide +kernel
theorem dl_387 : decode code 387 = .ok (.aload_n 0, 1) := by decide +kernel
theorem dl_388 : decode code 388 = .ok (.iload_n 3, 1) := by decide +kernel
theorem dl_389 : decode code 389 = .ok (.iconst 1, 1) := by decide +kernel
theorem dl_390 : decode code 390 = .ok (.iadd, 1) := by decide +kernel
theorem dl_391 : decode code 391 = .ok (.iaload, 1) := by decide +kernel
theorem dl_392 : decode code 392 = .ok (.aload_n 0, 1) := by decide +kernel
theorem dl_393 : decode code 393 = .ok (.iload_n 3, 1) := by decide +kernel
theorem dl_394 : decode code 394 = .ok (.iconst 2, 1) := by decide +kernel
theorem dl_395 : decode code 395 = .ok (.iadd, 1) := by decide +kernel
theorem dl_396 : decode code 396 = .ok (.iaload, 1) := by decide +kernel
theorem dl_397 : decode code 397 = .ok (.invokevirtual 45, 3) := by decide +kernel
theorem dl_400 : decode code 400 = .ok (.if_icmp .eq 677, 3) := by decide +kernel
theorem dl_403 : decode code 403 = .ok (.iconst 0, 1) := by decide +kernel
theorem dl_404 : decode code 404 = .ok (.ireturn, 1) := by decide +kernel
theorem dl_405 : decode code 405 = .ok (.aload_n 1, 1) := by decide +kernel
theorem dl_406 : decode code 406 = .ok (.aload_n 0, 1) := by decide +kernel
theorem dl_407 : decode code 407 = .ok (.iload_n 3, 1) := by decide +kernel
theorem dl_408 : decode code 408 = .ok (.iconst 1, 1) := by decide +kernel
theorem dl_409 : decode code 409 = .ok (.iadd, 1) := by decide +kernel
theorem dl_410 : decode code 410 = .ok (.iaload, 1) := by decide +kernel
theorem dl_411 : decode code 411 = .ok (.aload_n 0, 1) := by decide +kernel
theorem dl_412 : decode code 412 = .ok (.iload_n 3, 1) := by decide +kernel
theorem dl_413 : decode code 413 = .ok (.iconst 2, 1) := by decide +kernel
theorem dl_414 : decode code 414 = .ok (.iadd, 1) := by decide +kernel
theorem dl_415 : decode code 415 = .ok (.iaload, 1) := by decide +kernel
theorem dl_416 : decode code 416 = .ok (.invokevirtual 46, 3) := by decide +kernel
theorem dl_419 : decode code 419 = .ok (.aload_n 2, 1) := by decide +kernel
theorem dl_420 : decode code 420 = .ok (.aload_n 0, 1) := by decide +kernel
theorem dl_421 : decode code 421 = .ok (.iload_n 3, 1) := by decide +kernel
theorem dl_422 : decode code 422 = .ok (.iconst 1, 1) := by decide +kernel
theorem dl_423 : decode code 423 = .ok (.iadd, 1) := by decide +kernel
theorem dl_424 : decode code 424 = .ok (.iaload, 1) := by decide +kernel
theorem dl_425 : decode code 425 = .ok (.aload_n 0, 1) := by decide +kernel
theorem dl_426 : decode code 426 = .ok (.iload_n 3, 1) := by decide +kernel
theorem dl_427 : decode code 427 = .ok (.iconst 2, 1) := by decide +kernel
theorem dl_428 : decode code 428 = .ok (.iadd, 1) := by decide +kernel
theorem dl_429 : decode code 429 = .ok (.iaload, 1) := by decide +kernel
theorem dl_430 : decode code 430 = .ok (.invokevirtual 49, 3) := by decide +kernel
theorem dl_433 : decode code 433 = .ok (.if_icmp .eq 644, 3) := by decide +kernel
theorem dl_436 : decode code 436 = .ok (.iconst 0, 1) := by decide +kernel
theorem dl_437 : decode code 437 = .ok (.ireturn, 1) := by decide +kernel
theorem dl_438 : decode code 438 = .ok (.aload_n 1, 1) := by decide +kernel
theorem dl_439 : decode code 439 = .ok (.aload_n 0, 1) := by decide +kernel
theorem dl_440 : decode code 440 = .ok (.iload_n 3, 1) := by decide +kernel
theorem dl_441 : decode code 441 = .ok (.iconst 1, 1) := by decide +kernel
theorem dl_442 : decode code 442 = .ok (.iadd, 1) := by decide +kernel
theorem dl_443 : decode code 443 = .ok (.iaload, 1) := by decide +kernel
theorem dl_444 : decode code 444 = .ok (.aload_n 0, 1) := by decide +kernel
theorem dl_445 : decode code 445 = .ok (.iload_n 3, 1) := by decide +kernel
theorem dl_446 : decode code 446 = .ok (.iconst 2, 1) := by decide +kernel
theorem dl_447 : decode code 447 = .ok (.iadd, 1) := by decide +kernel
theorem dl_448 : decode code 448 = .ok (.iaload, 1) := by decide +kernel
theorem dl_449 : decode code 449 = .ok (.invokevirtual 50, 3) := by decide +kernel
theorem dl_452 : decode code 452 = .ok (.aload_n 2, 1) := by decide +kernel
theorem dl_453 : decode code 453 = .ok (.aload_n 0, 1) := by decide +kernel
theorem dl_454 : decode code 454 = .ok (.iload_n 3, 1) := by decide +kernel
theorem dl_455 : decode code 455 = .ok (.iconst 1, 1) := by decide +kernel
theorem dl_456 : decode code 456 = .ok (.iadd, 1) := by decide +kernel
theorem dl_457 : decode code 457 = .ok (.iaload, 1) := by decide +kernel
theorem dl_458 : decode code 458 = .ok (.aload_n 0, 1) := by decide +kernel
theorem dl_459 : decode code 459 = .ok (.iload_n 3, 1) := by decide +kernel
theorem dl_460 : decode code 460 = .ok (.iconst 2, 1) := by decide +kernel
theorem dl_461 : decode code 461 = .ok (.iadd, 1) := by decide +kernel
theorem dl_462 : decode code 462 = .ok (.iaload, 1) := by decide +kernel
theorem dl_463 : decode code 463 = .ok (.invokevirtual 53, 3) := by decide +kernel
theorem dl_466 : decode code 466 = .ok (.if_icmp .eq 611, 3) := by decide +kernel
theorem dl_469 : decode code 469 = .ok (.iconst 0, 1) := by decide +kernel
theorem dl_470 : decode code 470 = .ok (.ireturn, 1) := by decide +kernel
theorem dl_471 : decode code 471 = .ok (.aload_n 1, 1) := by decide +kernel
theorem dl_472 : decode code 472 = .ok (.aload_n 0, 1) := by decide +kernel
theorem dl_473 : decode code 473 = .ok (.iload_n 3, 1) := by decide +kernel
theorem dl_474 : decode code 474 = .ok (.iconst 1, 1) := by decide +kernel
theorem dl_475 : decode code 475 = .ok (.iadd, 1) := by decide +kernel
theorem dl_476 : decode code 476 = .ok (.iaload, 1) := by decide +kernel
theorem dl_477 : decode code 477 = .ok (.aload_n 0, 1) := by decide +kernel
theorem dl_478 : decode code 478 = .ok (.iload_n 3, 1) := by decide +kernel
theorem dl_479 : decode code 479 = .ok (.iconst 2, 1) := by decide +kernel
theorem dl_480 : decode code 480 = .ok (.iadd, 1) := by decide +kernel
theorem dl_481 : decode code 481 = .ok (.iaload, 1) := by decide +kernel
theorem dl_482 : decode code 482 = .ok (.invokevirtual 54, 3) := by decide +kernel
theorem dl_485 : decode code 485 = .ok (.aload_n 2, 1) := by decide +kernel
theorem dl_486 : decode code 486 = .ok (.aload_n 0, 1) := by decide +kernel
theorem dl_487 : decode code 487 = .ok (.iload_n 3, 1) := by decide +kernel
theorem dl_488 : decode code 488 = .ok (.iconst 1, 1) := by decide +kernel
theorem dl_489 : decode code 489 = .ok (.iadd, 1) := by decide +kernel
theorem dl_490 : decode code 490 = .ok (.iaload, 1) := by decide +kernel
theorem dl_491 : decode code 491 = .ok (.aload_n 0, 1) := by decide +kernel
theorem dl_492 : decode code 492 = .ok (.iload_n 3, 1) := by decide +kernel
theorem dl_493 : decode code 493 = .ok (.iconst 2, 1) := by decide +kernel
theorem dl_494 : decode code 494 = .ok (.iadd, 1) := by decide +kernel
theorem dl_495 : decode code 495 = .ok (.iaload, 1) := by decide +kernel
theorem dl_496 : decode code 496 = .ok (.invokevirtual 57, 3) := by decide +kernel
theorem dl_499 : decode code 499 = .ok (.if_icmp .eq 578, 3) := by decide +kernel
theorem dl_502 : decode code 502 = .ok (.iconst 0, 1) := by decide +kernel
theorem dl_503 : decode code 503 = .ok (.ireturn, 1) := by decide +kernel
theorem dl_504 : decode code 504 = .ok (.aload_n 1, 1) := by decide +kernel
theorem dl_505 : decode code 505 = .ok (.aload_n 0, 1) := by decide +kernel
theorem dl_506 : decode code 506 = .ok (.iload_n 3, 1) := by decide +kernel
theorem dl_507 : decode code 507 = .ok (.iconst 1, 1) := by decide +kernel
theorem dl_508 : decode code 508 = .ok (.iadd, 1) := by decide +kernel
theorem dl_509 : decode code 509 = .ok (.iaload, 1) := by decide +kernel
theorem dl_510 : decode code 510 = .ok (.invokevirtual 58, 3) := by decide +kernel
theorem dl_513 : decode code 513 = .ok (.aload_n 2, 1) := by decide +kernel
theorem dl_514 : decode code 514 = .ok (.aload_n 0, 1) := by decide +kernel
theorem dl_515 : decode code 515 = .ok (.iload_n 3, 1) := by decide +kernel
theorem dl_516 : decode code 516 = .ok (.iconst 1, 1) := by decide +kernel
theorem dl_517 : decode code 517 = .ok (.iadd, 1) := by decide +kernel
theorem dl_518 : decode code 518 = .ok (.iaload, 1) := by decide +kernel
theorem dl_519 : decode code 519 = .ok (.invokevirtual 61, 3) := by decide +kernel
theorem dl_522 : decode code 522 = .ok (.if_icmp .eq 555, 3) := by decide +kernel
theorem dl_525 : decode code 525 = .ok (.iconst 0, 1) := by decide +kernel
theorem dl_526 : decode code 526 = .ok (.ireturn, 1) := by decide +kernel
theorem dl_527 : decode code 527 = .ok (.aload_n 1, 1) := by decide +kernel
theorem dl_528 : decode code 528 = .ok (.aload_n 0, 1) := by decide +kernel
theorem dl_529 : decode code 529 = .ok (.iload_n 3, 1) := by decide +kernel
theorem dl_530 : decode code 530 = .ok (.iconst 1, 1) := by decide +kernel
theorem dl_531 : decode code 531 = .ok (.iadd, 1) := by decide +kernel
theorem dl_532 : decode code 532 = .ok (.iaload, 1) := by decide +kernel
theorem dl_533 : decode code 533 = .ok (.invokevirtual 62, 3) := by decide +kernel
theorem dl_536 : decode code 536 = .ok (.aload_n 2, 1) := by decide +kernel
theorem dl_537 : decode code 537 = .ok (.aload_n 0, 1) := by decide +kernel
theorem dl_538 : decode code 538 = .ok (.iload_n 3, 1) := by decide +kernel
theorem dl_539 : decode code 539 = .ok (.iconst 1, 1) := by decide +kernel
theorem dl_540 : decode code 540 = .ok (.iadd, 1) := by decide +kernel
theorem dl_541 : decode code 541 = .ok (.iaload, 1) := by decide +kernel
theorem dl_542 : decode code 542 = .ok (.invokevirtual 65, 3) := by decide +kernel
theorem dl_545 : decode code 545 = .ok (.if_icmp .eq 532, 3) := by decide +kernel
theorem dl_548 : decode code 548 = .ok (.iconst 0, 1) := by decide +kernel
theorem dl_549 : decode code 549 = .ok (.ireturn, 1) := by decide +kernel
theorem dl_550 : decode code 550 = .ok (.aload_n 1, 1) := by decide +kernel
theorem dl_551 : decode code 551 = .ok (.invokevirtual 66, 3) := by decide +kernel
theorem dl_554 : decode code 554 = .ok (.aload_n 2, 1) := by decide +kernel
theorem dl_555 : decode code 555 = .ok (.invokevirtual 70, 3) := by decide +kernel
theorem dl_558 : decode code 558 = .ok (.if_icmp .eq 519, 3) := by decide +kernel
theorem dl_561 : decode code 561 = .ok (.iconst 0, 1) := by decide +kernel
theorem dl_562 : decode code 562 = .ok (.ireturn, 1) := by decide +kernel
theorem dl_563 : decode code 563 = .ok (.aload_n 1, 1) := by decide +kernel
theorem dl_564 : decode code 564 = .ok (.aload_n 0, 1) := by decide +kernel
theorem dl_565 : decode code 565 = .ok (.iload_n 3, 1) := by decide +kernel
theorem dl_566 : decode code 566 = .ok (.iconst 1, 1) := by decide +kernel
theorem dl_567 : decode code 567 = .ok (.iadd, 1) := by decide +kernel
theorem dl_568 : decode code 568 = .ok (.iaload, 1) := by decide +kernel
theorem dl_569 : decode code 569 = .ok (.aload_n 0, 1) := by decide +kernel
theorem dl_570 : decode code 570 = .ok (.iload_n 3, 1) := by decide +kernel
theorem dl_571 : decode code 571 = .ok (.iconst 2, 1) := by decide +kernel
theorem dl_572 : decode code 572 = .ok (.iadd, 1) := by decide +kernel
theorem dl_573 : decode code 573 = .ok (.iaload, 1) := by decide +kernel
theorem dl_574 : decode code 574 = .ok (.invokevirtual 71, 3) := by decide +kernel
theorem dl_577 : decode code 577 = .ok (.aload_n 2, 1) := by decide +kernel
theorem dl_578 : decode code 578 = .ok (.aload_n 0, 1) := by decide +kernel
theorem dl_579 : decode code 579 = .ok (.iload_n 3, 1) := by decide +kernel
theorem dl_580 : decode code 580 = .ok (.iconst 1, 1) := by decide +kernel
theorem dl_581 : decode code 581 = .ok (.iadd, 1) := by decide +kernel
theorem dl_582 : decode code 582 = .ok (.iaload, 1) := by decide +kernel
theorem dl_583 : decode code 583 = .ok (.aload_n 0, 1) := by decide +kernel
theorem dl_584 : decode code 584 = .ok (.iload_n 3, 1) := by decide +kernel
theorem dl_585 : decode code 585 = .ok (.iconst 2, 1) := by decide +kernel
theorem dl_586 : decode code 586 = .ok (.iadd, 1) := by decide +kernel
theorem dl_587 : decode code 587 = .ok (.iaload, 1) := by decide +kernel
theorem dl_588 : decode code 588 = .ok (.invokevirtual 74, 3) := by decide +kernel
theorem dl_591 : decode code 591 = .ok (.if_icmp .eq 486, 3) := by decide +kernel
theorem dl_594 : decode code 594 = .ok (.iconst 0, 1) := by decide +kernel
theorem dl_595 : decode code 595 = .ok (.ireturn, 1) := by decide +kernel
theorem dl_596 : decode code 596 = .ok (.aload_n 1, 1) := by decide +kernel
theorem dl_597 : decode code 597 = .ok (.aload_n 0, 1) := by decide +kernel
theorem dl_598 : decode code 598 = .ok (.iload_n 3, 1) := by decide +kernel
theorem dl_599 : decode code 599 = .ok (.iconst 1, 1) := by decide +kernel
theorem dl_600 : decode code 600 = .ok (.iadd, 1) := by decide +kernel
theorem dl_601 : decode code 601 = .ok (.iaload, 1) := by decide +kernel
theorem dl_602 : decode code 602 = .ok (.invokevirtual 75, 3) := by decide +kernel
theorem dl_605 : decode code 605 = .ok (.aload_n 2, 1) := by decide +kernel
theorem dl_606 : decode code 606 = .ok (.aload_n 0, 1) := by decide +kernel
theorem dl_607 : decode code 607 = .ok (.iload_n 3, 1) := by decide +kernel
theorem dl_608 : decode code 608 = .ok (.iconst 1, 1) := by decide +kernel
theorem dl_609 : decode code 609 = .ok (.iadd, 1) := by decide +kernel
theorem dl_610 : decode code 610 = .ok (.iaload, 1) := by decide +kernel
theorem dl_611 : decode code 611 = .ok (.invokevirtual 78, 3) := by decide +kernel
theorem dl_614 : decode code 614 = .ok (.if_icmp .eq 463, 3) := by decide +kernel
theorem dl_617 : decode code 617 = .ok (.iconst 0, 1) := by decide +kernel
theorem dl_618 : decode code 618 = .ok (.ireturn, 1) := by decide +kernel
theorem dl_619 : decode code 619 = .ok (.aload_n 1, 1) := by decide +kernel
theorem dl_620 : decode code 620 = .ok (.aload_n 0, 1) := by decide +kernel
theorem dl_621 : decode code 621 = .ok (.iload_n 3, 1) := by decide +kernel
theorem dl_622 : decode code 622 = .ok (.iconst 1, 1) := by decide +kernel
theorem dl_623 : decode code 623 = .ok (.iadd, 1) := by decide +kernel
theorem dl_624 : decode code 624 = .ok (.iaload, 1) := by decide +kernel
theorem dl_625 : decode code 625 = .ok (.invokevirtual 79, 3) := by decide +kernel
theorem dl_628 : decode code 628 = .ok (.aload_n 2, 1) := by decide +kernel
theorem dl_629 : decode code 629 = .ok (.aload_n 0, 1) := by decide +kernel
theorem dl_630 : decode code 630 = .ok (.iload_n 3, 1) := by decide +kernel
theorem dl_631 : decode code 631 = .ok (.iconst 1, 1) := by decide +kernel
theorem dl_632 : decode code 632 = .ok (.iadd, 1) := by decide +kernel
theorem dl_633 : decode code 633 = .ok (.iaload, 1) := by decide +kernel
theorem dl_634 : decode code 634 = .ok (.invokevirtual 82, 3) := by decide +kernel
theorem dl_637 : decode code 637 = .ok (.if_icmp .eq 440, 3) := by decide +kernel
theorem dl_640 : decode code 640 = .ok (.iconst 0, 1) := by decide +kernel
theorem dl_641 : decode code 641 = .ok (.ireturn, 1) := by decide +kernel
theorem dl_642 : decode code 642 = .ok (.aload_n 1, 1) := by decide +kernel
theorem dl_643 : decode code 643 = .ok (.aload_n 0, 1) := by decide +kernel
theorem dl_644 : decode code 644 = .ok (.iload_n 3, 1) := by decide +kernel
theorem dl_645 : decode code 645 = .ok (.iconst 1, 1) := by decide +kernel
theorem dl_646 : decode code 646 = .ok (.iadd, 1) := by decide +kernel
theorem dl_647 : decode code 647 = .ok (.iaload, 1) := by decide +kernel
theorem dl_648 : decode code 648 = .ok (.aload_n 0, 1) := by decide +kernel
theorem dl_649 : decode code 649 = .ok (.iload_n 3, 1) := by decide +kernel
theorem dl_650 : decode code 650 = .ok (.iconst 2, 1) := by decide +kernel
theorem dl_651 : decode code 651 = .ok (.iadd, 1) := by decide +kernel
theorem dl_652 : decode code 652 = .ok (.iaload, 1) := by decide +kernel
theorem dl_653 : decode code 653 = .ok (.aload_n 0, 1) := by decide +kernel
theorem dl_654 : decode code 654 = .ok (.iload_n 3, 1) := by decide +kernel
theorem dl_655 : decode code 655 = .ok (.iconst 3, 1) := by decide +kernel
theorem dl_656 : decode code 656 = .ok (.iadd, 1) := by decide +kernel
theorem dl_657 : decode code 657 = .ok (.iaload, 1) := by decide +kernel
theorem dl_658 : decode code 658 = .ok (.ifCond .eq 7, 3) := by decide +kernel
theorem dl_661 : decode code 661 = .ok (.iconst 1, 1) := by decide +kernel
theorem dl_662 : decode code 662 = .ok (.goto 4, 3) := by decide +kernel
theorem dl_665 : decode code 665 = .ok (.iconst 0, 1) := by decide +kernel
theorem dl_666 : decode code 666 = .ok (.aload_n 0, 1) := by decide +kernel
theorem dl_667 : decode code 667 = .ok (.iload_n 3, 1) := by decide +kernel
theorem dl_668 : decode code 668 = .ok (.iconst 4, 1) := by decide +kernel
theorem dl_669 : decode code 669 = .ok (.iadd, 1) := by decide +kernel
theorem dl_670 : decode code 670 = .ok (.iaload, 1) := by decide +kernel
theorem dl_671 : decode code 671 = .ok (.invokevirtual 83, 3) := by decide +kernel
theorem dl_674 : decode code 674 = .ok (.aload_n 2, 1) := by decide +kernel
theorem dl_675 : decode code 675 = .ok (.aload_n 0, 1) := by decide +kernel
theorem dl_676 : decode code 676 = .ok (.iload_n 3, 1) := by decide +kernel
theorem dl_677 : decode code 677 = .ok (.iconst 1, 1) := by decide +kernel
theorem dl_678 : decode code 678 = .ok (.iadd, 1) := by decide +kernel
theorem dl_679 : decode code 679 = .ok (.iaload, 1) := by decide +kernel
theorem dl_680 : decode code 680 = .ok (.aload_n 0, 1) := by decide +kernel
theorem dl_681 : decode code 681 = .ok (.iload_n 3, 1) := by decide +kernel
theorem dl_682 : decode code 682 = .ok (.iconst 2, 1) := by decide +kernel
theorem dl_683 : decode code 683 = .ok (.iadd, 1) := by decide +kernel
theorem dl_684 : decode code 684 = .ok (.iaload, 1) := by decide +kernel
theorem dl_685 : decode code 685 = .ok (.aload_n 0, 1) := by decide +kernel
theorem dl_686 : decode code 686 = .ok (.iload_n 3, 1) := by decide +kernel
theorem dl_687 : decode code 687 = .ok (.iconst 3, 1) := by decide +kernel
theorem dl_688 : decode code 688 = .ok (.iadd, 1) := by decide +kernel
theorem dl_689 : decode code 689 = .ok (.iaload, 1) := by decide +kernel
theorem dl_690 : decode code 690 = .ok (.ifCond .eq 7, 3) := by decide +kernel
theorem dl_693 : decode code 693 = .ok (.iconst 1, 1) := by decide +kernel
theorem dl_694 : decode code 694 = .ok (.goto 4, 3) := by decide +kernel
theorem dl_697 : decode code 697 = .ok (.iconst 0, 1) := by decide +kernel
theorem dl_698 : decode code 698 = .ok (.aload_n 0, 1) := by decide +kernel
theorem dl_699 : decode code 699 = .ok (.iload_n 3, 1) := by decide +kernel
theorem dl_700 : decode code 700 = .ok (.iconst 4, 1) := by decide +kernel
theorem dl_701 : decode code 701 = .ok (.iadd, 1) := by decide +kernel
theorem dl_702 : decode code 702 = .ok (.iaload, 1) := by decide +kernel
theorem dl_703 : decode code 703 = .ok (.invokevirtual 87, 3) := by decide +kernel
theorem dl_706 : decode code 706 = .ok (.if_icmp .eq 371, 3) := by decide +kernel
theorem dl_709 : decode code 709 = .ok (.iconst 0, 1) := by decide +kernel
theorem dl_710 : decode code 710 = .ok (.ireturn, 1) := by decide +kernel
theorem dl_711 : decode code 711 = .ok (.aload_n 1, 1) := by decide +kernel
theorem dl_712 : decode code 712 = .ok (.aload_n 0, 1) := by decide +kernel
theorem dl_713 : decode code 713 = .ok (.iload_n 3, 1) := by decide +kernel
theorem dl_714 : decode code 714 = .ok (.iconst 1, 1) := by decide +kernel
theorem dl_715 : decode code 715 = .ok (.iadd, 1) := by decide +kernel
theorem dl_716 : decode code 716 = .ok (.iaload, 1) := by decide +kernel
theorem dl_717 : decode code 717 = .ok (.aload_n 0, 1) := by decide +kernel
theorem dl_718 : decode code 718 = .ok (.iload_n 3, 1) := by decide +kernel
theorem dl_719 : decode code 719 = .ok (.iconst 2, 1) := by decide +kernel
theorem dl_720 : decode code 720 = .ok (.iadd, 1) := by decide +kernel
theorem dl_721 : decode code 721 = .ok (.iaload, 1) := by decide +kernel
theorem dl_722 : decode code 722 = .ok (.aload_n 0, 1) := by decide +kernel
theorem dl_723 : decode code 723 = .ok (.iload_n 3, 1) := by decide +kernel
theorem dl_724 : decode code 724 = .ok (.iconst 3, 1) := by decide +kernel
theorem dl_725 : decode code 725 = .ok (.iadd, 1) := by decide +kernel
theorem dl_726 : decode code 726 = .ok (.iaload, 1) := by decide +kernel
theorem dl_727 : decode code 727 = .ok (.invokevirtual 88, 3) := by decide +kernel
theorem dl_730 : decode code 730 = .ok (.aload_n 2, 1) := by decide +kernel
theorem dl_731 : decode code 731 = .ok (.aload_n 0, 1) := by decide +kernel
theorem dl_732 : decode code 732 = .ok (.iload_n 3, 1) := by decide +kernel
theorem dl_733 : decode code 733 = .ok (.iconst 1, 1) := by decide +kernel
theorem dl_734 : decode code 734 = .ok (.iadd, 1) := by decide +kernel
theorem dl_735 : decode code 735 = .ok (.iaload, 1) := by decide +kernel
theorem dl_736 : decode code 736 = .ok (.aload_n 0, 1) := by decide +kernel
theorem dl_737 : decode code 737 = .ok (.iload_n 3, 1) := by decide +kernel
theorem dl_738 : decode code 738 = .ok (.iconst 2, 1) := by decide +kernel
theorem dl_739 : decode code 739 = .ok (.iadd, 1) := by decide +kernel
theorem dl_740 : decode code 740 = .ok (.iaload, 1) := by decide +kernel
theorem dl_741 : decode code 741 = .ok (.aload_n 0, 1) := by decide +kernel
theorem dl_742 : decode code 742 = .ok (.iload_n 3, 1) := by decide +kernel
theorem dl_743 : decode code 743 = .ok (.iconst 3, 1) := by decide +kernel
theorem dl_744 : decode code 744 = .ok (.iadd, 1) := by decide +kernel
theorem dl_745 : decode code 745 = .ok (.iaload, 1) := by decide +kernel
theorem dl_746 : decode code 746 = .ok (.invokevirtual 91, 3) := by decide +kernel
theorem dl_749 : decode code 749 = .ok (.if_icmp .eq 328, 3) := by decide +kernel
theorem dl_752 : decode code 752 = .ok (.iconst 0, 1) := by decide +kernel
theorem dl_753 : decode code 753 = .ok (.ireturn, 1) := by decide +kernel
theorem dl_754 : decode code 754 = .ok (.aload_n 1, 1) := by decide +kernel
theorem dl_755 : decode code 755 = .ok (.aload_n 0, 1) := by decide +kernel
theorem dl_756 : decode code 756 = .ok (.iload_n 3, 1) := by decide +kernel
theorem dl_757 : decode code 757 = .ok (.iconst 1, 1) := by decide +kernel
theorem dl_758 : decode code 758 = .ok (.iadd, 1) := by decide +kernel
theorem dl_759 : decode code 759 = .ok (.iaload, 1) := by decide +kernel
theorem dl_760 : decode code 760 = .ok (.aload_n 0, 1) := by decide +kernel
theorem dl_761 : decode code 761 = .ok (.iload_n 3, 1) := by decide +kernel
theorem dl_762 : decode code 762 = .ok (.iconst 2, 1) := by decide +kernel
theorem dl_763 : decode code 763 = .ok (.iadd, 1) := by decide +kernel
theorem dl_764 : decode code 764 = .ok (.iaload, 1) := by decide +kernel
theorem dl_765 : decode code 765 = .ok (.invokevirtual 92, 3) := by decide +kernel
theorem dl_768 : decode code 768 = .ok (.aload_n 2, 1) := by decide +kernel
theorem dl_769 : decode code 769 = .ok (.aload_n 0, 1) := by decide +kernel
theorem dl_770 : decode code 770 = .ok (.iload_n 3, 1) := by decide +kernel
theorem dl_771 : decode code 771 = .ok (.iconst 1, 1) := by decide +kernel
theorem dl_772 : decode code 772 = .ok (.iadd, 1) := by decide +kernel
theorem dl_773 : decode code 773 = .ok (.iaload, 1) := by decide +kernel
theorem dl_774 : decode code 774 = .ok (.aload_n 0, 1) := by decide +kernel
theorem dl_775 : decode code 775 = .ok (.iload_n 3, 1) := by decide +kernel
theorem dl_776 : decode code 776 = .ok (.iconst 2, 1) := by decide +kernel
theorem dl_777 : decode code 777 = .ok (.iadd, 1) := by decide +kernel
theorem dl_778 : decode code 778 = .ok (.iaload, 1) := by decide +kernel
theorem dl_779 : decode code 779 = .ok (.invokevirtual 95, 3) := by decide +kernel
theorem dl_782 : decode code 782 = .ok (.if_icmp .eq 295, 3) := by decide +kernel
theorem dl_785 : decode code 785 = .ok (.iconst 0, 1) := by decide +kernel
theorem dl_786 : decode code 786 = .ok (.ireturn, 1) := by decide +kernel
theorem dl_787 : decode code 787 = .ok (.aload_n 1, 1) := by decide +kernel
theorem dl_788 : decode code 788 = .ok (.aload_n 0, 1) := by decide +kernel
theorem dl_789 : decode code 789 = .ok (.iload_n 3, 1) := by decide +kernel
theorem dl_790 : decode code 790 = .ok (.iconst 1, 1) := by decide +kernel
theorem dl_791 : decode code 791 = .ok (.iadd, 1) := by decide +kernel
theorem dl_792 : decode code 792 = .ok (.iaload, 1) := by decide +kernel
theorem dl_793 : decode code 793 = .ok (.aload_n 0, 1) := by decide +kernel
theorem dl_794 : decode code 794 = .ok (.iload_n 3, 1) := by decide +kernel
theorem dl_795 : decode code 795 = .ok (.iconst 2, 1) := by decide +kernel
theorem dl_796 : decode code 796 = .ok (.iadd, 1) := by decide +kernel
theorem dl_797 : decode code 797 = .ok (.iaload, 1) := by decide +kernel
theorem dl_798 : decode code 798 = .ok (.aload_n 0, 1) := by decide +kernel
theorem dl_799 : decode code 799 = .ok (.iload_n 3, 1) := by decide +kernel
theorem dl_800 : decode code 800 = .ok (.iconst 3, 1) := by decide +kernel
theorem dl_801 : decode code 801 = .ok (.iadd, 1) := by decide +kernel
theorem dl_802 : decode code 802 = .ok (.iaload, 1) := by decide +kernel
theorem dl_803 : decode code 803 = .ok (.invokevirtual 96, 3) := by decide +kernel
theorem dl_806 : decode code 806 = .ok (.aload_n 2, 1) := by decide +kernel
theorem dl_807 : decode code 807 = .ok (.aload_n 0, 1) := by decide +kernel
theorem dl_808 : decode code 808 = .ok (.iload_n 3, 1) := by decide +kernel
theorem dl_809 : decode code 809 = .ok (.iconst 1, 1) := by decide +kernel
theorem dl_810 : decode code 810 = .ok (.iadd, 1) := by decide +kernel
theorem dl_811 : decode code 811 = .ok (.iaload, 1) := by decide +kernel
theorem dl_812 : decode code 812 = .ok (.aload_n 0, 1) := by decide +kernel
theorem dl_813 : decode code 813 = .ok (.iload_n 3, 1) := by decide +kernel
theorem dl_814 : decode code 814 = .ok (.iconst 2, 1) := by decide +kernel
theorem dl_815 : decode code 815 = .ok (.iadd, 1) := by decide +kernel
theorem dl_816 : decode code 816 = .ok (.iaload, 1) := by decide +kernel
theorem dl_817 : decode code 817 = .ok (.aload_n 0, 1) := by decide +kernel
theorem dl_818 : decode code 818 = .ok (.iload_n 3, 1) := by decide +kernel
theorem dl_819 : decode code 819 = .ok (.iconst 3, 1) := by decide +kernel
theorem dl_820 : decode code 820 = .ok (.iadd, 1) := by decide +kernel
theorem dl_821 : decode code 821 = .ok (.iaload, 1) := by decide +kernel
theorem dl_822 : decode code 822 = .ok (.invokevirtual 99, 3) := by decide +kernel
theorem dl_825 : decode code 825 = .ok (.if_icmp .eq 252, 3) := by decide +kernel
theorem dl_828 : decode code 828 = .ok (.iconst 0, 1) := by decide +kernel
theorem dl_829 : decode code 829 = .ok (.ireturn, 1) := by decide +kernel
theorem dl_830 : decode code 830 = .ok (.aload_n 1, 1) := by decide +kernel
theorem dl_831 : decode code 831 = .ok (.aload_n 0, 1) := by decide +kernel
theorem dl_832 : decode code 832 = .ok (.iload_n 3, 1) := by decide +kernel
theorem dl_833 : decode code 833 = .ok (.iconst 1, 1) := by decide +kernel
theorem dl_834 : decode code 834 = .ok (.iadd, 1) := by decide +kernel
theorem dl_835 : decode code 835 = .ok (.iaload, 1) := by decide +kernel
theorem dl_836 : decode code 836 = .ok (.aload_n 0, 1) := by decide +kernel
theorem dl_837 : decode code 837 = .ok (.iload_n 3, 1) := by decide +kernel
theorem dl_838 : decode code 838 = .ok (.iconst 2, 1) := by decide +kernel
theorem dl_839 : decode code 839 = .ok (.iadd, 1) := by decide +kernel
theorem dl_840 : decode code 840 = .ok (.iaload, 1) := by decide +kernel
theorem dl_841 : decode code 841 = .ok (.aload_n 0, 1) := by decide +kernel
theorem dl_842 : decode code 842 = .ok (.iload_n 3, 1) := by decide +kernel
theorem dl_843 : decode code 843 = .ok (.iconst 3, 1) := by decide +kernel
theorem dl_844 : decode code 844 = .ok (.iadd, 1) := by decide +kernel
theorem dl_845 : decode code 845 = .ok (.iaload, 1) := by decide +kernel
theorem dl_846 : decode code 846 = .ok (.invokevirtual 100, 3) := by decide +kernel
theorem dl_849 : decode code 849 = .ok (.aload_n 2, 1) := by decide +kernel
theorem dl_850 : decode code 850 = .ok (.aload_n 0, 1) := by decide +kernel
theorem dl_851 : decode code 851 = .ok (.iload_n 3, 1) := by decide +kernel
theorem dl_852 : decode code 852 = .ok (.iconst 1, 1) := by decide +kernel
theorem dl_853 : decode code 853 = .ok (.iadd, 1) := by decide +kernel
theorem dl_854 : decode code 854 = .ok (.iaload, 1) := by decide +kernel
theorem dl_855 : decode code 855 = .ok (.aload_n 0, 1) := by decide +kernel
theorem dl_856 : decode code 856 = .ok (.iload_n 3, 1) := by decide +kernel
theorem dl_857 : decode code 857 = .ok (.iconst 2, 1) := by decide +kernel
theorem dl_858 : decode code 858 = .ok (.iadd, 1) := by decide +kernel
theorem dl_859 : decode code 859 = .ok (.iaload, 1) := by decide +kernel
theorem dl_860 : decode code 860 = .ok (.aload_n 0, 1) := by decide +kernel
theorem dl_861 : decode code 861 = .ok (.iload_n 3, 1) := by decide +kernel
theorem dl_862 : decode code 862 = .ok (.iconst 3, 1) := by decide +kernel
theorem dl_863 : decode code 863 = .ok (.iadd, 1) := by decide +kernel
theorem dl_864 : decode code 864 = .ok (.iaload, 1) := by decide +kernel
theorem dl_865 : decode code 865 = .ok (.invokevirtual 103, 3) := by decide +kernel
theorem dl_868 : decode code 868 = .ok (.if_icmp .eq 209, 3) := by decide +kernel
theorem dl_871 : decode code 871 = .ok (.iconst 0, 1) := by decide +kernel
theorem dl_872 : decode code 872 = .ok (.ireturn, 1) := by decide +kernel
theorem dl_873 : decode code 873 = .ok (.aload_n 1, 1) := by decide +kernel
theorem dl_874 : decode code 874 = .ok (.aload_n 0, 1) := by decide +kernel
theorem dl_875 : decode code 875 = .ok (.iload_n 3, 1) := by decide +kernel
theorem dl_876 : decode code 876 = .ok (.iconst 1, 1) := by decide +kernel
theorem dl_877 : decode code 877 = .ok (.iadd, 1) := by decide +kernel
theorem dl_878 : decode code 878 = .ok (.iaload, 1) := by decide +kernel
theorem dl_879 : decode code 879 = .ok (.aload_n 0, 1) := by decide +kernel
theorem dl_880 : decode code 880 = .ok (.iload_n 3, 1) := by decide +kernel
theorem dl_881 : decode code 881 = .ok (.iconst 2, 1) := by decide +kernel
theorem dl_882 : decode code 882 = .ok (.iadd, 1) := by decide +kernel
theorem dl_883 : decode code 883 = .ok (.iaload, 1) := by decide +kernel
theorem dl_884 : decode code 884 = .ok (.aload_n 0, 1) := by decide +kernel
theorem dl_885 : decode code 885 = .ok (.iload_n 3, 1) := by decide +kernel
theorem dl_886 : decode code 886 = .ok (.iconst 3, 1) := by decide +kernel
theorem dl_887 : decode code 887 = .ok (.iadd, 1) := by decide +kernel
theorem dl_888 : decode code 888 = .ok (.iaload, 1) := by decide +kernel
theorem dl_889 : decode code 889 = .ok (.invokevirtual 104, 3) := by decide +kernel
theorem dl_892 : decode code 892 = .ok (.aload_n 2, 1) := by decide +kernel
theorem dl_893 : decode code 893 = .ok (.aload_n 0, 1) := by decide +kernel
theorem dl_894 : decode code 894 = .ok (.iload_n 3, 1) := by decide +kernel
theorem dl_895 : decode code 895 = .ok (.iconst 1, 1) := by decide +kernel
theorem dl_896 : decode code 896 = .ok (.iadd, 1) := by decide +kernel
theorem dl_897 : decode code 897 = .ok (.iaload, 1) := by decide +kernel
theorem dl_898 : decode code 898 = .ok (.aload_n 0, 1) := by decide +kernel
theorem dl_899 : decode code 899 = .ok (.iload_n 3, 1) := by decide +kernel
theorem dl_900 : decode code 900 = .ok (.iconst 2, 1) := by decide +kernel
theorem dl_901 : decode code 901 = .ok (.iadd, 1) := by decide +kernel
theorem dl_902 : decode code 902 = .ok (.iaload, 1) := by decide +kernel
theorem dl_903 : decode code 903 = .ok (.aload_n 0, 1) := by decide +kernel
theorem dl_904 : decode code 904 = .ok (.iload_n 3, 1) := by decide +kernel
theorem dl_905 : decode code 905 = .ok (.iconst 3, 1) := by decide +kernel
theorem dl_906 : decode code 906 = .ok (.iadd, 1) := by decide +kernel
theorem dl_907 : decode code 907 = .ok (.iaload, 1) := by decide +kernel
theorem dl_908 : decode code 908 = .ok (.invokevirtual 107, 3) := by decide +kernel
theorem dl_911 : decode code 911 = .ok (.if_icmp .eq 166, 3) := by decide +kernel
theorem dl_914 : decode code 914 = .ok (.iconst 0, 1) := by decide +kernel
theorem dl_915 : decode code 915 = .ok (.ireturn, 1) := by decide +kernel
theorem dl_916 : decode code 916 = .ok (.aload_n 1, 1) := by decide +kernel
theorem dl_917 : decode code 917 = .ok (.aload_n 0, 1) := by decide +kernel
theorem dl_918 : decode code 918 = .ok (.iload_n 3, 1) := by decide +kernel
theorem dl_919 : decode code 919 = .ok (.iconst 1, 1) := by decide +kernel
theorem dl_920 : decode code 920 = .ok (.iadd, 1) := by decide +kernel
theorem dl_921 : decode code 921 = .ok (.iaload, 1) := by decide +kernel
theorem dl_922 : decode code 922 = .ok (.aload_n 0, 1) := by decide +kernel
theorem dl_923 : decode code 923 = .ok (.iload_n 3, 1) := by decide +kernel
theorem dl_924 : decode code 924 = .ok (.iconst 2, 1) := by decide +kernel
theorem dl_925 : decode code 925 = .ok (.iadd, 1) := by decide +kernel
theorem dl_926 : decode code 926 = .ok (.iaload, 1) := by decide +kernel
theorem dl_927 : decode code 927 = .ok (.invokevirtual 108, 3) := by decide +kernel
theorem dl_930 : decode code 930 = .ok (.aload_n 2, 1) := by decide +kernel
theorem dl_931 : decode code 931 = .ok (.aload_n 0, 1) := by decide +kernel
theorem dl_932 : decode code 932 = .ok (.iload_n 3, 1) := by decide +kernel
theorem dl_933 : decode code 933 = .ok (.iconst 1, 1) := by decide +kernel
theorem dl_934 : decode code 934 = .ok (.iadd, 1) := by decide +kernel
theorem dl_935 : decode code 935 = .ok (.iaload, 1) := by decide +kernel
theorem dl_936 : decode code 936 = .ok (.aload_n 0, 1) := by decide +kernel
theorem dl_937 : decode code 937 = .ok (.iload_n 3, 1) := by decide +kernel
theorem dl_938 : decode code 938 = .ok (.iconst 2, 1) := by decide +kernel
theorem dl_939 : decode code 939 = .ok (.iadd, 1) := by decide +kernel
theorem dl_940 : decode code 940 = .ok (.iaload, 1) := by decide +kernel
theorem dl_941 : decode code 941 = .ok (.invokevirtual 111, 3) := by decide +kernel
theorem dl_944 : decode code 944 = .ok (.if_icmp .eq 133, 3) := by decide +kernel
theorem dl_947 : decode code 947 = .ok (.iconst 0, 1) := by decide +kernel
theorem dl_948 : decode code 948 = .ok (.ireturn, 1) := by decide +kernel
theorem dl_949 : decode code 949 = .ok (.aload_n 1, 1) := by decide +kernel
theorem dl_950 : decode code 950 = .ok (.aload_n 0, 1) := by decide +kernel
theorem dl_951 : decode code 951 = .ok (.iload_n 3, 1) := by decide +kernel
theorem dl_952 : decode code 952 = .ok (.iconst 1, 1) := by decide +kernel
theorem dl_953 : decode code 953 = .ok (.iadd, 1) := by decide +kernel
theorem dl_954 : decode code 954 = .ok (.iaload, 1) := by decide +kernel
theorem dl_955 : decode code 955 = .ok (.aload_n 0, 1) := by decide +kernel
theorem dl_956 : decode code 956 = .ok (.iload_n 3, 1) := by decide +kernel
theorem dl_957 : decode code 957 = .ok (.iconst 2, 1) := by decide +kernel
theorem dl_958 : decode code 958 = .ok (.iadd, 1) := by decide +kernel
theorem dl_959 : decode code 959 = .ok (.iaload, 1) := by decide +kernel
theorem dl_960 : decode code 960 = .ok (.invokevirtual 112, 3) := by decide +kernel
theorem dl_963 : decode code 963 = .ok (.aload_n 2, 1) := by decide +kernel
theorem dl_964 : decode code 964 = .ok (.aload_n 0, 1) := by decide +kernel
theorem dl_965 : decode code 965 = .ok (.iload_n 3, 1) := by decide +kernel
theorem dl_966 : decode code 966 = .ok (.iconst 1, 1) := by decide +kernel
theorem dl_967 : decode code 967 = .ok (.iadd, 1) := by decide +kernel
theorem dl_968 : decode code 968 = .ok (.iaload, 1) := by decide +kernel
theorem dl_969 : decode code 969 = .ok (.aload_n 0, 1) := by decide +kernel
theorem dl_970 : decode code 970 = .ok (.iload_n 3, 1) := by decide +kernel
theorem dl_971 : decode code 971 = .ok (.iconst 2, 1) := by decide +kernel
theorem dl_972 : decode code 972 = .ok (.iadd, 1) := by decide +kernel
theorem dl_973 : decode code 973 = .ok (.iaload, 1) := by decide +kernel
theorem dl_974 : decode code 974 = .ok (.invokevirtual 115, 3) := by decide +kernel
theorem dl_977 : decode code 977 = .ok (.if_icmp .eq 100, 3) := by decide +kernel
theorem dl_980 : decode code 980 = .ok (.iconst 0, 1) := by decide +kernel
theorem dl_981 : decode code 981 = .ok (.ireturn, 1) := by decide +kernel
theorem dl_982 : decode code 982 = .ok (.aload_n 1, 1) := by decide +kernel
theorem dl_983 : decode code 983 = .ok (.aload_n 0, 1) := by decide +kernel
theorem dl_984 : decode code 984 = .ok (.iload_n 3, 1) := by decide +kernel
theorem dl_985 : decode code 985 = .ok (.iconst 1, 1) := by decide +kernel
theorem dl_986 : decode code 986 = .ok (.iadd, 1) := by decide +kernel
theorem dl_987 : decode code 987 = .ok (.iaload, 1) := by decide +kernel
theorem dl_988 : decode code 988 = .ok (.invokevirtual 116, 3) := by decide +kernel
theorem dl_991 : decode code 991 = .ok (.aload_n 2, 1) := by decide +kernel
theorem dl_992 : decode code 992 = .ok (.aload_n 0, 1) := by decide +kernel
theorem dl_993 : decode code 993 = .ok (.iload_n 3, 1) := by decide +kernel
theorem dl_994 : decode code 994 = .ok (.iconst 1, 1) := by decide +kernel
theorem dl_995 : decode code 995 = .ok (.iadd, 1) := by decide +kernel
theorem dl_996 : decode code 996 = .ok (.iaload, 1) := by decide +kernel
theorem dl_997 : decode code 997 = .ok (.invokevirtual 120, 3) := by decide +kernel
theorem dl_1000 : decode code 1000 = .ok (.if_icmp .eq 77, 3) := by decide +kernel
theorem dl_1003 : decode code 1003 = .ok (.iconst 0, 1) := by decide +kernel
theorem dl_1004 : decode code 1004 = .ok (.ireturn, 1) := by decide +kernel
theorem dl_1005 : decode code 1005 = .ok (.aload_n 1, 1) := by decide +kernel
theorem dl_1006 : decode code 1006 = .ok (.invokevirtual 121, 3) := by decide +kernel
theorem dl_1009 : decode code 1009 = .ok (.aload_n 2, 1) := by decide +kernel
theorem dl_1010 : decode code 1010 = .ok (.invokevirtual 124, 3) := by decide +kernel
theorem dl_1013 : decode code 1013 = .ok (.if_icmp .eq 64, 3) := by decide +kernel
theorem dl_1016 : decode code 1016 = .ok (.iconst 0, 1) := by decide +kernel
theorem dl_1017 : decode code 1017 = .ok (.ireturn, 1) := by decide +kernel
theorem dl_1018 : decode code 1018 = .ok (.aload_n 1, 1) := by decide +kernel
theorem dl_1019 : decode code 1019 = .ok (.invokevirtual 125, 3) := by decide +kernel
theorem dl_1022 : decode code 1022 = .ok (.aload_n 2, 1) := by decide +kernel
theorem dl_1023 : decode code 1023 = .ok (.invokevirtual 129, 3) := by decide +kernel
theorem dl_1026 : decode code 1026 = .ok (.if_icmp .eq 51, 3) := by decide +kernel
theorem dl_1029 : decode code 1029 = .ok (.iconst 0, 1) := by decide +kernel
theorem dl_1030 : decode code 1030 = .ok (.ireturn, 1) := by decide +kernel
theorem dl_1031 : decode code 1031 = .ok (.aload_n 1, 1) := by decide +kernel
theorem dl_1032 : decode code 1032 = .ok (.aload_n 0, 1) := by decide +kernel
theorem dl_1033 : decode code 1033 = .ok (.iload_n 3, 1) := by decide +kernel
theorem dl_1034 : decode code 1034 = .ok (.iconst 1, 1) := by decide +kernel
theorem dl_1035 : decode code 1035 = .ok (.iadd, 1) := by decide +kernel
theorem dl_1036 : decode code 1036 = .ok (.iaload, 1) := by decide +kernel
theorem dl_1037 : decode code 1037 = .ok (.invokevirtual 130, 3) := by decide +kernel
theorem dl_1040 : decode code 1040 = .ok (.aload_n 2, 1) := by decide +kernel
theorem dl_1041 : decode code 1041 = .ok (.aload_n 0, 1) := by decide +kernel
theorem dl_1042 : decode code 1042 = .ok (.iload_n 3, 1) := by decide +kernel
theorem dl_1043 : decode code 1043 = .ok (.iconst 1, 1) := by decide +kernel
theorem dl_1044 : decode code 1044 = .ok (.iadd, 1) := by decide +kernel
theorem dl_1045 : decode code 1045 = .ok (.iaload, 1) := by decide +kernel
theorem dl_1046 : decode code 1046 = .ok (.invokevirtual 133, 3) := by decide +kernel
theorem dl_1049 : decode code 1049 = .ok (.if_icmp .eq 28, 3) := by decide +kernel
theorem dl_1052 : decode code 1052 = .ok (.iconst 0, 1) := by decide +kernel
theorem dl_1053 : decode code 1053 = .ok (.ireturn, 1) := by decide +kernel
theorem dl_1054 : decode code 1054 = .ok (.aload_n 1, 1) := by decide +kernel
theorem dl_1055 : decode code 1055 = .ok (.aload_n 0, 1) := by decide +kernel
theorem dl_1056 : decode code 1056 = .ok (.iload_n 3, 1) := by decide +kernel
theorem dl_1057 : decode code 1057 = .ok (.iconst 1, 1) := by decide +kernel
theorem dl_1058 : decode code 1058 = .ok (.iadd, 1) := by decide +kernel
theorem dl_1059 : decode code 1059 = .ok (.iaload, 1) := by decide +kernel
theorem dl_1060 : decode code 1060 = .ok (.invokevirtual 134, 3) := by decide +kernel
theorem dl_1063 : decode code 1063 = .ok (.aload_n 2, 1) := by decide +kernel
theorem dl_1064 : decode code 1064 = .ok (.aload_n 0, 1) := by decide +kernel
theorem dl_1065 : decode code 1065 = .ok (.iload_n 3, 1) := by decide +kernel
theorem dl_1066 : decode code 1066 = .ok (.iconst 1, 1) := by decide +kernel
theorem dl_1067 : decode code 1067 = .ok (.iadd, 1) := by decide +kernel
theorem dl_1068 : decode code 1068 = .ok (.iaload, 1) := by decide +kernel
theorem dl_1069 : decode code 1069 = .ok (.invokevirtual 137, 3) := by decide +kernel
theorem dl_1072 : decode code 1072 = .ok (.if_icmp .eq 5, 3) := by decide +kernel
theorem dl_1075 : decode code 1075 = .ok (.iconst 0, 1) := by decide +kernel
theorem dl_1076 : decode code 1076 = .ok (.ireturn, 1) := by decide +kernel
theorem dl_1077 : decode code 1077 = .ok (.iinc 3 6, 3) := by decide +kernel
theorem dl_1080 : decode code 1080 = .ok (.goto (-1062), 3) := by decide +kernel
theorem dl_1083 : decode code 1083 = .ok (.iconst 1, 1) := by decide +kernel
theorem dl_1084 : decode code 1084 = .ok (.ireturn, 1) := by decide +kernel
