/-! THE LAW: its instructions, and its links (written by wip/whole/gen/lawgen.py) -/
theorem dL_18 : decode code 18 = .ok (.iload_n 3, 1) := by decide +kernel
theorem dL_19 : decode code 19 = .ok (.aload_n 0, 1) := by decide +kernel
theorem dL_20 : decode code 20 = .ok (.arraylength, 1) := by decide +kernel
theorem dL_21 : decode code 21 = .ok (.iconst 4, 1) := by decide +kernel
theorem dL_22 : decode code 22 = .ok (.isub, 1) := by decide +kernel
theorem dL_23 : decode code 23 = .ok (.if_icmp .gt 911, 3) := by decide +kernel
theorem dL_26 : decode code 26 = .ok (.aload_n 0, 1) := by decide +kernel
theorem dL_27 : decode code 27 = .ok (.iload_n 3, 1) := by decide +kernel
theorem dL_28 : decode code 28 = .ok (.iaload, 1) := by decide +kernel
theorem dL_29 : decode code 29 = .ok (.bipush 31, 2) := by decide +kernel
theorem dL_31 : decode code 31 = .ok (.iand, 1) := by decide +kernel
theorem dL_32 : decode code 32 = .ok (.tableswitch 896 0 25 #[120, 143, 186, 229, 262, 285, 328, 351, 384, 417, 450, 473, 486, 519, 552, 605, 646, 669, 712, 755, 778, 801, 814, 827, 850, 873], 120) := by decide +kernel
theorem dL_152 : decode code 152 = .ok (.aload_n 1, 1) := by decide +kernel
theorem dL_153 : decode code 153 = .ok (.aload_n 0, 1) := by decide +kernel
theorem dL_154 : decode code 154 = .ok (.iload_n 3, 1) := by decide +kernel
theorem dL_155 : decode code 155 = .ok (.iconst 1, 1) := by decide +kernel
theorem dL_156 : decode code 156 = .ok (.iadd, 1) := by decide +kernel
theorem dL_157 : decode code 157 = .ok (.iaload, 1) := by decide +kernel
theorem dL_158 : decode code 158 = .ok (.invokevirtual 13, 3) := by decide +kernel
theorem dL_161 : decode code 161 = .ok (.aload_n 2, 1) := by decide +kernel
theorem dL_162 : decode code 162 = .ok (.aload_n 0, 1) := by decide +kernel
theorem dL_163 : decode code 163 = .ok (.iload_n 3, 1) := by decide +kernel
theorem dL_164 : decode code 164 = .ok (.iconst 1, 1) := by decide +kernel
theorem dL_165 : decode code 165 = .ok (.iadd, 1) := by decide +kernel
theorem dL_166 : decode code 166 = .ok (.iaload, 1) := by decide +kernel
theorem dL_167 : decode code 167 = .ok (.invokevirtual 17, 3) := by decide +kernel
theorem dL_170 : decode code 170 = .ok (.if_icmp .eq 758, 3) := by decide +kernel
theorem dL_175 : decode code 175 = .ok (.aload_n 1, 1) := by decide +kernel
theorem dL_176 : decode code 176 = .ok (.aload_n 0, 1) := by decide +kernel
theorem dL_177 : decode code 177 = .ok (.iload_n 3, 1) := by decide +kernel
theorem dL_178 : decode code 178 = .ok (.iconst 1, 1) := by decide +kernel
theorem dL_179 : decode code 179 = .ok (.iadd, 1) := by decide +kernel
theorem dL_180 : decode code 180 = .ok (.iaload, 1) := by decide +kernel
theorem dL_181 : decode code 181 = .ok (.aload_n 0, 1) := by decide +kernel
theorem dL_182 : decode code 182 = .ok (.iload_n 3, 1) := by decide +kernel
theorem dL_183 : decode code 183 = .ok (.iconst 2, 1) := by decide +kernel
theorem dL_184 : decode code 184 = .ok (.iadd, 1) := by decide +kernel
theorem dL_185 : decode code 185 = .ok (.iaload, 1) := by decide +kernel
theorem dL_186 : decode code 186 = .ok (.aload_n 0, 1) := by decide +kernel
theorem dL_187 : decode code 187 = .ok (.iload_n 3, 1) := by decide +kernel
theorem dL_188 : decode code 188 = .ok (.iconst 3, 1) := by decide +kernel
theorem dL_189 : decode code 189 = .ok (.iadd, 1) := by decide +kernel
theorem dL_190 : decode code 190 = .ok (.iaload, 1) := by decide +kernel
theorem dL_191 : decode code 191 = .ok (.invokevirtual 18, 3) := by decide +kernel
theorem dL_194 : decode code 194 = .ok (.aload_n 2, 1) := by decide +kernel
theorem dL_195 : decode code 195 = .ok (.aload_n 0, 1) := by decide +kernel
theorem dL_196 : decode code 196 = .ok (.iload_n 3, 1) := by decide +kernel
theorem dL_197 : decode code 197 = .ok (.iconst 1, 1) := by decide +kernel
theorem dL_198 : decode code 198 = .ok (.iadd, 1) := by decide +kernel
theorem dL_199 : decode code 199 = .ok (.iaload, 1) := by decide +kernel
theorem dL_200 : decode code 200 = .ok (.aload_n 0, 1) := by decide +kernel
theorem dL_201 : decode code 201 = .ok (.iload_n 3, 1) := by decide +kernel
theorem dL_202 : decode code 202 = .ok (.iconst 2, 1) := by decide +kernel
theorem dL_203 : decode code 203 = .ok (.iadd, 1) := by decide +kernel
theorem dL_204 : decode code 204 = .ok (.iaload, 1) := by decide +kernel
theorem dL_205 : decode code 205 = .ok (.aload_n 0, 1) := by decide +kernel
theorem dL_206 : decode code 206 = .ok (.iload_n 3, 1) := by decide +kernel
theorem dL_207 : decode code 207 = .ok (.iconst 3, 1) := by decide +kernel
theorem dL_208 : decode code 208 = .ok (.iadd, 1) := by decide +kernel
theorem dL_209 : decode code 209 = .ok (.iaload, 1) := by decide +kernel
theorem dL_210 : decode code 210 = .ok (.invokevirtual 22, 3) := by decide +kernel
theorem dL_213 : decode code 213 = .ok (.if_icmp .eq 715, 3) := by decide +kernel
theorem dL_218 : decode code 218 = .ok (.aload_n 1, 1) := by decide +kernel
theorem dL_219 : decode code 219 = .ok (.aload_n 0, 1) := by decide +kernel
theorem dL_220 : decode code 220 = .ok (.iload_n 3, 1) := by decide +kernel
theorem dL_221 : decode code 221 = .ok (.iconst 1, 1) := by decide +kernel
theorem dL_222 : decode code 222 = .ok (.iadd, 1) := by decide +kernel
theorem dL_223 : decode code 223 = .ok (.iaload, 1) := by decide +kernel
theorem dL_224 : decode code 224 = .ok (.aload_n 0, 1) := by decide +kernel
theorem dL_225 : decode code 225 = .ok (.iload_n 3, 1) := by decide +kernel
theorem dL_226 : decode code 226 = .ok (.iconst 2, 1) := by decide +kernel
theorem dL_227 : decode code 227 = .ok (.iadd, 1) := by decide +kernel
theorem dL_228 : decode code 228 = .ok (.iaload, 1) := by decide +kernel
theorem dL_229 : decode code 229 = .ok (.aload_n 0, 1) := by decide +kernel
theorem dL_230 : decode code 230 = .ok (.iload_n 3, 1) := by decide +kernel
theorem dL_231 : decode code 231 = .ok (.iconst 3, 1) := by decide +kernel
theorem dL_232 : decode code 232 = .ok (.iadd, 1) := by decide +kernel
theorem dL_233 : decode code 233 = .ok (.iaload, 1) := by decide +kernel
theorem dL_234 : decode code 234 = .ok (.invokevirtual 23, 3) := by decide +kernel
theorem dL_237 : decode code 237 = .ok (.aload_n 2, 1) := by decide +kernel
theorem dL_238 : decode code 238 = .ok (.aload_n 0, 1) := by decide +kernel
theorem dL_239 : decode code 239 = .ok (.iload_n 3, 1) := by decide +kernel
theorem dL_240 : decode code 240 = .ok (.iconst 1, 1) := by decide +kernel
theorem dL_241 : decode code 241 = .ok (.iadd, 1) := by decide +kernel
theorem dL_242 : decode code 242 = .ok (.iaload, 1) := by decide +kernel
theorem dL_243 : decode code 243 = .ok (.aload_n 0, 1) := by decide +kernel
theorem dL_244 : decode code 244 = .ok (.iload_n 3, 1) := by decide +kernel
theorem dL_245 : decode code 245 = .ok (.iconst 2, 1) := by decide +kernel
theorem dL_246 : decode code 246 = .ok (.iadd, 1) := by decide +kernel
theorem dL_247 : decode code 247 = .ok (.iaload, 1) := by decide +kernel
theorem dL_248 : decode code 248 = .ok (.aload_n 0, 1) := by decide +kernel
theorem dL_249 : decode code 249 = .ok (.iload_n 3, 1) := by decide +kernel
theorem dL_250 : decode code 250 = .ok (.iconst 3, 1) := by decide +kernel
theorem dL_251 : decode code 251 = .ok (.iadd, 1) := by decide +kernel
theorem dL_252 : decode code 252 = .ok (.iaload, 1) := by decide +kernel
theorem dL_253 : decode code 253 = .ok (.invokevirtual 26, 3) := by decide +kernel
theorem dL_256 : decode code 256 = .ok (.if_icmp .eq 672, 3) := by decide +kernel
theorem dL_261 : decode code 261 = .ok (.aload_n 1, 1) := by decide +kernel
theorem dL_262 : decode code 262 = .ok (.aload_n 0, 1) := by decide +kernel
theorem dL_263 : decode code 263 = .ok (.iload_n 3, 1) := by decide +kernel
theorem dL_264 : decode code 264 = .ok (.iconst 1, 1) := by decide +kernel
theorem dL_265 : decode code 265 = .ok (.iadd, 1) := by decide +kernel
theorem dL_266 : decode code 266 = .ok (.iaload, 1) := by decide +kernel
theorem dL_267 : decode code 267 = .ok (.aload_n 0, 1) := by decide +kernel
theorem dL_268 : decode code 268 = .ok (.iload_n 3, 1) := by decide +kernel
theorem dL_269 : decode code 269 = .ok (.iconst 2, 1) := by decide +kernel
theorem dL_270 : decode code 270 = .ok (.iadd, 1) := by decide +kernel
theorem dL_271 : decode code 271 = .ok (.iaload, 1) := by decide +kernel
theorem dL_272 : decode code 272 = .ok (.invokevirtual 27, 3) := by decide +kernel
theorem dL_275 : decode code 275 = .ok (.aload_n 2, 1) := by decide +kernel
theorem dL_276 : decode code 276 = .ok (.aload_n 0, 1) := by decide +kernel
theorem dL_277 : decode code 277 = .ok (.iload_n 3, 1) := by decide +kernel
theorem dL_278 : decode code 278 = .ok (.iconst 1, 1) := by decide +kernel
theorem dL_279 : decode code 279 = .ok (.iadd, 1) := by decide +kernel
theorem dL_280 : decode code 280 = .ok (.iaload, 1) := by decide +kernel
theorem dL_281 : decode code 281 = .ok (.aload_n 0, 1) := by decide +kernel
theorem dL_282 : decode code 282 = .ok (.iload_n 3, 1) := by decide +kernel
theorem dL_283 : decode code 283 = .ok (.iconst 2, 1) := by decide +kernel
theorem dL_284 : decode code 284 = .ok (.iadd, 1) := by decide +kernel
theorem dL_285 : decode code 285 = .ok (.iaload, 1) := by decide +kernel
theorem dL_286 : decode code 286 = .ok (.invokevirtual 31, 3) := by decide +kernel
theorem dL_289 : decode code 289 = .ok (.if_icmp .eq 639, 3) := by decide +kernel
theorem dL_294 : decode code 294 = .ok (.aload_n 1, 1) := by decide +kernel
theorem dL_295 : decode code 295 = .ok (.aload_n 0, 1) := by decide +kernel
theorem dL_296 : decode code 296 = .ok (.iload_n 3, 1) := by decide +kernel
theorem dL_297 : decode code 297 = .ok (.iconst 1, 1) := by decide +kernel
theorem dL_298 : decode code 298 = .ok (.iadd, 1) := by decide +kernel
theorem dL_299 : decode code 299 = .ok (.iaload, 1) := by decide +kernel
theorem dL_300 : decode code 300 = .ok (.invokevirtual 32, 3) := by decide +kernel
theorem dL_303 : decode code 303 = .ok (.aload_n 2, 1) := by decide +kernel
theorem dL_304 : decode code 304 = .ok (.aload_n 0, 1) := by decide +kernel
theorem dL_305 : decode code 305 = .ok (.iload_n 3, 1) := by decide +kernel
theorem dL_306 : decode code 306 = .ok (.iconst 1, 1) := by decide +kernel
theorem dL_307 : decode code 307 = .ok (.iadd, 1) := by decide +kernel
theorem dL_308 : decode code 308 = .ok (.iaload, 1) := by decide +kernel
theorem dL_309 : decode code 309 = .ok (.invokevirtual 35, 3) := by decide +kernel
theorem dL_312 : decode code 312 = .ok (.if_icmp .eq 616, 3) := by decide +kernel
theorem dL_317 : decode code 317 = .ok (.aload_n 1, 1) := by decide +kernel
theorem dL_318 : decode code 318 = .ok (.aload_n 0, 1) := by decide +kernel
theorem dL_319 : decode code 319 = .ok (.iload_n 3, 1) := by decide +kernel
theorem dL_320 : decode code 320 = .ok (.iconst 1, 1) := by decide +kernel
theorem dL_321 : decode code 321 = .ok (.iadd, 1) := by decide +kernel
theorem dL_322 : decode code 322 = .ok (.iaload, 1) := by decide +kernel
theorem dL_323 : decode code 323 = .ok (.aload_n 0, 1) := by decide +kernel
theorem dL_324 : decode code 324 = .ok (.iload_n 3, 1) := by decide +kernel
theorem dL_325 : decode code 325 = .ok (.iconst 2, 1) := by decide +kernel
theorem dL_326 : decode code 326 = .ok (.iadd, 1) := by decide +kernel
theorem dL_327 : decode code 327 = .ok (.iaload, 1) := by decide +kernel
theorem dL_328 : decode code 328 = .ok (.aload_n 0, 1) := by decide +kernel
theorem dL_329 : decode code 329 = .ok (.iload_n 3, 1) := by decide +kernel
theorem dL_330 : decode code 330 = .ok (.iconst 3, 1) := by decide +kernel
theorem dL_331 : decode code 331 = .ok (.iadd, 1) := by decide +kernel
theorem dL_332 : decode code 332 = .ok (.iaload, 1) := by decide +kernel
theorem dL_333 : decode code 333 = .ok (.invokevirtual 36, 3) := by decide +kernel
theorem dL_336 : decode code 336 = .ok (.aload_n 2, 1) := by decide +kernel
theorem dL_337 : decode code 337 = .ok (.aload_n 0, 1) := by decide +kernel
theorem dL_338 : decode code 338 = .ok (.iload_n 3, 1) := by decide +kernel
theorem dL_339 : decode code 339 = .ok (.iconst 1, 1) := by decide +kernel
theorem dL_340 : decode code 340 = .ok (.iadd, 1) := by decide +kernel
theorem dL_341 : decode code 341 = .ok (.iaload, 1) := by decide +kernel
theorem dL_342 : decode code 342 = .ok (.aload_n 0, 1) := by decide +kernel
theorem dL_343 : decode code 343 = .ok (.iload_n 3, 1) := by decide +kernel
theorem dL_344 : decode code 344 = .ok (.iconst 2, 1) := by decide +kernel
theorem dL_345 : decode code 345 = .ok (.iadd, 1) := by decide +kernel
theorem dL_346 : decode code 346 = .ok (.iaload, 1) := by decide +kernel
theorem dL_347 : decode code 347 = .ok (.aload_n 0, 1) := by decide +kernel
theorem dL_348 : decode code 348 = .ok (.iload_n 3, 1) := by decide +kernel
theorem dL_349 : decode code 349 = .ok (.iconst 3, 1) := by decide +kernel
theorem dL_350 : decode code 350 = .ok (.iadd, 1) := by decide +kernel
theorem dL_351 : decode code 351 = .ok (.iaload, 1) := by decide +kernel
theorem dL_352 : decode code 352 = .ok (.invokevirtual 39, 3) := by decide +kernel
theorem dL_355 : decode code 355 = .ok (.if_icmp .eq 573, 3) := by decide +kernel
theorem dL_360 : decode code 360 = .ok (.aload_n 1, 1) := by decide +kernel
theorem dL_361 : decode code 361 = .ok (.aload_n 0, 1) := by decide +kernel
theorem dL_362 : decode code 362 = .ok (.iload_n 3, 1) := by decide +kernel
theorem dL_363 : decode code 363 = .ok (.iconst 1, 1) := by decide +kernel
theorem dL_364 : decode code 364 = .ok (.iadd, 1) := by decide +kernel
theorem dL_365 : decode code 365 = .ok (.iaload, 1) := by decide +kernel
theorem dL_366 : decode code 366 = .ok (.invokevirtual 40, 3) := by decide +kernel
theorem dL_369 : decode code 369 = .ok (.aload_n 2, 1) := by decide +kernel
theorem dL_370 : decode code 370 = .ok (.aload_n 0, 1) := by decide +kernel
theorem dL_371 : decode code 371 = .ok (.iload_n 3, 1) := by decide +kernel
theorem dL_372 : decode code 372 = .ok (.iconst 1, 1) := by decide +kernel
theorem dL_373 : decode code 373 = .ok (.iadd, 1) := by decide +kernel
theorem dL_374 : decode code 374 = .ok (.iaload, 1) := by decide +kernel
theorem dL_375 : decode code 375 = .ok (.invokevirtual 43, 3) := by decide +kernel
theorem dL_378 : decode code 378 = .ok (.if_icmp .eq 550, 3) := by decide +kernel
theorem dL_383 : decode code 383 = .ok (.aload_n 1, 1) := by decide +kernel
theorem dL_384 : decode code 384 = .ok (.aload_n 0, 1) := by decide +kernel
theorem dL_385 : decode code 385 = .ok (.iload_n 3, 1) := by decide +kernel
theorem dL_386 : decode code 386 = .ok (.iconst 1, 1) := by decide +kernel
theorem dL_387 : decode code 387 = .ok (.iadd, 1) := by decide +kernel
theorem dL_388 : decode code 388 = .ok (.iaload, 1) := by decide +kernel
theorem dL_389 : decode code 389 = .ok (.aload_n 0, 1) := by decide +kernel
theorem dL_390 : decode code 390 = .ok (.iload_n 3, 1) := by decide +kernel
theorem dL_391 : decode code 391 = .ok (.iconst 2, 1) := by decide +kernel
theorem dL_392 : decode code 392 = .ok (.iadd, 1) := by decide +kernel
theorem dL_393 : decode code 393 = .ok (.iaload, 1) := by decide +kernel
theorem dL_394 : decode code 394 = .ok (.invokevirtual 44, 3) := by decide +kernel
theorem dL_397 : decode code 397 = .ok (.aload_n 2, 1) := by decide +kernel
theorem dL_398 : decode code 398 = .ok (.aload_n 0, 1) := by decide +kernel
theorem dL_399 : decode code 399 = .ok (.iload_n 3, 1) := by decide +kernel
theorem dL_400 : decode code 400 = .ok (.iconst 1, 1) := by decide +kernel
theorem dL_401 : decode code 401 = .ok (.iadd, 1) := by decide +kernel
theorem dL_402 : decode code 402 = .ok (.iaload, 1) := by decide +kernel
theorem dL_403 : decode code 403 = .ok (.aload_n 0, 1) := by decide +kernel
theorem dL_404 : decode code 404 = .ok (.iload_n 3, 1) := by decide +kernel
theorem dL_405 : decode code 405 = .ok (.iconst 2, 1) := by decide +kernel
theorem dL_406 : decode code 406 = .ok (.iadd, 1) := by decide +kernel
theorem dL_407 : decode code 407 = .ok (.iaload, 1) := by decide +kernel
theorem dL_408 : decode code 408 = .ok (.invokevirtual 47, 3) := by decide +kernel
theorem dL_411 : decode code 411 = .ok (.if_icmp .eq 517, 3) := by decide +kernel
theorem dL_416 : decode code 416 = .ok (.aload_n 1, 1) := by decide +kernel
theorem dL_417 : decode code 417 = .ok (.aload_n 0, 1) := by decide +kernel
theorem dL_418 : decode code 418 = .ok (.iload_n 3, 1) := by decide +kernel
theorem dL_419 : decode code 419 = .ok (.iconst 1, 1) := by decide +kernel
theorem dL_420 : decode code 420 = .ok (.iadd, 1) := by decide +kernel
theorem dL_421 : decode code 421 = .ok (.iaload, 1) := by decide +kernel
theorem dL_422 : decode code 422 = .ok (.aload_n 0, 1) := by decide +kernel
theorem dL_423 : decode code 423 = .ok (.iload_n 3, 1) := by decide +kernel
theorem dL_424 : decode code 424 = .ok (.iconst 2, 1) := by decide +kernel
theorem dL_425 : decode code 425 = .ok (.iadd, 1) := by decide +kernel
theorem dL_426 : decode code 426 = .ok (.iaload, 1) := by decide +kernel
theorem dL_427 : decode code 427 = .ok (.invokevirtual 48, 3) := by decide +kernel
theorem dL_430 : decode code 430 = .ok (.aload_n 2, 1) := by decide +kernel
theorem dL_431 : decode code 431 = .ok (.aload_n 0, 1) := by decide +kernel
theorem dL_432 : decode code 432 = .ok (.iload_n 3, 1) := by decide +kernel
theorem dL_433 : decode code 433 = .ok (.iconst 1, 1) := by decide +kernel
theorem dL_434 : decode code 434 = .ok (.iadd, 1) := by decide +kernel
theorem dL_435 : decode code 435 = .ok (.iaload, 1) := by decide +kernel
theorem dL_436 : decode code 436 = .ok (.aload_n 0, 1) := by decide +kernel
theorem dL_437 : decode code 437 = .ok (.iload_n 3, 1) := by decide +kernel
theorem dL_438 : decode code 438 = .ok (.iconst 2, 1) := by decide +kernel
theorem dL_439 : decode code 439 = .ok (.iadd, 1) := by decide +kernel
theorem dL_440 : decode code 440 = .ok (.iaload, 1) := by decide +kernel
theorem dL_441 : decode code 441 = .ok (.invokevirtual 51, 3) := by decide +kernel
theorem dL_444 : decode code 444 = .ok (.if_icmp .eq 484, 3) := by decide +kernel
theorem dL_449 : decode code 449 = .ok (.aload_n 1, 1) := by decide +kernel
theorem dL_450 : decode code 450 = .ok (.aload_n 0, 1) := by decide +kernel
theorem dL_451 : decode code 451 = .ok (.iload_n 3, 1) := by decide +kernel
theorem dL_452 : decode code 452 = .ok (.iconst 1, 1) := by decide +kernel
theorem dL_453 : decode code 453 = .ok (.iadd, 1) := by decide +kernel
theorem dL_454 : decode code 454 = .ok (.iaload, 1) := by decide +kernel
theorem dL_455 : decode code 455 = .ok (.aload_n 0, 1) := by decide +kernel
theorem dL_456 : decode code 456 = .ok (.iload_n 3, 1) := by decide +kernel
theorem dL_457 : decode code 457 = .ok (.iconst 2, 1) := by decide +kernel
theorem dL_458 : decode code 458 = .ok (.iadd, 1) := by decide +kernel
theorem dL_459 : decode code 459 = .ok (.iaload, 1) := by decide +kernel
theorem dL_460 : decode code 460 = .ok (.invokevirtual 52, 3) := by decide +kernel
theorem dL_463 : decode code 463 = .ok (.aload_n 2, 1) := by decide +kernel
theorem dL_464 : decode code 464 = .ok (.aload_n 0, 1) := by decide +kernel
theorem dL_465 : decode code 465 = .ok (.iload_n 3, 1) := by decide +kernel
theorem dL_466 : decode code 466 = .ok (.iconst 1, 1) := by decide +kernel
theorem dL_467 : decode code 467 = .ok (.iadd, 1) := by decide +kernel
theorem dL_468 : decode code 468 = .ok (.iaload, 1) := by decide +kernel
theorem dL_469 : decode code 469 = .ok (.aload_n 0, 1) := by decide +kernel
theorem dL_470 : decode code 470 = .ok (.iload_n 3, 1) := by decide +kernel
theorem dL_471 : decode code 471 = .ok (.iconst 2, 1) := by decide +kernel
theorem dL_472 : decode code 472 = .ok (.iadd, 1) := by decide +kernel
theorem dL_473 : decode code 473 = .ok (.iaload, 1) := by decide +kernel
theorem dL_474 : decode code 474 = .ok (.invokevirtual 55, 3) := by decide +kernel
theorem dL_477 : decode code 477 = .ok (.if_icmp .eq 451, 3) := by decide +kernel
theorem dL_482 : decode code 482 = .ok (.aload_n 1, 1) := by decide +kernel
theorem dL_483 : decode code 483 = .ok (.aload_n 0, 1) := by decide +kernel
theorem dL_484 : decode code 484 = .ok (.iload_n 3, 1) := by decide +kernel
theorem dL_485 : decode code 485 = .ok (.iconst 1, 1) := by decide +kernel
theorem dL_486 : decode code 486 = .ok (.iadd, 1) := by decide +kernel
theorem dL_487 : decode code 487 = .ok (.iaload, 1) := by decide +kernel
theorem dL_488 : decode code 488 = .ok (.invokevirtual 56, 3) := by decide +kernel
theorem dL_491 : decode code 491 = .ok (.aload_n 2, 1) := by decide +kernel
theorem dL_492 : decode code 492 = .ok (.aload_n 0, 1) := by decide +kernel
theorem dL_493 : decode code 493 = .ok (.iload_n 3, 1) := by decide +kernel
theorem dL_494 : decode code 494 = .ok (.iconst 1, 1) := by decide +kernel
theorem dL_495 : decode code 495 = .ok (.iadd, 1) := by decide +kernel
theorem dL_496 : decode code 496 = .ok (.iaload, 1) := by decide +kernel
theorem dL_497 : decode code 497 = .ok (.invokevirtual 59, 3) := by decide +kernel
theorem dL_500 : decode code 500 = .ok (.if_icmp .eq 428, 3) := by decide +kernel
theorem dL_505 : decode code 505 = .ok (.aload_n 1, 1) := by decide +kernel
theorem dL_506 : decode code 506 = .ok (.invokevirtual 60, 3) := by decide +kernel
theorem dL_509 : decode code 509 = .ok (.aload_n 2, 1) := by decide +kernel
theorem dL_510 : decode code 510 = .ok (.invokevirtual 64, 3) := by decide +kernel
theorem dL_513 : decode code 513 = .ok (.if_icmp .eq 415, 3) := by decide +kernel
theorem dL_518 : decode code 518 = .ok (.aload_n 1, 1) := by decide +kernel
theorem dL_519 : decode code 519 = .ok (.aload_n 0, 1) := by decide +kernel
theorem dL_520 : decode code 520 = .ok (.iload_n 3, 1) := by decide +kernel
theorem dL_521 : decode code 521 = .ok (.iconst 1, 1) := by decide +kernel
theorem dL_522 : decode code 522 = .ok (.iadd, 1) := by decide +kernel
theorem dL_523 : decode code 523 = .ok (.iaload, 1) := by decide +kernel
theorem dL_524 : decode code 524 = .ok (.aload_n 0, 1) := by decide +kernel
theorem dL_525 : decode code 525 = .ok (.iload_n 3, 1) := by decide +kernel
theorem dL_526 : decode code 526 = .ok (.iconst 2, 1) := by decide +kernel
theorem dL_527 : decode code 527 = .ok (.iadd, 1) := by decide +kernel
theorem dL_528 : decode code 528 = .ok (.iaload, 1) := by decide +kernel
theorem dL_529 : decode code 529 = .ok (.invokevirtual 65, 3) := by decide +kernel
theorem dL_532 : decode code 532 = .ok (.aload_n 2, 1) := by decide +kernel
theorem dL_533 : decode code 533 = .ok (.aload_n 0, 1) := by decide +kernel
theorem dL_534 : decode code 534 = .ok (.iload_n 3, 1) := by decide +kernel
theorem dL_535 : decode code 535 = .ok (.iconst 1, 1) := by decide +kernel
theorem dL_536 : decode code 536 = .ok (.iadd, 1) := by decide +kernel
theorem dL_537 : decode code 537 = .ok (.iaload, 1) := by decide +kernel
theorem dL_538 : decode code 538 = .ok (.aload_n 0, 1) := by decide +kernel
theorem dL_539 : decode code 539 = .ok (.iload_n 3, 1) := by decide +kernel
theorem dL_540 : decode code 540 = .ok (.iconst 2, 1) := by decide +kernel
theorem dL_541 : decode code 541 = .ok (.iadd, 1) := by decide +kernel
theorem dL_542 : decode code 542 = .ok (.iaload, 1) := by decide +kernel
theorem dL_543 : decode code 543 = .ok (.invokevirtual 68, 3) := by decide +kernel
theorem dL_546 : decode code 546 = .ok (.if_icmp .eq 382, 3) := by decide +kernel
theorem dL_551 : decode code 551 = .ok (.aload_n 1, 1) := by decide +kernel
theorem dL_552 : decode code 552 = .ok (.aload_n 0, 1) := by decide +kernel
theorem dL_553 : decode code 553 = .ok (.iload_n 3, 1) := by decide +kernel
theorem dL_554 : decode code 554 = .ok (.iconst 1, 1) := by decide +kernel
theorem dL_555 : decode code 555 = .ok (.iadd, 1) := by decide +kernel
theorem dL_556 : decode code 556 = .ok (.iaload, 1) := by decide +kernel
theorem dL_557 : decode code 557 = .ok (.aload_n 0, 1) := by decide +kernel
theorem dL_558 : decode code 558 = .ok (.iload_n 3, 1) := by decide +kernel
theorem dL_559 : decode code 559 = .ok (.iconst 2, 1) := by decide +kernel
theorem dL_560 : decode code 560 = .ok (.iadd, 1) := by decide +kernel
theorem dL_561 : decode code 561 = .ok (.iaload, 1) := by decide +kernel
theorem dL_562 : decode code 562 = .ok (.invokevirtual 69, 3) := by decide +kernel
theorem dL_565 : decode code 565 = .ok (.aload_n 2, 1) := by decide +kernel
theorem dL_566 : decode code 566 = .ok (.aload_n 0, 1) := by decide +kernel
theorem dL_567 : decode code 567 = .ok (.iload_n 3, 1) := by decide +kernel
theorem dL_568 : decode code 568 = .ok (.iconst 1, 1) := by decide +kernel
theorem dL_569 : decode code 569 = .ok (.iadd, 1) := by decide +kernel
theorem dL_570 : decode code 570 = .ok (.iaload, 1) := by decide +kernel
theorem dL_571 : decode code 571 = .ok (.aload_n 0, 1) := by decide +kernel
theorem dL_572 : decode code 572 = .ok (.iload_n 3, 1) := by decide +kernel
theorem dL_573 : decode code 573 = .ok (.iconst 2, 1) := by decide +kernel
theorem dL_574 : decode code 574 = .ok (.iadd, 1) := by decide +kernel
theorem dL_575 : decode code 575 = .ok (.iaload, 1) := by decide +kernel
theorem dL_576 : decode code 576 = .ok (.invokevirtual 72, 3) := by decide +kernel
theorem dL_579 : decode code 579 = .ok (.if_icmp .eq 349, 3) := by decide +kernel
theorem dL_678 : decode code 678 = .ok (.aload_n 1, 1) := by decide +kernel
theorem dL_679 : decode code 679 = .ok (.aload_n 0, 1) := by decide +kernel
theorem dL_680 : decode code 680 = .ok (.iload_n 3, 1) := by decide +kernel
theorem dL_681 : decode code 681 = .ok (.iconst 1, 1) := by decide +kernel
theorem dL_682 : decode code 682 = .ok (.iadd, 1) := by decide +kernel
theorem dL_683 : decode code 683 = .ok (.iaload, 1) := by decide +kernel
theorem dL_684 : decode code 684 = .ok (.invokevirtual 83, 3) := by decide +kernel
theorem dL_687 : decode code 687 = .ok (.aload_n 2, 1) := by decide +kernel
theorem dL_688 : decode code 688 = .ok (.aload_n 0, 1) := by decide +kernel
theorem dL_689 : decode code 689 = .ok (.iload_n 3, 1) := by decide +kernel
theorem dL_690 : decode code 690 = .ok (.iconst 1, 1) := by decide +kernel
theorem dL_691 : decode code 691 = .ok (.iadd, 1) := by decide +kernel
theorem dL_692 : decode code 692 = .ok (.iaload, 1) := by decide +kernel
theorem dL_693 : decode code 693 = .ok (.invokevirtual 86, 3) := by decide +kernel
theorem dL_696 : decode code 696 = .ok (.if_icmp .eq 232, 3) := by decide +kernel
theorem dL_701 : decode code 701 = .ok (.aload_n 1, 1) := by decide +kernel
theorem dL_702 : decode code 702 = .ok (.aload_n 0, 1) := by decide +kernel
theorem dL_703 : decode code 703 = .ok (.iload_n 3, 1) := by decide +kernel
theorem dL_704 : decode code 704 = .ok (.iconst 1, 1) := by decide +kernel
theorem dL_705 : decode code 705 = .ok (.iadd, 1) := by decide +kernel
theorem dL_706 : decode code 706 = .ok (.iaload, 1) := by decide +kernel
theorem dL_707 : decode code 707 = .ok (.aload_n 0, 1) := by decide +kernel
theorem dL_708 : decode code 708 = .ok (.iload_n 3, 1) := by decide +kernel
theorem dL_709 : decode code 709 = .ok (.iconst 2, 1) := by decide +kernel
theorem dL_710 : decode code 710 = .ok (.iadd, 1) := by decide +kernel
theorem dL_711 : decode code 711 = .ok (.iaload, 1) := by decide +kernel
theorem dL_712 : decode code 712 = .ok (.aload_n 0, 1) := by decide +kernel
theorem dL_713 : decode code 713 = .ok (.iload_n 3, 1) := by decide +kernel
theorem dL_714 : decode code 714 = .ok (.iconst 3, 1) := by decide +kernel
theorem dL_715 : decode code 715 = .ok (.iadd, 1) := by decide +kernel
theorem dL_716 : decode code 716 = .ok (.iaload, 1) := by decide +kernel
theorem dL_717 : decode code 717 = .ok (.invokevirtual 87, 3) := by decide +kernel
theorem dL_720 : decode code 720 = .ok (.aload_n 2, 1) := by decide +kernel
theorem dL_721 : decode code 721 = .ok (.aload_n 0, 1) := by decide +kernel
theorem dL_722 : decode code 722 = .ok (.iload_n 3, 1) := by decide +kernel
theorem dL_723 : decode code 723 = .ok (.iconst 1, 1) := by decide +kernel
theorem dL_724 : decode code 724 = .ok (.iadd, 1) := by decide +kernel
theorem dL_725 : decode code 725 = .ok (.iaload, 1) := by decide +kernel
theorem dL_726 : decode code 726 = .ok (.aload_n 0, 1) := by decide +kernel
theorem dL_727 : decode code 727 = .ok (.iload_n 3, 1) := by decide +kernel
theorem dL_728 : decode code 728 = .ok (.iconst 2, 1) := by decide +kernel
theorem dL_729 : decode code 729 = .ok (.iadd, 1) := by decide +kernel
theorem dL_730 : decode code 730 = .ok (.iaload, 1) := by decide +kernel
theorem dL_731 : decode code 731 = .ok (.aload_n 0, 1) := by decide +kernel
theorem dL_732 : decode code 732 = .ok (.iload_n 3, 1) := by decide +kernel
theorem dL_733 : decode code 733 = .ok (.iconst 3, 1) := by decide +kernel
theorem dL_734 : decode code 734 = .ok (.iadd, 1) := by decide +kernel
theorem dL_735 : decode code 735 = .ok (.iaload, 1) := by decide +kernel
theorem dL_736 : decode code 736 = .ok (.invokevirtual 90, 3) := by decide +kernel
theorem dL_739 : decode code 739 = .ok (.if_icmp .eq 189, 3) := by decide +kernel
theorem dL_744 : decode code 744 = .ok (.aload_n 1, 1) := by decide +kernel
theorem dL_745 : decode code 745 = .ok (.aload_n 0, 1) := by decide +kernel
theorem dL_746 : decode code 746 = .ok (.iload_n 3, 1) := by decide +kernel
theorem dL_747 : decode code 747 = .ok (.iconst 1, 1) := by decide +kernel
theorem dL_748 : decode code 748 = .ok (.iadd, 1) := by decide +kernel
theorem dL_749 : decode code 749 = .ok (.iaload, 1) := by decide +kernel
theorem dL_750 : decode code 750 = .ok (.aload_n 0, 1) := by decide +kernel
theorem dL_751 : decode code 751 = .ok (.iload_n 3, 1) := by decide +kernel
theorem dL_752 : decode code 752 = .ok (.iconst 2, 1) := by decide +kernel
theorem dL_753 : decode code 753 = .ok (.iadd, 1) := by decide +kernel
theorem dL_754 : decode code 754 = .ok (.iaload, 1) := by decide +kernel
theorem dL_755 : decode code 755 = .ok (.aload_n 0, 1) := by decide +kernel
theorem dL_756 : decode code 756 = .ok (.iload_n 3, 1) := by decide +kernel
theorem dL_757 : decode code 757 = .ok (.iconst 3, 1) := by decide +kernel
theorem dL_758 : decode code 758 = .ok (.iadd, 1) := by decide +kernel
theorem dL_759 : decode code 759 = .ok (.iaload, 1) := by decide +kernel
theorem dL_760 : decode code 760 = .ok (.invokevirtual 91, 3) := by decide +kernel
theorem dL_763 : decode code 763 = .ok (.aload_n 2, 1) := by decide +kernel
theorem dL_764 : decode code 764 = .ok (.aload_n 0, 1) := by decide +kernel
theorem dL_765 : decode code 765 = .ok (.iload_n 3, 1) := by decide +kernel
theorem dL_766 : decode code 766 = .ok (.iconst 1, 1) := by decide +kernel
theorem dL_767 : decode code 767 = .ok (.iadd, 1) := by decide +kernel
theorem dL_768 : decode code 768 = .ok (.iaload, 1) := by decide +kernel
theorem dL_769 : decode code 769 = .ok (.aload_n 0, 1) := by decide +kernel
theorem dL_770 : decode code 770 = .ok (.iload_n 3, 1) := by decide +kernel
theorem dL_771 : decode code 771 = .ok (.iconst 2, 1) := by decide +kernel
theorem dL_772 : decode code 772 = .ok (.iadd, 1) := by decide +kernel
theorem dL_773 : decode code 773 = .ok (.iaload, 1) := by decide +kernel
theorem dL_774 : decode code 774 = .ok (.aload_n 0, 1) := by decide +kernel
theorem dL_775 : decode code 775 = .ok (.iload_n 3, 1) := by decide +kernel
theorem dL_776 : decode code 776 = .ok (.iconst 3, 1) := by decide +kernel
theorem dL_777 : decode code 777 = .ok (.iadd, 1) := by decide +kernel
theorem dL_778 : decode code 778 = .ok (.iaload, 1) := by decide +kernel
theorem dL_779 : decode code 779 = .ok (.invokevirtual 94, 3) := by decide +kernel
theorem dL_782 : decode code 782 = .ok (.if_icmp .eq 146, 3) := by decide +kernel
theorem dL_787 : decode code 787 = .ok (.aload_n 1, 1) := by decide +kernel
theorem dL_788 : decode code 788 = .ok (.aload_n 0, 1) := by decide +kernel
theorem dL_789 : decode code 789 = .ok (.iload_n 3, 1) := by decide +kernel
theorem dL_790 : decode code 790 = .ok (.iconst 1, 1) := by decide +kernel
theorem dL_791 : decode code 791 = .ok (.iadd, 1) := by decide +kernel
theorem dL_792 : decode code 792 = .ok (.iaload, 1) := by decide +kernel
theorem dL_793 : decode code 793 = .ok (.invokevirtual 95, 3) := by decide +kernel
theorem dL_796 : decode code 796 = .ok (.aload_n 2, 1) := by decide +kernel
theorem dL_797 : decode code 797 = .ok (.aload_n 0, 1) := by decide +kernel
theorem dL_798 : decode code 798 = .ok (.iload_n 3, 1) := by decide +kernel
theorem dL_799 : decode code 799 = .ok (.iconst 1, 1) := by decide +kernel
theorem dL_800 : decode code 800 = .ok (.iadd, 1) := by decide +kernel
theorem dL_801 : decode code 801 = .ok (.iaload, 1) := by decide +kernel
theorem dL_802 : decode code 802 = .ok (.invokevirtual 98, 3) := by decide +kernel
theorem dL_805 : decode code 805 = .ok (.if_icmp .eq 123, 3) := by decide +kernel
theorem dL_810 : decode code 810 = .ok (.aload_n 1, 1) := by decide +kernel
theorem dL_811 : decode code 811 = .ok (.aload_n 0, 1) := by decide +kernel
theorem dL_812 : decode code 812 = .ok (.iload_n 3, 1) := by decide +kernel
theorem dL_813 : decode code 813 = .ok (.iconst 1, 1) := by decide +kernel
theorem dL_814 : decode code 814 = .ok (.iadd, 1) := by decide +kernel
theorem dL_815 : decode code 815 = .ok (.iaload, 1) := by decide +kernel
theorem dL_816 : decode code 816 = .ok (.invokevirtual 99, 3) := by decide +kernel
theorem dL_819 : decode code 819 = .ok (.aload_n 2, 1) := by decide +kernel
theorem dL_820 : decode code 820 = .ok (.aload_n 0, 1) := by decide +kernel
theorem dL_821 : decode code 821 = .ok (.iload_n 3, 1) := by decide +kernel
theorem dL_822 : decode code 822 = .ok (.iconst 1, 1) := by decide +kernel
theorem dL_823 : decode code 823 = .ok (.iadd, 1) := by decide +kernel
theorem dL_824 : decode code 824 = .ok (.iaload, 1) := by decide +kernel
theorem dL_825 : decode code 825 = .ok (.invokevirtual 102, 3) := by decide +kernel
theorem dL_828 : decode code 828 = .ok (.if_icmp .eq 100, 3) := by decide +kernel
theorem dL_833 : decode code 833 = .ok (.aload_n 1, 1) := by decide +kernel
theorem dL_834 : decode code 834 = .ok (.invokevirtual 103, 3) := by decide +kernel
theorem dL_837 : decode code 837 = .ok (.aload_n 2, 1) := by decide +kernel
theorem dL_838 : decode code 838 = .ok (.invokevirtual 106, 3) := by decide +kernel
theorem dL_841 : decode code 841 = .ok (.if_icmp .eq 87, 3) := by decide +kernel
theorem dL_846 : decode code 846 = .ok (.aload_n 1, 1) := by decide +kernel
theorem dL_847 : decode code 847 = .ok (.invokevirtual 107, 3) := by decide +kernel
theorem dL_850 : decode code 850 = .ok (.aload_n 2, 1) := by decide +kernel
theorem dL_851 : decode code 851 = .ok (.invokevirtual 110, 3) := by decide +kernel
theorem dL_854 : decode code 854 = .ok (.if_icmp .eq 74, 3) := by decide +kernel
theorem dL_859 : decode code 859 = .ok (.aload_n 1, 1) := by decide +kernel
theorem dL_860 : decode code 860 = .ok (.aload_n 0, 1) := by decide +kernel
theorem dL_861 : decode code 861 = .ok (.iload_n 3, 1) := by decide +kernel
theorem dL_862 : decode code 862 = .ok (.iconst 1, 1) := by decide +kernel
theorem dL_863 : decode code 863 = .ok (.iadd, 1) := by decide +kernel
theorem dL_864 : decode code 864 = .ok (.iaload, 1) := by decide +kernel
theorem dL_865 : decode code 865 = .ok (.invokevirtual 111, 3) := by decide +kernel
theorem dL_868 : decode code 868 = .ok (.aload_n 2, 1) := by decide +kernel
theorem dL_869 : decode code 869 = .ok (.aload_n 0, 1) := by decide +kernel
theorem dL_870 : decode code 870 = .ok (.iload_n 3, 1) := by decide +kernel
theorem dL_871 : decode code 871 = .ok (.iconst 1, 1) := by decide +kernel
theorem dL_872 : decode code 872 = .ok (.iadd, 1) := by decide +kernel
theorem dL_873 : decode code 873 = .ok (.iaload, 1) := by decide +kernel
theorem dL_874 : decode code 874 = .ok (.invokevirtual 114, 3) := by decide +kernel
theorem dL_877 : decode code 877 = .ok (.if_icmp .eq 51, 3) := by decide +kernel
theorem dL_882 : decode code 882 = .ok (.aload_n 1, 1) := by decide +kernel
theorem dL_883 : decode code 883 = .ok (.aload_n 0, 1) := by decide +kernel
theorem dL_884 : decode code 884 = .ok (.iload_n 3, 1) := by decide +kernel
theorem dL_885 : decode code 885 = .ok (.iconst 1, 1) := by decide +kernel
theorem dL_886 : decode code 886 = .ok (.iadd, 1) := by decide +kernel
theorem dL_887 : decode code 887 = .ok (.iaload, 1) := by decide +kernel
theorem dL_888 : decode code 888 = .ok (.invokevirtual 115, 3) := by decide +kernel
theorem dL_891 : decode code 891 = .ok (.aload_n 2, 1) := by decide +kernel
theorem dL_892 : decode code 892 = .ok (.aload_n 0, 1) := by decide +kernel
theorem dL_893 : decode code 893 = .ok (.iload_n 3, 1) := by decide +kernel
theorem dL_894 : decode code 894 = .ok (.iconst 1, 1) := by decide +kernel
theorem dL_895 : decode code 895 = .ok (.iadd, 1) := by decide +kernel
theorem dL_896 : decode code 896 = .ok (.iaload, 1) := by decide +kernel
theorem dL_897 : decode code 897 = .ok (.invokevirtual 118, 3) := by decide +kernel
theorem dL_900 : decode code 900 = .ok (.if_icmp .eq 28, 3) := by decide +kernel
theorem dL_905 : decode code 905 = .ok (.aload_n 1, 1) := by decide +kernel
theorem dL_906 : decode code 906 = .ok (.aload_n 0, 1) := by decide +kernel
theorem dL_907 : decode code 907 = .ok (.iload_n 3, 1) := by decide +kernel
theorem dL_908 : decode code 908 = .ok (.iconst 1, 1) := by decide +kernel
theorem dL_909 : decode code 909 = .ok (.iadd, 1) := by decide +kernel
theorem dL_910 : decode code 910 = .ok (.iaload, 1) := by decide +kernel
theorem dL_911 : decode code 911 = .ok (.invokevirtual 119, 3) := by decide +kernel
theorem dL_914 : decode code 914 = .ok (.aload_n 2, 1) := by decide +kernel
theorem dL_915 : decode code 915 = .ok (.aload_n 0, 1) := by decide +kernel
theorem dL_916 : decode code 916 = .ok (.iload_n 3, 1) := by decide +kernel
theorem dL_917 : decode code 917 = .ok (.iconst 1, 1) := by decide +kernel
theorem dL_918 : decode code 918 = .ok (.iadd, 1) := by decide +kernel
theorem dL_919 : decode code 919 = .ok (.iaload, 1) := by decide +kernel
theorem dL_920 : decode code 920 = .ok (.invokevirtual 122, 3) := by decide +kernel
theorem dL_923 : decode code 923 = .ok (.if_icmp .eq 5, 3) := by decide +kernel
theorem dL_928 : decode code 928 = .ok (.iinc 3 4, 3) := by decide +kernel
theorem dL_931 : decode code 931 = .ok (.goto (-913), 3) := by decide +kernel
theorem dL_934 : decode code 934 = .ok (.iconst 1, 1) := by decide +kernel
theorem dL_935 : decode code 935 = .ok (.ireturn, 1) := by decide +kernel
theorem tL_13 : Cond.methodLink RL 13 yX8_setUp ∈ lw_g := in_g 342 (by decide +kernel) (by decide +kernel)
theorem tL_17 : Cond.methodLink RL 17 yX9_setUp ∈ lw_g := in_g 787 (by decide +kernel) (by decide +kernel)
theorem tL_18 : Cond.methodLink RL 18 yX8_nozzle ∈ lw_g := in_g 379 (by decide +kernel) (by decide +kernel)
theorem tL_22 : Cond.methodLink RL 22 yX9_nozzle ∈ lw_g := in_g 794 (by decide +kernel) (by decide +kernel)
theorem tL_23 : Cond.methodLink RL 23 yX8_pump ∈ lw_g := in_g 393 (by decide +kernel) (by decide +kernel)
theorem tL_26 : Cond.methodLink RL 26 yX9_pump ∈ lw_g := in_g 809 (by decide +kernel) (by decide +kernel)
theorem tL_27 : Cond.methodLink RL 27 yX8_set ∈ lw_g := in_g 397 (by decide +kernel) (by decide +kernel)
theorem tL_31 : Cond.methodLink RL 31 yX9_set ∈ lw_g := in_g 816 (by decide +kernel) (by decide +kernel)
theorem tL_32 : Cond.methodLink RL 32 yX8_wind ∈ lw_g := in_g 401 (by decide +kernel) (by decide +kernel)
theorem tL_35 : Cond.methodLink RL 35 yX9_wind ∈ lw_g := in_g 823 (by decide +kernel) (by decide +kernel)
theorem tL_36 : Cond.methodLink RL 36 yX8_cue ∈ lw_g := in_g 405 (by decide +kernel) (by decide +kernel)
theorem tL_39 : Cond.methodLink RL 39 yX9_cue ∈ lw_g := in_g 827 (by decide +kernel) (by decide +kernel)
theorem tL_40 : Cond.methodLink RL 40 yX8_remove ∈ lw_g := in_g 423 (by decide +kernel) (by decide +kernel)
theorem tL_43 : Cond.methodLink RL 43 yX9_remove ∈ lw_g := in_g 847 (by decide +kernel) (by decide +kernel)
theorem tL_44 : Cond.methodLink RL 44 yX8_move ∈ lw_g := in_g 436 (by decide +kernel) (by decide +kernel)
theorem tL_47 : Cond.methodLink RL 47 yX9_move ∈ lw_g := in_g 859 (by decide +kernel) (by decide +kernel)
theorem tL_48 : Cond.methodLink RL 48 yX8_part ∈ lw_g := in_g 447 (by decide +kernel) (by decide +kernel)
theorem tL_51 : Cond.methodLink RL 51 yX9_part ∈ lw_g := in_g 868 (by decide +kernel) (by decide +kernel)
theorem tL_52 : Cond.methodLink RL 52 yX8_command ∈ lw_g := in_g 451 (by decide +kernel) (by decide +kernel)
theorem tL_55 : Cond.methodLink RL 55 yX9_command ∈ lw_g := in_g 872 (by decide +kernel) (by decide +kernel)
theorem tL_56 : Cond.methodLink RL 56 yX8_tick ∈ lw_g := in_g 459 (by decide +kernel) (by decide +kernel)
theorem tL_59 : Cond.methodLink RL 59 yX9_tick ∈ lw_g := in_g 880 (by decide +kernel) (by decide +kernel)
theorem tL_60 : Cond.methodLink RL 60 yX8_rewind ∈ lw_g := in_g 568 (by decide +kernel) (by decide +kernel)
theorem tL_64 : Cond.methodLink RL 64 yX9_rewind ∈ lw_g := in_g 909 (by decide +kernel) (by decide +kernel)
theorem tL_65 : Cond.methodLink RL 65 yX8_spray ∈ lw_g := in_g 573 (by decide +kernel) (by decide +kernel)
theorem tL_68 : Cond.methodLink RL 68 yX9_spray ∈ lw_g := in_g 913 (by decide +kernel) (by decide +kernel)
theorem tL_69 : Cond.methodLink RL 69 yX8_pressure ∈ lw_g := in_g 578 (by decide +kernel) (by decide +kernel)
theorem tL_72 : Cond.methodLink RL 72 yX9_pressure ∈ lw_g := in_g 917 (by decide +kernel) (by decide +kernel)
theorem tL_83 : Cond.methodLink RL 83 yX8_state ∈ lw_g := in_g 595 (by decide +kernel) (by decide +kernel)
theorem tL_86 : Cond.methodLink RL 86 yX9_state ∈ lw_g := in_g 930 (by decide +kernel) (by decide +kernel)
theorem tL_87 : Cond.methodLink RL 87 yX8_ahead ∈ lw_g := in_g 601 (by decide +kernel) (by decide +kernel)
theorem tL_90 : Cond.methodLink RL 90 yX9_ahead ∈ lw_g := in_g 938 (by decide +kernel) (by decide +kernel)
theorem tL_91 : Cond.methodLink RL 91 yX8_delay ∈ lw_g := in_g 663 (by decide +kernel) (by decide +kernel)
theorem tL_94 : Cond.methodLink RL 94 yX9_delay ∈ lw_g := in_g 954 (by decide +kernel) (by decide +kernel)
theorem tL_95 : Cond.methodLink RL 95 yX8_safeCut ∈ lw_g := in_g 675 (by decide +kernel) (by decide +kernel)
theorem tL_98 : Cond.methodLink RL 98 yX9_safeCut ∈ lw_g := in_g 966 (by decide +kernel) (by decide +kernel)
theorem tL_99 : Cond.methodLink RL 99 yX8_say ∈ lw_g := in_g 683 (by decide +kernel) (by decide +kernel)
theorem tL_102 : Cond.methodLink RL 102 yX9_say ∈ lw_g := in_g 974 (by decide +kernel) (by decide +kernel)
theorem tL_103 : Cond.methodLink RL 103 yX8_wipe ∈ lw_g := in_g 691 (by decide +kernel) (by decide +kernel)
theorem tL_106 : Cond.methodLink RL 106 yX9_wipe ∈ lw_g := in_g 978 (by decide +kernel) (by decide +kernel)
theorem tL_107 : Cond.methodLink RL 107 yX8_fault ∈ lw_g := in_g 695 (by decide +kernel) (by decide +kernel)
theorem tL_110 : Cond.methodLink RL 110 yX9_fault ∈ lw_g := in_g 982 (by decide +kernel) (by decide +kernel)
theorem tL_111 : Cond.methodLink RL 111 yX8_read ∈ lw_g := in_g 728 (by decide +kernel) (by decide +kernel)
theorem tL_114 : Cond.methodLink RL 114 yX9_read ∈ lw_g := in_g 1006 (by decide +kernel) (by decide +kernel)
theorem tL_115 : Cond.methodLink RL 115 yX8_save ∈ lw_g := in_g 733 (by decide +kernel) (by decide +kernel)
theorem tL_118 : Cond.methodLink RL 118 yX9_save ∈ lw_g := in_g 1012 (by decide +kernel) (by decide +kernel)
theorem tL_119 : Cond.methodLink RL 119 yX8_restore ∈ lw_g := in_g 741 (by decide +kernel) (by decide +kernel)
theorem tL_122 : Cond.methodLink RL 122 yX9_restore ∈ lw_g := in_g 1016 (by decide +kernel) (by decide +kernel)
