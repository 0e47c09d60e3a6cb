theorem d_W_0 : decode code 0 = .ok (.new 8, 3) := by decide +kernel
theorem d_W_3 : decode code 3 = .ok (.dup, 1) := by decide +kernel
theorem d_W_4 : decode code 4 = .ok (.invokespecial 69, 3) := by decide +kernel
theorem d_W_7 : decode code 7 = .ok (.astore_n 1, 1) := by decide +kernel
theorem d_W_8 : decode code 8 = .ok (.new 70, 3) := by decide +kernel
theorem d_W_11 : decode code 11 = .ok (.dup, 1) := by decide +kernel
theorem d_W_12 : decode code 12 = .ok (.invokespecial 72, 3) := by decide +kernel
theorem d_W_15 : decode code 15 = .ok (.astore_n 2, 1) := by decide +kernel
theorem d_W_16 : decode code 16 = .ok (.iconst 1, 1) := by decide +kernel
theorem d_W_17 : decode code 17 = .ok (.newarray .long, 2) := by decide +kernel
theorem d_W_19 : decode code 19 = .ok (.astore_n 3, 1) := by decide +kernel
theorem d_W_20 : decode code 20 = .ok (.iconst 0, 1) := by decide +kernel
theorem d_W_21 : decode code 21 = .ok (.istore 4, 2) := by decide +kernel
theorem d_W_23 : decode code 23 = .ok (.iload 4, 2) := by decide +kernel
theorem d_W_25 : decode code 25 = .ok (.aload_n 0, 1) := by decide +kernel
theorem d_W_26 : decode code 26 = .ok (.arraylength, 1) := by decide +kernel
theorem d_W_27 : decode code 27 = .ok (.iconst 5, 1) := by decide +kernel
theorem d_W_28 : decode code 28 = .ok (.isub, 1) := by decide +kernel
theorem d_W_29 : decode code 29 = .ok (.if_icmp .gt 1120, 3) := by decide +kernel
theorem d_W_32 : decode code 32 = .ok (.aload_n 0, 1) := by decide +kernel
theorem d_W_33 : decode code 33 = .ok (.iload 4, 2) := by decide +kernel
theorem d_W_35 : decode code 35 = .ok (.iaload, 1) := by decide +kernel
theorem d_W_36 : decode code 36 = .ok (.bipush 31, 2) := by decide +kernel
theorem d_W_38 : decode code 38 = .ok (.iand, 1) := by decide +kernel
theorem d_W_39 : decode code 39 = .ok (.tableswitch 1104 0 18 #[89, 145, 237, 329, 377, 457, 525, 605, 673, 729, 777, 813, 849, 885, 941, 997, 1065, 1078, 1091], 89) := by decide +kernel
theorem d_W_128 : decode code 128 = .ok (.aload_n 1, 1) := by decide +kernel
theorem d_W_129 : decode code 129 = .ok (.aload_n 0, 1) := by decide +kernel
theorem d_W_130 : decode code 130 = .ok (.iload 4, 2) := by decide +kernel
theorem d_W_132 : decode code 132 = .ok (.iconst 1, 1) := by decide +kernel
theorem d_W_133 : decode code 133 = .ok (.iadd, 1) := by decide +kernel
theorem d_W_134 : decode code 134 = .ok (.iaload, 1) := by decide +kernel
theorem d_W_135 : decode code 135 = .ok (.aload_n 3, 1) := by decide +kernel
theorem d_W_136 : decode code 136 = .ok (.invokestatic 73, 3) := by decide +kernel
theorem d_W_139 : decode code 139 = .ok (.istore 5, 2) := by decide +kernel
theorem d_W_141 : decode code 141 = .ok (.aload_n 2, 1) := by decide +kernel
theorem d_W_142 : decode code 142 = .ok (.aload_n 0, 1) := by decide +kernel
theorem d_W_143 : decode code 143 = .ok (.iload 4, 2) := by decide +kernel
theorem d_W_145 : decode code 145 = .ok (.iconst 1, 1) := by decide +kernel
theorem d_W_146 : decode code 146 = .ok (.iadd, 1) := by decide +kernel
theorem d_W_147 : decode code 147 = .ok (.iaload, 1) := by decide +kernel
theorem d_W_148 : decode code 148 = .ok (.invokevirtual 78, 3) := by decide +kernel
theorem d_W_151 : decode code 151 = .ok (.istore 6, 2) := by decide +kernel
theorem d_W_153 : decode code 153 = .ok (.aload_n 2, 1) := by decide +kernel
theorem d_W_154 : decode code 154 = .ok (.invokevirtual 79, 3) := by decide +kernel
theorem d_W_157 : decode code 157 = .ok (.iload 5, 2) := by decide +kernel
theorem d_W_159 : decode code 159 = .ok (.if_icmp .eq 5, 3) := by decide +kernel
theorem d_W_162 : decode code 162 = .ok (.iconst 0, 1) := by decide +kernel
theorem d_W_163 : decode code 163 = .ok (.ireturn, 1) := by decide +kernel
theorem d_W_164 : decode code 164 = .ok (.iload 5, 2) := by decide +kernel
theorem d_W_166 : decode code 166 = .ok (.ifCond .ne 15, 3) := by decide +kernel
theorem d_W_169 : decode code 169 = .ok (.aload_n 3, 1) := by decide +kernel
theorem d_W_170 : decode code 170 = .ok (.iconst 0, 1) := by decide +kernel
theorem d_W_171 : decode code 171 = .ok (.laload, 1) := by decide +kernel
theorem d_W_172 : decode code 172 = .ok (.iload 6, 2) := by decide +kernel
theorem d_W_174 : decode code 174 = .ok (.i2l, 1) := by decide +kernel
theorem d_W_175 : decode code 175 = .ok (.lcmp, 1) := by decide +kernel
theorem d_W_176 : decode code 176 = .ok (.ifCond .eq 5, 3) := by decide +kernel
theorem d_W_179 : decode code 179 = .ok (.iconst 0, 1) := by decide +kernel
theorem d_W_180 : decode code 180 = .ok (.ireturn, 1) := by decide +kernel
theorem d_W_181 : decode code 181 = .ok (.goto 962, 3) := by decide +kernel
theorem d_W_184 : decode code 184 = .ok (.aload_n 1, 1) := by decide +kernel
theorem d_W_185 : decode code 185 = .ok (.aload_n 0, 1) := by decide +kernel
theorem d_W_186 : decode code 186 = .ok (.iload 4, 2) := by decide +kernel
theorem d_W_188 : decode code 188 = .ok (.iconst 1, 1) := by decide +kernel
theorem d_W_189 : decode code 189 = .ok (.iadd, 1) := by decide +kernel
theorem d_W_190 : decode code 190 = .ok (.iaload, 1) := by decide +kernel
theorem d_W_191 : decode code 191 = .ok (.aload_n 0, 1) := by decide +kernel
theorem d_W_192 : decode code 192 = .ok (.iload 4, 2) := by decide +kernel
theorem d_W_194 : decode code 194 = .ok (.iconst 2, 1) := by decide +kernel
theorem d_W_195 : decode code 195 = .ok (.iadd, 1) := by decide +kernel
theorem d_W_196 : decode code 196 = .ok (.iaload, 1) := by decide +kernel
theorem d_W_197 : decode code 197 = .ok (.aload_n 0, 1) := by decide +kernel
theorem d_W_198 : decode code 198 = .ok (.iload 4, 2) := by decide +kernel
theorem d_W_200 : decode code 200 = .ok (.iconst 3, 1) := by decide +kernel
theorem d_W_201 : decode code 201 = .ok (.iadd, 1) := by decide +kernel
theorem d_W_202 : decode code 202 = .ok (.iaload, 1) := by decide +kernel
theorem d_W_203 : decode code 203 = .ok (.aload_n 0, 1) := by decide +kernel
theorem d_W_204 : decode code 204 = .ok (.iload 4, 2) := by decide +kernel
theorem d_W_206 : decode code 206 = .ok (.iconst 4, 1) := by decide +kernel
theorem d_W_207 : decode code 207 = .ok (.iadd, 1) := by decide +kernel
theorem d_W_208 : decode code 208 = .ok (.iaload, 1) := by decide +kernel
theorem d_W_209 : decode code 209 = .ok (.aload_n 3, 1) := by decide +kernel
theorem d_W_210 : decode code 210 = .ok (.invokestatic 83, 3) := by decide +kernel
theorem d_W_213 : decode code 213 = .ok (.istore 5, 2) := by decide +kernel
theorem d_W_215 : decode code 215 = .ok (.aload_n 2, 1) := by decide +kernel
theorem d_W_216 : decode code 216 = .ok (.aload_n 0, 1) := by decide +kernel
theorem d_W_217 : decode code 217 = .ok (.iload 4, 2) := by decide +kernel
theorem d_W_219 : decode code 219 = .ok (.iconst 1, 1) := by decide +kernel
theorem d_W_220 : decode code 220 = .ok (.iadd, 1) := by decide +kernel
theorem d_W_221 : decode code 221 = .ok (.iaload, 1) := by decide +kernel
theorem d_W_222 : decode code 222 = .ok (.aload_n 0, 1) := by decide +kernel
theorem d_W_223 : decode code 223 = .ok (.iload 4, 2) := by decide +kernel
theorem d_W_225 : decode code 225 = .ok (.iconst 2, 1) := by decide +kernel
theorem d_W_226 : decode code 226 = .ok (.iadd, 1) := by decide +kernel
theorem d_W_227 : decode code 227 = .ok (.iaload, 1) := by decide +kernel
theorem d_W_228 : decode code 228 = .ok (.aload_n 0, 1) := by decide +kernel
theorem d_W_229 : decode code 229 = .ok (.iload 4, 2) := by decide +kernel
theorem d_W_231 : decode code 231 = .ok (.iconst 3, 1) := by decide +kernel
theorem d_W_232 : decode code 232 = .ok (.iadd, 1) := by decide +kernel
theorem d_W_233 : decode code 233 = .ok (.iaload, 1) := by decide +kernel
theorem d_W_234 : decode code 234 = .ok (.aload_n 0, 1) := by decide +kernel
theorem d_W_235 : decode code 235 = .ok (.iload 4, 2) := by decide +kernel
theorem d_W_237 : decode code 237 = .ok (.iconst 4, 1) := by decide +kernel
theorem d_W_238 : decode code 238 = .ok (.iadd, 1) := by decide +kernel
theorem d_W_239 : decode code 239 = .ok (.iaload, 1) := by decide +kernel
theorem d_W_240 : decode code 240 = .ok (.invokevirtual 86, 3) := by decide +kernel
theorem d_W_243 : decode code 243 = .ok (.istore 6, 2) := by decide +kernel
theorem d_W_245 : decode code 245 = .ok (.aload_n 2, 1) := by decide +kernel
theorem d_W_246 : decode code 246 = .ok (.invokevirtual 79, 3) := by decide +kernel
theorem d_W_249 : decode code 249 = .ok (.iload 5, 2) := by decide +kernel
theorem d_W_251 : decode code 251 = .ok (.if_icmp .eq 5, 3) := by decide +kernel
theorem d_W_254 : decode code 254 = .ok (.iconst 0, 1) := by decide +kernel
theorem d_W_255 : decode code 255 = .ok (.ireturn, 1) := by decide +kernel
theorem d_W_256 : decode code 256 = .ok (.iload 5, 2) := by decide +kernel
theorem d_W_258 : decode code 258 = .ok (.ifCond .ne 15, 3) := by decide +kernel
theorem d_W_261 : decode code 261 = .ok (.aload_n 3, 1) := by decide +kernel
theorem d_W_262 : decode code 262 = .ok (.iconst 0, 1) := by decide +kernel
theorem d_W_263 : decode code 263 = .ok (.laload, 1) := by decide +kernel
theorem d_W_264 : decode code 264 = .ok (.iload 6, 2) := by decide +kernel
theorem d_W_266 : decode code 266 = .ok (.i2l, 1) := by decide +kernel
theorem d_W_267 : decode code 267 = .ok (.lcmp, 1) := by decide +kernel
theorem d_W_268 : decode code 268 = .ok (.ifCond .eq 5, 3) := by decide +kernel
theorem d_W_271 : decode code 271 = .ok (.iconst 0, 1) := by decide +kernel
theorem d_W_272 : decode code 272 = .ok (.ireturn, 1) := by decide +kernel
theorem d_W_273 : decode code 273 = .ok (.goto 870, 3) := by decide +kernel
theorem d_W_276 : decode code 276 = .ok (.aload_n 1, 1) := by decide +kernel
theorem d_W_277 : decode code 277 = .ok (.aload_n 0, 1) := by decide +kernel
theorem d_W_278 : decode code 278 = .ok (.iload 4, 2) := by decide +kernel
theorem d_W_280 : decode code 280 = .ok (.iconst 1, 1) := by decide +kernel
theorem d_W_281 : decode code 281 = .ok (.iadd, 1) := by decide +kernel
theorem d_W_282 : decode code 282 = .ok (.iaload, 1) := by decide +kernel
theorem d_W_283 : decode code 283 = .ok (.aload_n 0, 1) := by decide +kernel
theorem d_W_284 : decode code 284 = .ok (.iload 4, 2) := by decide +kernel
theorem d_W_286 : decode code 286 = .ok (.iconst 2, 1) := by decide +kernel
theorem d_W_287 : decode code 287 = .ok (.iadd, 1) := by decide +kernel
theorem d_W_288 : decode code 288 = .ok (.iaload, 1) := by decide +kernel
theorem d_W_289 : decode code 289 = .ok (.aload_n 0, 1) := by decide +kernel
theorem d_W_290 : decode code 290 = .ok (.iload 4, 2) := by decide +kernel
theorem d_W_292 : decode code 292 = .ok (.iconst 3, 1) := by decide +kernel
theorem d_W_293 : decode code 293 = .ok (.iadd, 1) := by decide +kernel
theorem d_W_294 : decode code 294 = .ok (.iaload, 1) := by decide +kernel
theorem d_W_295 : decode code 295 = .ok (.aload_n 0, 1) := by decide +kernel
theorem d_W_296 : decode code 296 = .ok (.iload 4, 2) := by decide +kernel
theorem d_W_298 : decode code 298 = .ok (.iconst 4, 1) := by decide +kernel
theorem d_W_299 : decode code 299 = .ok (.iadd, 1) := by decide +kernel
theorem d_W_300 : decode code 300 = .ok (.iaload, 1) := by decide +kernel
theorem d_W_301 : decode code 301 = .ok (.aload_n 3, 1) := by decide +kernel
theorem d_W_302 : decode code 302 = .ok (.invokestatic 87, 3) := by decide +kernel
theorem d_W_305 : decode code 305 = .ok (.istore 5, 2) := by decide +kernel
theorem d_W_307 : decode code 307 = .ok (.aload_n 2, 1) := by decide +kernel
theorem d_W_308 : decode code 308 = .ok (.aload_n 0, 1) := by decide +kernel
theorem d_W_309 : decode code 309 = .ok (.iload 4, 2) := by decide +kernel
theorem d_W_311 : decode code 311 = .ok (.iconst 1, 1) := by decide +kernel
theorem d_W_312 : decode code 312 = .ok (.iadd, 1) := by decide +kernel
theorem d_W_313 : decode code 313 = .ok (.iaload, 1) := by decide +kernel
theorem d_W_314 : decode code 314 = .ok (.aload_n 0, 1) := by decide +kernel
theorem d_W_315 : decode code 315 = .ok (.iload 4, 2) := by decide +kernel
theorem d_W_317 : decode code 317 = .ok (.iconst 2, 1) := by decide +kernel
theorem d_W_318 : decode code 318 = .ok (.iadd, 1) := by decide +kernel
theorem d_W_319 : decode code 319 = .ok (.iaload, 1) := by decide +kernel
theorem d_W_320 : decode code 320 = .ok (.aload_n 0, 1) := by decide +kernel
theorem d_W_321 : decode code 321 = .ok (.iload 4, 2) := by decide +kernel
theorem d_W_323 : decode code 323 = .ok (.iconst 3, 1) := by decide +kernel
theorem d_W_324 : decode code 324 = .ok (.iadd, 1) := by decide +kernel
theorem d_W_325 : decode code 325 = .ok (.iaload, 1) := by decide +kernel
theorem d_W_326 : decode code 326 = .ok (.aload_n 0, 1) := by decide +kernel
theorem d_W_327 : decode code 327 = .ok (.iload 4, 2) := by decide +kernel
theorem d_W_329 : decode code 329 = .ok (.iconst 4, 1) := by decide +kernel
theorem d_W_330 : decode code 330 = .ok (.iadd, 1) := by decide +kernel
theorem d_W_331 : decode code 331 = .ok (.iaload, 1) := by decide +kernel
theorem d_W_332 : decode code 332 = .ok (.invokevirtual 89, 3) := by decide +kernel
theorem d_W_335 : decode code 335 = .ok (.istore 6, 2) := by decide +kernel
theorem d_W_337 : decode code 337 = .ok (.aload_n 2, 1) := by decide +kernel
theorem d_W_338 : decode code 338 = .ok (.invokevirtual 79, 3) := by decide +kernel
theorem d_W_341 : decode code 341 = .ok (.iload 5, 2) := by decide +kernel
theorem d_W_343 : decode code 343 = .ok (.if_icmp .eq 5, 3) := by decide +kernel
theorem d_W_346 : decode code 346 = .ok (.iconst 0, 1) := by decide +kernel
theorem d_W_347 : decode code 347 = .ok (.ireturn, 1) := by decide +kernel
theorem d_W_348 : decode code 348 = .ok (.iload 5, 2) := by decide +kernel
theorem d_W_350 : decode code 350 = .ok (.ifCond .ne 15, 3) := by decide +kernel
theorem d_W_353 : decode code 353 = .ok (.aload_n 3, 1) := by decide +kernel
theorem d_W_354 : decode code 354 = .ok (.iconst 0, 1) := by decide +kernel
theorem d_W_355 : decode code 355 = .ok (.laload, 1) := by decide +kernel
theorem d_W_356 : decode code 356 = .ok (.iload 6, 2) := by decide +kernel
theorem d_W_358 : decode code 358 = .ok (.i2l, 1) := by decide +kernel
theorem d_W_359 : decode code 359 = .ok (.lcmp, 1) := by decide +kernel
theorem d_W_360 : decode code 360 = .ok (.ifCond .eq 5, 3) := by decide +kernel
theorem d_W_363 : decode code 363 = .ok (.iconst 0, 1) := by decide +kernel
theorem d_W_364 : decode code 364 = .ok (.ireturn, 1) := by decide +kernel
theorem d_W_365 : decode code 365 = .ok (.goto 778, 3) := by decide +kernel
theorem d_W_368 : decode code 368 = .ok (.aload_n 1, 1) := by decide +kernel
theorem d_W_369 : decode code 369 = .ok (.aload_n 0, 1) := by decide +kernel
theorem d_W_370 : decode code 370 = .ok (.iload 4, 2) := by decide +kernel
theorem d_W_372 : decode code 372 = .ok (.iconst 1, 1) := by decide +kernel
theorem d_W_373 : decode code 373 = .ok (.iadd, 1) := by decide +kernel
theorem d_W_374 : decode code 374 = .ok (.iaload, 1) := by decide +kernel
theorem d_W_375 : decode code 375 = .ok (.aload_n 0, 1) := by decide +kernel
theorem d_W_376 : decode code 376 = .ok (.iload 4, 2) := by decide +kernel
theorem d_W_378 : decode code 378 = .ok (.iconst 2, 1) := by decide +kernel
theorem d_W_379 : decode code 379 = .ok (.iadd, 1) := by decide +kernel
theorem d_W_380 : decode code 380 = .ok (.iaload, 1) := by decide +kernel
theorem d_W_381 : decode code 381 = .ok (.invokestatic 90, 3) := by decide +kernel
theorem d_W_384 : decode code 384 = .ok (.istore 5, 2) := by decide +kernel
theorem d_W_386 : decode code 386 = .ok (.aload_n 2, 1) := by decide +kernel
theorem d_W_387 : decode code 387 = .ok (.aload_n 0, 1) := by decide +kernel
theorem d_W_388 : decode code 388 = .ok (.iload 4, 2) := by decide +kernel
theorem d_W_390 : decode code 390 = .ok (.iconst 1, 1) := by decide +kernel
theorem d_W_391 : decode code 391 = .ok (.iadd, 1) := by decide +kernel
theorem d_W_392 : decode code 392 = .ok (.iaload, 1) := by decide +kernel
theorem d_W_393 : decode code 393 = .ok (.aload_n 0, 1) := by decide +kernel
theorem d_W_394 : decode code 394 = .ok (.iload 4, 2) := by decide +kernel
theorem d_W_396 : decode code 396 = .ok (.iconst 2, 1) := by decide +kernel
theorem d_W_397 : decode code 397 = .ok (.iadd, 1) := by decide +kernel
theorem d_W_398 : decode code 398 = .ok (.iaload, 1) := by decide +kernel
theorem d_W_399 : decode code 399 = .ok (.invokevirtual 93, 3) := by decide +kernel
theorem d_W_402 : decode code 402 = .ok (.aload_n 2, 1) := by decide +kernel
theorem d_W_403 : decode code 403 = .ok (.invokevirtual 79, 3) := by decide +kernel
theorem d_W_406 : decode code 406 = .ok (.iload 5, 2) := by decide +kernel
theorem d_W_408 : decode code 408 = .ok (.if_icmp .eq 5, 3) := by decide +kernel
theorem d_W_411 : decode code 411 = .ok (.iconst 0, 1) := by decide +kernel
theorem d_W_412 : decode code 412 = .ok (.ireturn, 1) := by decide +kernel
theorem d_W_413 : decode code 413 = .ok (.goto 730, 3) := by decide +kernel
theorem d_W_416 : decode code 416 = .ok (.aload_n 1, 1) := by decide +kernel
theorem d_W_417 : decode code 417 = .ok (.aload_n 0, 1) := by decide +kernel
theorem d_W_418 : decode code 418 = .ok (.iload 4, 2) := by decide +kernel
theorem d_W_420 : decode code 420 = .ok (.iconst 1, 1) := by decide +kernel
theorem d_W_421 : decode code 421 = .ok (.iadd, 1) := by decide +kernel
theorem d_W_422 : decode code 422 = .ok (.iaload, 1) := by decide +kernel
theorem d_W_423 : decode code 423 = .ok (.aload_n 0, 1) := by decide +kernel
theorem d_W_424 : decode code 424 = .ok (.iload 4, 2) := by decide +kernel
theorem d_W_426 : decode code 426 = .ok (.iconst 2, 1) := by decide +kernel
theorem d_W_427 : decode code 427 = .ok (.iadd, 1) := by decide +kernel
theorem d_W_428 : decode code 428 = .ok (.iaload, 1) := by decide +kernel
theorem d_W_429 : decode code 429 = .ok (.aload_n 0, 1) := by decide +kernel
theorem d_W_430 : decode code 430 = .ok (.iload 4, 2) := by decide +kernel
theorem d_W_432 : decode code 432 = .ok (.iconst 3, 1) := by decide +kernel
theorem d_W_433 : decode code 433 = .ok (.iadd, 1) := by decide +kernel
theorem d_W_434 : decode code 434 = .ok (.iaload, 1) := by decide +kernel
theorem d_W_435 : decode code 435 = .ok (.aload_n 3, 1) := by decide +kernel
theorem d_W_436 : decode code 436 = .ok (.invokestatic 94, 3) := by decide +kernel
theorem d_W_439 : decode code 439 = .ok (.istore 5, 2) := by decide +kernel
theorem d_W_441 : decode code 441 = .ok (.aload_n 2, 1) := by decide +kernel
theorem d_W_442 : decode code 442 = .ok (.aload_n 0, 1) := by decide +kernel
theorem d_W_443 : decode code 443 = .ok (.iload 4, 2) := by decide +kernel
theorem d_W_445 : decode code 445 = .ok (.iconst 1, 1) := by decide +kernel
theorem d_W_446 : decode code 446 = .ok (.iadd, 1) := by decide +kernel
theorem d_W_447 : decode code 447 = .ok (.iaload, 1) := by decide +kernel
theorem d_W_448 : decode code 448 = .ok (.aload_n 0, 1) := by decide +kernel
theorem d_W_449 : decode code 449 = .ok (.iload 4, 2) := by decide +kernel
theorem d_W_451 : decode code 451 = .ok (.iconst 2, 1) := by decide +kernel
theorem d_W_452 : decode code 452 = .ok (.iadd, 1) := by decide +kernel
theorem d_W_453 : decode code 453 = .ok (.iaload, 1) := by decide +kernel
theorem d_W_454 : decode code 454 = .ok (.aload_n 0, 1) := by decide +kernel
theorem d_W_455 : decode code 455 = .ok (.iload 4, 2) := by decide +kernel
theorem d_W_457 : decode code 457 = .ok (.iconst 3, 1) := by decide +kernel
theorem d_W_458 : decode code 458 = .ok (.iadd, 1) := by decide +kernel
theorem d_W_459 : decode code 459 = .ok (.iaload, 1) := by decide +kernel
theorem d_W_460 : decode code 460 = .ok (.invokevirtual 97, 3) := by decide +kernel
theorem d_W_463 : decode code 463 = .ok (.istore 6, 2) := by decide +kernel
theorem d_W_465 : decode code 465 = .ok (.aload_n 2, 1) := by decide +kernel
theorem d_W_466 : decode code 466 = .ok (.invokevirtual 79, 3) := by decide +kernel
theorem d_W_469 : decode code 469 = .ok (.iload 5, 2) := by decide +kernel
theorem d_W_471 : decode code 471 = .ok (.if_icmp .eq 5, 3) := by decide +kernel
theorem d_W_474 : decode code 474 = .ok (.iconst 0, 1) := by decide +kernel
theorem d_W_475 : decode code 475 = .ok (.ireturn, 1) := by decide +kernel
theorem d_W_476 : decode code 476 = .ok (.iload 5, 2) := by decide +kernel
theorem d_W_478 : decode code 478 = .ok (.ifCond .ne 15, 3) := by decide +kernel
theorem d_W_481 : decode code 481 = .ok (.aload_n 3, 1) := by decide +kernel
theorem d_W_482 : decode code 482 = .ok (.iconst 0, 1) := by decide +kernel
theorem d_W_483 : decode code 483 = .ok (.laload, 1) := by decide +kernel
theorem d_W_484 : decode code 484 = .ok (.iload 6, 2) := by decide +kernel
theorem d_W_486 : decode code 486 = .ok (.i2l, 1) := by decide +kernel
theorem d_W_487 : decode code 487 = .ok (.lcmp, 1) := by decide +kernel
theorem d_W_488 : decode code 488 = .ok (.ifCond .eq 5, 3) := by decide +kernel
theorem d_W_491 : decode code 491 = .ok (.iconst 0, 1) := by decide +kernel
theorem d_W_492 : decode code 492 = .ok (.ireturn, 1) := by decide +kernel
theorem d_W_493 : decode code 493 = .ok (.goto 650, 3) := by decide +kernel
theorem d_W_496 : decode code 496 = .ok (.aload_n 1, 1) := by decide +kernel
theorem d_W_497 : decode code 497 = .ok (.aload_n 0, 1) := by decide +kernel
theorem d_W_498 : decode code 498 = .ok (.iload 4, 2) := by decide +kernel
theorem d_W_500 : decode code 500 = .ok (.iconst 1, 1) := by decide +kernel
theorem d_W_501 : decode code 501 = .ok (.iadd, 1) := by decide +kernel
theorem d_W_502 : decode code 502 = .ok (.iaload, 1) := by decide +kernel
theorem d_W_503 : decode code 503 = .ok (.aload_n 0, 1) := by decide +kernel
theorem d_W_504 : decode code 504 = .ok (.iload 4, 2) := by decide +kernel
theorem d_W_506 : decode code 506 = .ok (.iconst 2, 1) := by decide +kernel
theorem d_W_507 : decode code 507 = .ok (.iadd, 1) := by decide +kernel
theorem d_W_508 : decode code 508 = .ok (.iaload, 1) := by decide +kernel
theorem d_W_509 : decode code 509 = .ok (.aload_n 3, 1) := by decide +kernel
theorem d_W_510 : decode code 510 = .ok (.invokestatic 98, 3) := by decide +kernel
theorem d_W_513 : decode code 513 = .ok (.istore 5, 2) := by decide +kernel
theorem d_W_515 : decode code 515 = .ok (.aload_n 2, 1) := by decide +kernel
theorem d_W_516 : decode code 516 = .ok (.aload_n 0, 1) := by decide +kernel
theorem d_W_517 : decode code 517 = .ok (.iload 4, 2) := by decide +kernel
theorem d_W_519 : decode code 519 = .ok (.iconst 1, 1) := by decide +kernel
theorem d_W_520 : decode code 520 = .ok (.iadd, 1) := by decide +kernel
theorem d_W_521 : decode code 521 = .ok (.iaload, 1) := by decide +kernel
theorem d_W_522 : decode code 522 = .ok (.aload_n 0, 1) := by decide +kernel
theorem d_W_523 : decode code 523 = .ok (.iload 4, 2) := by decide +kernel
theorem d_W_525 : decode code 525 = .ok (.iconst 2, 1) := by decide +kernel
theorem d_W_526 : decode code 526 = .ok (.iadd, 1) := by decide +kernel
theorem d_W_527 : decode code 527 = .ok (.iaload, 1) := by decide +kernel
theorem d_W_528 : decode code 528 = .ok (.invokevirtual 101, 3) := by decide +kernel
theorem d_W_531 : decode code 531 = .ok (.istore 6, 2) := by decide +kernel
theorem d_W_533 : decode code 533 = .ok (.aload_n 2, 1) := by decide +kernel
theorem d_W_534 : decode code 534 = .ok (.invokevirtual 79, 3) := by decide +kernel
theorem d_W_537 : decode code 537 = .ok (.iload 5, 2) := by decide +kernel
theorem d_W_539 : decode code 539 = .ok (.if_icmp .eq 5, 3) := by decide +kernel
theorem d_W_542 : decode code 542 = .ok (.iconst 0, 1) := by decide +kernel
theorem d_W_543 : decode code 543 = .ok (.ireturn, 1) := by decide +kernel
theorem d_W_544 : decode code 544 = .ok (.iload 5, 2) := by decide +kernel
theorem d_W_546 : decode code 546 = .ok (.ifCond .ne 15, 3) := by decide +kernel
theorem d_W_549 : decode code 549 = .ok (.aload_n 3, 1) := by decide +kernel
theorem d_W_550 : decode code 550 = .ok (.iconst 0, 1) := by decide +kernel
theorem d_W_551 : decode code 551 = .ok (.laload, 1) := by decide +kernel
theorem d_W_552 : decode code 552 = .ok (.iload 6, 2) := by decide +kernel
theorem d_W_554 : decode code 554 = .ok (.i2l, 1) := by decide +kernel
theorem d_W_555 : decode code 555 = .ok (.lcmp, 1) := by decide +kernel
theorem d_W_556 : decode code 556 = .ok (.ifCond .eq 5, 3) := by decide +kernel
theorem d_W_559 : decode code 559 = .ok (.iconst 0, 1) := by decide +kernel
theorem d_W_560 : decode code 560 = .ok (.ireturn, 1) := by decide +kernel
theorem d_W_561 : decode code 561 = .ok (.goto 582, 3) := by decide +kernel
theorem d_W_564 : decode code 564 = .ok (.aload_n 1, 1) := by decide +kernel
theorem d_W_565 : decode code 565 = .ok (.aload_n 0, 1) := by decide +kernel
theorem d_W_566 : decode code 566 = .ok (.iload 4, 2) := by decide +kernel
theorem d_W_568 : decode code 568 = .ok (.iconst 1, 1) := by decide +kernel
theorem d_W_569 : decode code 569 = .ok (.iadd, 1) := by decide +kernel
theorem d_W_570 : decode code 570 = .ok (.iaload, 1) := by decide +kernel
theorem d_W_571 : decode code 571 = .ok (.aload_n 0, 1) := by decide +kernel
theorem d_W_572 : decode code 572 = .ok (.iload 4, 2) := by decide +kernel
theorem d_W_574 : decode code 574 = .ok (.iconst 2, 1) := by decide +kernel
theorem d_W_575 : decode code 575 = .ok (.iadd, 1) := by decide +kernel
theorem d_W_576 : decode code 576 = .ok (.iaload, 1) := by decide +kernel
theorem d_W_577 : decode code 577 = .ok (.aload_n 0, 1) := by decide +kernel
theorem d_W_578 : decode code 578 = .ok (.iload 4, 2) := by decide +kernel
theorem d_W_580 : decode code 580 = .ok (.iconst 3, 1) := by decide +kernel
theorem d_W_581 : decode code 581 = .ok (.iadd, 1) := by decide +kernel
theorem d_W_582 : decode code 582 = .ok (.iaload, 1) := by decide +kernel
theorem d_W_583 : decode code 583 = .ok (.aload_n 3, 1) := by decide +kernel
theorem d_W_584 : decode code 584 = .ok (.invokestatic 102, 3) := by decide +kernel
theorem d_W_587 : decode code 587 = .ok (.istore 5, 2) := by decide +kernel
theorem d_W_589 : decode code 589 = .ok (.aload_n 2, 1) := by decide +kernel
theorem d_W_590 : decode code 590 = .ok (.aload_n 0, 1) := by decide +kernel
theorem d_W_591 : decode code 591 = .ok (.iload 4, 2) := by decide +kernel
theorem d_W_593 : decode code 593 = .ok (.iconst 1, 1) := by decide +kernel
theorem d_W_594 : decode code 594 = .ok (.iadd, 1) := by decide +kernel
theorem d_W_595 : decode code 595 = .ok (.iaload, 1) := by decide +kernel
theorem d_W_596 : decode code 596 = .ok (.aload_n 0, 1) := by decide +kernel
theorem d_W_597 : decode code 597 = .ok (.iload 4, 2) := by decide +kernel
theorem d_W_599 : decode code 599 = .ok (.iconst 2, 1) := by decide +kernel
theorem d_W_600 : decode code 600 = .ok (.iadd, 1) := by decide +kernel
theorem d_W_601 : decode code 601 = .ok (.iaload, 1) := by decide +kernel
theorem d_W_602 : decode code 602 = .ok (.aload_n 0, 1) := by decide +kernel
theorem d_W_603 : decode code 603 = .ok (.iload 4, 2) := by decide +kernel
theorem d_W_605 : decode code 605 = .ok (.iconst 3, 1) := by decide +kernel
theorem d_W_606 : decode code 606 = .ok (.iadd, 1) := by decide +kernel
theorem d_W_607 : decode code 607 = .ok (.iaload, 1) := by decide +kernel
theorem d_W_608 : decode code 608 = .ok (.invokevirtual 104, 3) := by decide +kernel
theorem d_W_611 : decode code 611 = .ok (.istore 6, 2) := by decide +kernel
theorem d_W_613 : decode code 613 = .ok (.aload_n 2, 1) := by decide +kernel
theorem d_W_614 : decode code 614 = .ok (.invokevirtual 79, 3) := by decide +kernel
theorem d_W_617 : decode code 617 = .ok (.iload 5, 2) := by decide +kernel
theorem d_W_619 : decode code 619 = .ok (.if_icmp .eq 5, 3) := by decide +kernel
theorem d_W_622 : decode code 622 = .ok (.iconst 0, 1) := by decide +kernel
theorem d_W_623 : decode code 623 = .ok (.ireturn, 1) := by decide +kernel
theorem d_W_624 : decode code 624 = .ok (.iload 5, 2) := by decide +kernel
theorem d_W_626 : decode code 626 = .ok (.ifCond .ne 15, 3) := by decide +kernel
theorem d_W_629 : decode code 629 = .ok (.aload_n 3, 1) := by decide +kernel
theorem d_W_630 : decode code 630 = .ok (.iconst 0, 1) := by decide +kernel
theorem d_W_631 : decode code 631 = .ok (.laload, 1) := by decide +kernel
theorem d_W_632 : decode code 632 = .ok (.iload 6, 2) := by decide +kernel
theorem d_W_634 : decode code 634 = .ok (.i2l, 1) := by decide +kernel
theorem d_W_635 : decode code 635 = .ok (.lcmp, 1) := by decide +kernel
theorem d_W_636 : decode code 636 = .ok (.ifCond .eq 5, 3) := by decide +kernel
theorem d_W_639 : decode code 639 = .ok (.iconst 0, 1) := by decide +kernel
theorem d_W_640 : decode code 640 = .ok (.ireturn, 1) := by decide +kernel
theorem d_W_641 : decode code 641 = .ok (.goto 502, 3) := by decide +kernel
theorem d_W_644 : decode code 644 = .ok (.aload_n 1, 1) := by decide +kernel
theorem d_W_645 : decode code 645 = .ok (.aload_n 0, 1) := by decide +kernel
theorem d_W_646 : decode code 646 = .ok (.iload 4, 2) := by decide +kernel
theorem d_W_648 : decode code 648 = .ok (.iconst 1, 1) := by decide +kernel
theorem d_W_649 : decode code 649 = .ok (.iadd, 1) := by decide +kernel
theorem d_W_650 : decode code 650 = .ok (.iaload, 1) := by decide +kernel
theorem d_W_651 : decode code 651 = .ok (.aload_n 0, 1) := by decide +kernel
theorem d_W_652 : decode code 652 = .ok (.iload 4, 2) := by decide +kernel
theorem d_W_654 : decode code 654 = .ok (.iconst 2, 1) := by decide +kernel
theorem d_W_655 : decode code 655 = .ok (.iadd, 1) := by decide +kernel
theorem d_W_656 : decode code 656 = .ok (.iaload, 1) := by decide +kernel
theorem d_W_657 : decode code 657 = .ok (.aload_n 3, 1) := by decide +kernel
theorem d_W_658 : decode code 658 = .ok (.invokestatic 105, 3) := by decide +kernel
theorem d_W_661 : decode code 661 = .ok (.istore 5, 2) := by decide +kernel
theorem d_W_663 : decode code 663 = .ok (.aload_n 2, 1) := by decide +kernel
theorem d_W_664 : decode code 664 = .ok (.aload_n 0, 1) := by decide +kernel
theorem d_W_665 : decode code 665 = .ok (.iload 4, 2) := by decide +kernel
theorem d_W_667 : decode code 667 = .ok (.iconst 1, 1) := by decide +kernel
theorem d_W_668 : decode code 668 = .ok (.iadd, 1) := by decide +kernel
theorem d_W_669 : decode code 669 = .ok (.iaload, 1) := by decide +kernel
theorem d_W_670 : decode code 670 = .ok (.aload_n 0, 1) := by decide +kernel
theorem d_W_671 : decode code 671 = .ok (.iload 4, 2) := by decide +kernel
theorem d_W_673 : decode code 673 = .ok (.iconst 2, 1) := by decide +kernel
theorem d_W_674 : decode code 674 = .ok (.iadd, 1) := by decide +kernel
theorem d_W_675 : decode code 675 = .ok (.iaload, 1) := by decide +kernel
theorem d_W_676 : decode code 676 = .ok (.invokevirtual 107, 3) := by decide +kernel
theorem d_W_679 : decode code 679 = .ok (.istore 6, 2) := by decide +kernel
theorem d_W_681 : decode code 681 = .ok (.aload_n 2, 1) := by decide +kernel
theorem d_W_682 : decode code 682 = .ok (.invokevirtual 79, 3) := by decide +kernel
theorem d_W_685 : decode code 685 = .ok (.iload 5, 2) := by decide +kernel
theorem d_W_687 : decode code 687 = .ok (.if_icmp .eq 5, 3) := by decide +kernel
theorem d_W_690 : decode code 690 = .ok (.iconst 0, 1) := by decide +kernel
theorem d_W_691 : decode code 691 = .ok (.ireturn, 1) := by decide +kernel
theorem d_W_692 : decode code 692 = .ok (.iload 5, 2) := by decide +kernel
theorem d_W_694 : decode code 694 = .ok (.ifCond .ne 15, 3) := by decide +kernel
theorem d_W_697 : decode code 697 = .ok (.aload_n 3, 1) := by decide +kernel
theorem d_W_698 : decode code 698 = .ok (.iconst 0, 1) := by decide +kernel
theorem d_W_699 : decode code 699 = .ok (.laload, 1) := by decide +kernel
theorem d_W_700 : decode code 700 = .ok (.iload 6, 2) := by decide +kernel
theorem d_W_702 : decode code 702 = .ok (.i2l, 1) := by decide +kernel
theorem d_W_703 : decode code 703 = .ok (.lcmp, 1) := by decide +kernel
theorem d_W_704 : decode code 704 = .ok (.ifCond .eq 5, 3) := by decide +kernel
theorem d_W_707 : decode code 707 = .ok (.iconst 0, 1) := by decide +kernel
theorem d_W_708 : decode code 708 = .ok (.ireturn, 1) := by decide +kernel
theorem d_W_709 : decode code 709 = .ok (.goto 434, 3) := by decide +kernel
theorem d_W_712 : decode code 712 = .ok (.aload_n 1, 1) := by decide +kernel
theorem d_W_713 : decode code 713 = .ok (.aload_n 0, 1) := by decide +kernel
theorem d_W_714 : decode code 714 = .ok (.iload 4, 2) := by decide +kernel
theorem d_W_716 : decode code 716 = .ok (.iconst 1, 1) := by decide +kernel
theorem d_W_717 : decode code 717 = .ok (.iadd, 1) := by decide +kernel
theorem d_W_718 : decode code 718 = .ok (.iaload, 1) := by decide +kernel
theorem d_W_719 : decode code 719 = .ok (.aload_n 3, 1) := by decide +kernel
theorem d_W_720 : decode code 720 = .ok (.invokestatic 108, 3) := by decide +kernel
theorem d_W_723 : decode code 723 = .ok (.istore 5, 2) := by decide +kernel
theorem d_W_725 : decode code 725 = .ok (.aload_n 2, 1) := by decide +kernel
theorem d_W_726 : decode code 726 = .ok (.aload_n 0, 1) := by decide +kernel
theorem d_W_727 : decode code 727 = .ok (.iload 4, 2) := by decide +kernel
theorem d_W_729 : decode code 729 = .ok (.iconst 1, 1) := by decide +kernel
theorem d_W_730 : decode code 730 = .ok (.iadd, 1) := by decide +kernel
theorem d_W_731 : decode code 731 = .ok (.iaload, 1) := by decide +kernel
theorem d_W_732 : decode code 732 = .ok (.invokevirtual 110, 3) := by decide +kernel
theorem d_W_735 : decode code 735 = .ok (.istore 6, 2) := by decide +kernel
theorem d_W_737 : decode code 737 = .ok (.aload_n 2, 1) := by decide +kernel
theorem d_W_738 : decode code 738 = .ok (.invokevirtual 79, 3) := by decide +kernel
theorem d_W_741 : decode code 741 = .ok (.iload 5, 2) := by decide +kernel
theorem d_W_743 : decode code 743 = .ok (.if_icmp .eq 5, 3) := by decide +kernel
theorem d_W_746 : decode code 746 = .ok (.iconst 0, 1) := by decide +kernel
theorem d_W_747 : decode code 747 = .ok (.ireturn, 1) := by decide +kernel
theorem d_W_748 : decode code 748 = .ok (.iload 5, 2) := by decide +kernel
theorem d_W_750 : decode code 750 = .ok (.ifCond .ne 15, 3) := by decide +kernel
theorem d_W_753 : decode code 753 = .ok (.aload_n 3, 1) := by decide +kernel
theorem d_W_754 : decode code 754 = .ok (.iconst 0, 1) := by decide +kernel
theorem d_W_755 : decode code 755 = .ok (.laload, 1) := by decide +kernel
theorem d_W_756 : decode code 756 = .ok (.iload 6, 2) := by decide +kernel
theorem d_W_758 : decode code 758 = .ok (.i2l, 1) := by decide +kernel
theorem d_W_759 : decode code 759 = .ok (.lcmp, 1) := by decide +kernel
theorem d_W_760 : decode code 760 = .ok (.ifCond .eq 5, 3) := by decide +kernel
theorem d_W_763 : decode code 763 = .ok (.iconst 0, 1) := by decide +kernel
theorem d_W_764 : decode code 764 = .ok (.ireturn, 1) := by decide +kernel
theorem d_W_765 : decode code 765 = .ok (.goto 378, 3) := by decide +kernel
theorem d_W_768 : decode code 768 = .ok (.aload_n 1, 1) := by decide +kernel
theorem d_W_769 : decode code 769 = .ok (.aload_n 0, 1) := by decide +kernel
theorem d_W_770 : decode code 770 = .ok (.iload 4, 2) := by decide +kernel
theorem d_W_772 : decode code 772 = .ok (.iconst 1, 1) := by decide +kernel
theorem d_W_773 : decode code 773 = .ok (.iadd, 1) := by decide +kernel
theorem d_W_774 : decode code 774 = .ok (.iaload, 1) := by decide +kernel
theorem d_W_775 : decode code 775 = .ok (.aload_n 0, 1) := by decide +kernel
theorem d_W_776 : decode code 776 = .ok (.iload 4, 2) := by decide +kernel
theorem d_W_778 : decode code 778 = .ok (.iconst 2, 1) := by decide +kernel
theorem d_W_779 : decode code 779 = .ok (.iadd, 1) := by decide +kernel
theorem d_W_780 : decode code 780 = .ok (.iaload, 1) := by decide +kernel
theorem d_W_781 : decode code 781 = .ok (.invokestatic 111, 3) := by decide +kernel
theorem d_W_784 : decode code 784 = .ok (.istore 5, 2) := by decide +kernel
theorem d_W_786 : decode code 786 = .ok (.aload_n 2, 1) := by decide +kernel
theorem d_W_787 : decode code 787 = .ok (.aload_n 0, 1) := by decide +kernel
theorem d_W_788 : decode code 788 = .ok (.iload 4, 2) := by decide +kernel
theorem d_W_790 : decode code 790 = .ok (.iconst 1, 1) := by decide +kernel
theorem d_W_791 : decode code 791 = .ok (.iadd, 1) := by decide +kernel
theorem d_W_792 : decode code 792 = .ok (.iaload, 1) := by decide +kernel
theorem d_W_793 : decode code 793 = .ok (.aload_n 0, 1) := by decide +kernel
theorem d_W_794 : decode code 794 = .ok (.iload 4, 2) := by decide +kernel
theorem d_W_796 : decode code 796 = .ok (.iconst 2, 1) := by decide +kernel
theorem d_W_797 : decode code 797 = .ok (.iadd, 1) := by decide +kernel
theorem d_W_798 : decode code 798 = .ok (.iaload, 1) := by decide +kernel
theorem d_W_799 : decode code 799 = .ok (.invokevirtual 113, 3) := by decide +kernel
theorem d_W_802 : decode code 802 = .ok (.aload_n 2, 1) := by decide +kernel
theorem d_W_803 : decode code 803 = .ok (.invokevirtual 79, 3) := by decide +kernel
theorem d_W_806 : decode code 806 = .ok (.iload 5, 2) := by decide +kernel
theorem d_W_808 : decode code 808 = .ok (.if_icmp .eq 5, 3) := by decide +kernel
theorem d_W_811 : decode code 811 = .ok (.iconst 0, 1) := by decide +kernel
theorem d_W_812 : decode code 812 = .ok (.ireturn, 1) := by decide +kernel
theorem d_W_813 : decode code 813 = .ok (.goto 330, 3) := by decide +kernel
theorem d_W_816 : decode code 816 = .ok (.aload_n 1, 1) := by decide +kernel
theorem d_W_817 : decode code 817 = .ok (.aload_n 0, 1) := by decide +kernel
theorem d_W_818 : decode code 818 = .ok (.iload 4, 2) := by decide +kernel
theorem d_W_820 : decode code 820 = .ok (.iconst 1, 1) := by decide +kernel
theorem d_W_821 : decode code 821 = .ok (.iadd, 1) := by decide +kernel
theorem d_W_822 : decode code 822 = .ok (.iaload, 1) := by decide +kernel
theorem d_W_823 : decode code 823 = .ok (.invokestatic 114, 3) := by decide +kernel
theorem d_W_826 : decode code 826 = .ok (.istore 5, 2) := by decide +kernel
theorem d_W_828 : decode code 828 = .ok (.aload_n 2, 1) := by decide +kernel
theorem d_W_829 : decode code 829 = .ok (.aload_n 0, 1) := by decide +kernel
theorem d_W_830 : decode code 830 = .ok (.iload 4, 2) := by decide +kernel
theorem d_W_832 : decode code 832 = .ok (.iconst 1, 1) := by decide +kernel
theorem d_W_833 : decode code 833 = .ok (.iadd, 1) := by decide +kernel
theorem d_W_834 : decode code 834 = .ok (.iaload, 1) := by decide +kernel
theorem d_W_835 : decode code 835 = .ok (.invokevirtual 117, 3) := by decide +kernel
theorem d_W_838 : decode code 838 = .ok (.aload_n 2, 1) := by decide +kernel
theorem d_W_839 : decode code 839 = .ok (.invokevirtual 79, 3) := by decide +kernel
theorem d_W_842 : decode code 842 = .ok (.iload 5, 2) := by decide +kernel
theorem d_W_844 : decode code 844 = .ok (.if_icmp .eq 5, 3) := by decide +kernel
theorem d_W_847 : decode code 847 = .ok (.iconst 0, 1) := by decide +kernel
theorem d_W_848 : decode code 848 = .ok (.ireturn, 1) := by decide +kernel
theorem d_W_849 : decode code 849 = .ok (.goto 294, 3) := by decide +kernel
theorem d_W_852 : decode code 852 = .ok (.aload_n 1, 1) := by decide +kernel
theorem d_W_853 : decode code 853 = .ok (.aload_n 0, 1) := by decide +kernel
theorem d_W_854 : decode code 854 = .ok (.iload 4, 2) := by decide +kernel
theorem d_W_856 : decode code 856 = .ok (.iconst 1, 1) := by decide +kernel
theorem d_W_857 : decode code 857 = .ok (.iadd, 1) := by decide +kernel
theorem d_W_858 : decode code 858 = .ok (.iaload, 1) := by decide +kernel
theorem d_W_859 : decode code 859 = .ok (.invokestatic 118, 3) := by decide +kernel
theorem d_W_862 : decode code 862 = .ok (.istore 5, 2) := by decide +kernel
theorem d_W_864 : decode code 864 = .ok (.aload_n 2, 1) := by decide +kernel
theorem d_W_865 : decode code 865 = .ok (.aload_n 0, 1) := by decide +kernel
theorem d_W_866 : decode code 866 = .ok (.iload 4, 2) := by decide +kernel
theorem d_W_868 : decode code 868 = .ok (.iconst 1, 1) := by decide +kernel
theorem d_W_869 : decode code 869 = .ok (.iadd, 1) := by decide +kernel
theorem d_W_870 : decode code 870 = .ok (.iaload, 1) := by decide +kernel
theorem d_W_871 : decode code 871 = .ok (.invokevirtual 120, 3) := by decide +kernel
theorem d_W_874 : decode code 874 = .ok (.aload_n 2, 1) := by decide +kernel
theorem d_W_875 : decode code 875 = .ok (.invokevirtual 79, 3) := by decide +kernel
theorem d_W_878 : decode code 878 = .ok (.iload 5, 2) := by decide +kernel
theorem d_W_880 : decode code 880 = .ok (.if_icmp .eq 5, 3) := by decide +kernel
theorem d_W_883 : decode code 883 = .ok (.iconst 0, 1) := by decide +kernel
theorem d_W_884 : decode code 884 = .ok (.ireturn, 1) := by decide +kernel
theorem d_W_885 : decode code 885 = .ok (.goto 258, 3) := by decide +kernel
theorem d_W_888 : decode code 888 = .ok (.aload_n 1, 1) := by decide +kernel
theorem d_W_889 : decode code 889 = .ok (.aload_n 0, 1) := by decide +kernel
theorem d_W_890 : decode code 890 = .ok (.iload 4, 2) := by decide +kernel
theorem d_W_892 : decode code 892 = .ok (.iconst 1, 1) := by decide +kernel
theorem d_W_893 : decode code 893 = .ok (.iadd, 1) := by decide +kernel
theorem d_W_894 : decode code 894 = .ok (.iaload, 1) := by decide +kernel
theorem d_W_895 : decode code 895 = .ok (.invokestatic 121, 3) := by decide +kernel
theorem d_W_898 : decode code 898 = .ok (.istore 5, 2) := by decide +kernel
theorem d_W_900 : decode code 900 = .ok (.aload_n 2, 1) := by decide +kernel
theorem d_W_901 : decode code 901 = .ok (.aload_n 0, 1) := by decide +kernel
theorem d_W_902 : decode code 902 = .ok (.iload 4, 2) := by decide +kernel
theorem d_W_904 : decode code 904 = .ok (.iconst 1, 1) := by decide +kernel
theorem d_W_905 : decode code 905 = .ok (.iadd, 1) := by decide +kernel
theorem d_W_906 : decode code 906 = .ok (.iaload, 1) := by decide +kernel
theorem d_W_907 : decode code 907 = .ok (.invokevirtual 123, 3) := by decide +kernel
theorem d_W_910 : decode code 910 = .ok (.aload_n 2, 1) := by decide +kernel
theorem d_W_911 : decode code 911 = .ok (.invokevirtual 79, 3) := by decide +kernel
theorem d_W_914 : decode code 914 = .ok (.iload 5, 2) := by decide +kernel
theorem d_W_916 : decode code 916 = .ok (.if_icmp .eq 5, 3) := by decide +kernel
theorem d_W_919 : decode code 919 = .ok (.iconst 0, 1) := by decide +kernel
theorem d_W_920 : decode code 920 = .ok (.ireturn, 1) := by decide +kernel
theorem d_W_921 : decode code 921 = .ok (.goto 222, 3) := by decide +kernel
theorem d_W_924 : decode code 924 = .ok (.aload_n 1, 1) := by decide +kernel
theorem d_W_925 : decode code 925 = .ok (.aload_n 0, 1) := by decide +kernel
theorem d_W_926 : decode code 926 = .ok (.iload 4, 2) := by decide +kernel
theorem d_W_928 : decode code 928 = .ok (.iconst 1, 1) := by decide +kernel
theorem d_W_929 : decode code 929 = .ok (.iadd, 1) := by decide +kernel
theorem d_W_930 : decode code 930 = .ok (.iaload, 1) := by decide +kernel
theorem d_W_931 : decode code 931 = .ok (.aload_n 3, 1) := by decide +kernel
theorem d_W_932 : decode code 932 = .ok (.invokestatic 124, 3) := by decide +kernel
theorem d_W_935 : decode code 935 = .ok (.istore 5, 2) := by decide +kernel
theorem d_W_937 : decode code 937 = .ok (.aload_n 2, 1) := by decide +kernel
theorem d_W_938 : decode code 938 = .ok (.aload_n 0, 1) := by decide +kernel
theorem d_W_939 : decode code 939 = .ok (.iload 4, 2) := by decide +kernel
theorem d_W_941 : decode code 941 = .ok (.iconst 1, 1) := by decide +kernel
theorem d_W_942 : decode code 942 = .ok (.iadd, 1) := by decide +kernel
theorem d_W_943 : decode code 943 = .ok (.iaload, 1) := by decide +kernel
theorem d_W_944 : decode code 944 = .ok (.invokevirtual 126, 3) := by decide +kernel
theorem d_W_947 : decode code 947 = .ok (.istore 6, 2) := by decide +kernel
theorem d_W_949 : decode code 949 = .ok (.aload_n 2, 1) := by decide +kernel
theorem d_W_950 : decode code 950 = .ok (.invokevirtual 79, 3) := by decide +kernel
theorem d_W_953 : decode code 953 = .ok (.iload 5, 2) := by decide +kernel
theorem d_W_955 : decode code 955 = .ok (.if_icmp .eq 5, 3) := by decide +kernel
theorem d_W_958 : decode code 958 = .ok (.iconst 0, 1) := by decide +kernel
theorem d_W_959 : decode code 959 = .ok (.ireturn, 1) := by decide +kernel
theorem d_W_960 : decode code 960 = .ok (.iload 5, 2) := by decide +kernel
theorem d_W_962 : decode code 962 = .ok (.ifCond .ne 15, 3) := by decide +kernel
theorem d_W_965 : decode code 965 = .ok (.aload_n 3, 1) := by decide +kernel
theorem d_W_966 : decode code 966 = .ok (.iconst 0, 1) := by decide +kernel
theorem d_W_967 : decode code 967 = .ok (.laload, 1) := by decide +kernel
theorem d_W_968 : decode code 968 = .ok (.iload 6, 2) := by decide +kernel
theorem d_W_970 : decode code 970 = .ok (.i2l, 1) := by decide +kernel
theorem d_W_971 : decode code 971 = .ok (.lcmp, 1) := by decide +kernel
theorem d_W_972 : decode code 972 = .ok (.ifCond .eq 5, 3) := by decide +kernel
theorem d_W_975 : decode code 975 = .ok (.iconst 0, 1) := by decide +kernel
theorem d_W_976 : decode code 976 = .ok (.ireturn, 1) := by decide +kernel
theorem d_W_977 : decode code 977 = .ok (.goto 166, 3) := by decide +kernel
theorem d_W_980 : decode code 980 = .ok (.aload_n 1, 1) := by decide +kernel
theorem d_W_981 : decode code 981 = .ok (.aload_n 0, 1) := by decide +kernel
theorem d_W_982 : decode code 982 = .ok (.iload 4, 2) := by decide +kernel
theorem d_W_984 : decode code 984 = .ok (.iconst 1, 1) := by decide +kernel
theorem d_W_985 : decode code 985 = .ok (.iadd, 1) := by decide +kernel
theorem d_W_986 : decode code 986 = .ok (.iaload, 1) := by decide +kernel
theorem d_W_987 : decode code 987 = .ok (.aload_n 3, 1) := by decide +kernel
theorem d_W_988 : decode code 988 = .ok (.invokestatic 127, 3) := by decide +kernel
theorem d_W_991 : decode code 991 = .ok (.istore 5, 2) := by decide +kernel
theorem d_W_993 : decode code 993 = .ok (.aload_n 2, 1) := by decide +kernel
theorem d_W_994 : decode code 994 = .ok (.aload_n 0, 1) := by decide +kernel
theorem d_W_995 : decode code 995 = .ok (.iload 4, 2) := by decide +kernel
theorem d_W_997 : decode code 997 = .ok (.iconst 1, 1) := by decide +kernel
theorem d_W_998 : decode code 998 = .ok (.iadd, 1) := by decide +kernel
theorem d_W_999 : decode code 999 = .ok (.iaload, 1) := by decide +kernel
theorem d_W_1000 : decode code 1000 = .ok (.invokevirtual 129, 3) := by decide +kernel
theorem d_W_1003 : decode code 1003 = .ok (.istore 6, 2) := by decide +kernel
theorem d_W_1005 : decode code 1005 = .ok (.aload_n 2, 1) := by decide +kernel
theorem d_W_1006 : decode code 1006 = .ok (.invokevirtual 79, 3) := by decide +kernel
theorem d_W_1009 : decode code 1009 = .ok (.iload 5, 2) := by decide +kernel
theorem d_W_1011 : decode code 1011 = .ok (.if_icmp .eq 5, 3) := by decide +kernel
theorem d_W_1014 : decode code 1014 = .ok (.iconst 0, 1) := by decide +kernel
theorem d_W_1015 : decode code 1015 = .ok (.ireturn, 1) := by decide +kernel
theorem d_W_1016 : decode code 1016 = .ok (.iload 5, 2) := by decide +kernel
theorem d_W_1018 : decode code 1018 = .ok (.ifCond .ne 15, 3) := by decide +kernel
theorem d_W_1021 : decode code 1021 = .ok (.aload_n 3, 1) := by decide +kernel
theorem d_W_1022 : decode code 1022 = .ok (.iconst 0, 1) := by decide +kernel
theorem d_W_1023 : decode code 1023 = .ok (.laload, 1) := by decide +kernel
theorem d_W_1024 : decode code 1024 = .ok (.iload 6, 2) := by decide +kernel
theorem d_W_1026 : decode code 1026 = .ok (.i2l, 1) := by decide +kernel
theorem d_W_1027 : decode code 1027 = .ok (.lcmp, 1) := by decide +kernel
theorem d_W_1028 : decode code 1028 = .ok (.ifCond .eq 5, 3) := by decide +kernel
theorem d_W_1031 : decode code 1031 = .ok (.iconst 0, 1) := by decide +kernel
theorem d_W_1032 : decode code 1032 = .ok (.ireturn, 1) := by decide +kernel
theorem d_W_1033 : decode code 1033 = .ok (.goto 110, 3) := by decide +kernel
theorem d_W_1036 : decode code 1036 = .ok (.aload_n 1, 1) := by decide +kernel
theorem d_W_1037 : decode code 1037 = .ok (.aload_n 0, 1) := by decide +kernel
theorem d_W_1038 : decode code 1038 = .ok (.iload 4, 2) := by decide +kernel
theorem d_W_1040 : decode code 1040 = .ok (.iconst 1, 1) := by decide +kernel
theorem d_W_1041 : decode code 1041 = .ok (.iadd, 1) := by decide +kernel
theorem d_W_1042 : decode code 1042 = .ok (.iaload, 1) := by decide +kernel
theorem d_W_1043 : decode code 1043 = .ok (.aload_n 0, 1) := by decide +kernel
theorem d_W_1044 : decode code 1044 = .ok (.iload 4, 2) := by decide +kernel
theorem d_W_1046 : decode code 1046 = .ok (.iconst 2, 1) := by decide +kernel
theorem d_W_1047 : decode code 1047 = .ok (.iadd, 1) := by decide +kernel
theorem d_W_1048 : decode code 1048 = .ok (.iaload, 1) := by decide +kernel
theorem d_W_1049 : decode code 1049 = .ok (.aload_n 3, 1) := by decide +kernel
theorem d_W_1050 : decode code 1050 = .ok (.invokestatic 130, 3) := by decide +kernel
theorem d_W_1053 : decode code 1053 = .ok (.istore 5, 2) := by decide +kernel
theorem d_W_1055 : decode code 1055 = .ok (.aload_n 2, 1) := by decide +kernel
theorem d_W_1056 : decode code 1056 = .ok (.aload_n 0, 1) := by decide +kernel
theorem d_W_1057 : decode code 1057 = .ok (.iload 4, 2) := by decide +kernel
theorem d_W_1059 : decode code 1059 = .ok (.iconst 1, 1) := by decide +kernel
theorem d_W_1060 : decode code 1060 = .ok (.iadd, 1) := by decide +kernel
theorem d_W_1061 : decode code 1061 = .ok (.iaload, 1) := by decide +kernel
theorem d_W_1062 : decode code 1062 = .ok (.aload_n 0, 1) := by decide +kernel
theorem d_W_1063 : decode code 1063 = .ok (.iload 4, 2) := by decide +kernel
theorem d_W_1065 : decode code 1065 = .ok (.iconst 2, 1) := by decide +kernel
theorem d_W_1066 : decode code 1066 = .ok (.iadd, 1) := by decide +kernel
theorem d_W_1067 : decode code 1067 = .ok (.iaload, 1) := by decide +kernel
theorem d_W_1068 : decode code 1068 = .ok (.invokevirtual 132, 3) := by decide +kernel
theorem d_W_1071 : decode code 1071 = .ok (.istore 6, 2) := by decide +kernel
theorem d_W_1073 : decode code 1073 = .ok (.aload_n 2, 1) := by decide +kernel
theorem d_W_1074 : decode code 1074 = .ok (.invokevirtual 79, 3) := by decide +kernel
theorem d_W_1077 : decode code 1077 = .ok (.iload 5, 2) := by decide +kernel
theorem d_W_1079 : decode code 1079 = .ok (.if_icmp .eq 5, 3) := by decide +kernel
theorem d_W_1082 : decode code 1082 = .ok (.iconst 0, 1) := by decide +kernel
theorem d_W_1083 : decode code 1083 = .ok (.ireturn, 1) := by decide +kernel
theorem d_W_1084 : decode code 1084 = .ok (.iload 5, 2) := by decide +kernel
theorem d_W_1086 : decode code 1086 = .ok (.ifCond .ne 15, 3) := by decide +kernel
theorem d_W_1089 : decode code 1089 = .ok (.aload_n 3, 1) := by decide +kernel
theorem d_W_1090 : decode code 1090 = .ok (.iconst 0, 1) := by decide +kernel
theorem d_W_1091 : decode code 1091 = .ok (.laload, 1) := by decide +kernel
theorem d_W_1092 : decode code 1092 = .ok (.iload 6, 2) := by decide +kernel
theorem d_W_1094 : decode code 1094 = .ok (.i2l, 1) := by decide +kernel
theorem d_W_1095 : decode code 1095 = .ok (.lcmp, 1) := by decide +kernel
theorem d_W_1096 : decode code 1096 = .ok (.ifCond .eq 5, 3) := by decide +kernel
theorem d_W_1099 : decode code 1099 = .ok (.iconst 0, 1) := by decide +kernel
theorem d_W_1100 : decode code 1100 = .ok (.ireturn, 1) := by decide +kernel
theorem d_W_1101 : decode code 1101 = .ok (.goto 42, 3) := by decide +kernel
theorem d_W_1104 : decode code 1104 = .ok (.aload_n 1, 1) := by decide +kernel
theorem d_W_1105 : decode code 1105 = .ok (.invokevirtual 133, 3) := by decide +kernel
theorem d_W_1108 : decode code 1108 = .ok (.aload_n 2, 1) := by decide +kernel
theorem d_W_1109 : decode code 1109 = .ok (.invokevirtual 136, 3) := by decide +kernel
theorem d_W_1112 : decode code 1112 = .ok (.if_icmp .eq 31, 3) := by decide +kernel
theorem d_W_1115 : decode code 1115 = .ok (.iconst 0, 1) := by decide +kernel
theorem d_W_1116 : decode code 1116 = .ok (.ireturn, 1) := by decide +kernel
theorem d_W_1117 : decode code 1117 = .ok (.aload_n 1, 1) := by decide +kernel
theorem d_W_1118 : decode code 1118 = .ok (.invokevirtual 137, 3) := by decide +kernel
theorem d_W_1121 : decode code 1121 = .ok (.aload_n 2, 1) := by decide +kernel
theorem d_W_1122 : decode code 1122 = .ok (.invokevirtual 140, 3) := by decide +kernel
theorem d_W_1125 : decode code 1125 = .ok (.if_icmp .eq 18, 3) := by decide +kernel
theorem d_W_1128 : decode code 1128 = .ok (.iconst 0, 1) := by decide +kernel
theorem d_W_1129 : decode code 1129 = .ok (.ireturn, 1) := by decide +kernel
theorem d_W_1130 : decode code 1130 = .ok (.aload_n 1, 1) := by decide +kernel
theorem d_W_1131 : decode code 1131 = .ok (.invokevirtual 141, 3) := by decide +kernel
theorem d_W_1134 : decode code 1134 = .ok (.aload_n 2, 1) := by decide +kernel
theorem d_W_1135 : decode code 1135 = .ok (.invokevirtual 144, 3) := by decide +kernel
theorem d_W_1138 : decode code 1138 = .ok (.if_icmp .eq 5, 3) := by decide +kernel
theorem d_W_1141 : decode code 1141 = .ok (.iconst 0, 1) := by decide +kernel
theorem d_W_1142 : decode code 1142 = .ok (.ireturn, 1) := by decide +kernel
theorem d_W_1143 : decode code 1143 = .ok (.iinc 4 5, 3) := by decide +kernel
theorem d_W_1146 : decode code 1146 = .ok (.goto (-1123), 3) := by decide +kernel
theorem d_W_1149 : decode code 1149 = .ok (.iconst 1, 1) := by decide +kernel
theorem d_W_1150 : decode code 1150 = .ok (.ireturn, 1) := by decide +kernel
